/-! CONTRACTS of the class, printed by wip/whole/y/t3.py (93.w0) -/
section Sw
variable {l : Launch} {D : va_G} {cy : Nat → ClassId} {z d bc bs N : Nat} {T : Nat → Nat × Nat} {R : Nat → Nat → Option Nat} {I : Nat → Nat → Int} {K : yKo}
/-- ChairAlley$Land.cellBeside(II)I -/
theorem w_5 (hT : yLT T) (hR : yLR R) {p : Nat} (hp : yAtLand T R p) {x1 x2 : Int} (hk : ∀ r, (True) → K (some (yi r)) (N, T, R, I)) : yW l zSS D cy zFk z d 5 bc bs K 0 0 0 [(0, yr (some p)), (1, yi x1), (2, yi x2)] [] (N, T, R, I) := by
  have L : ∀ m : Nat, (∀ x3 x4 : Int, (2 : Int).toNat < m → (True) → yW l zSS D cy zFk z d 5 bc bs K 0 0 70 [(0, yr (some p)), (3, yi x3), (4, yi x4)] [] (N, T, R, I)) ∧ ((1 : Int).toNat < m → (True) → yW l zSS D cy zFk z d 5 bc bs K 0 0 96 [] [] (N, T, R, I)) := by
    intro m
    induction m with
    | zero => exact ⟨fun _ _ h => absurd h (Nat.not_lt_zero _), fun h => absurd h (Nat.not_lt_zero _)⟩
    | succ m ih =>
      refine ⟨?_, ?_⟩
      · intro x3 x4  hm iv
        refine e_li (i := 3) (x := x3) rfl fun _ _ => ?_
        refine e_li (i := 4) (x := x4) rfl fun _ _ => ?_
        refine B_5_70 hT hR hp ?_
        refine ⟨fun c1 => ?_, fun c1 => ?_⟩
        · exact ih.2  (by omega) trivial
        · refine ⟨fun c2 => ?_, fun c2 => ?_⟩
          · exact ih.2  (by omega) trivial
          · refine ⟨fun c3 => ?_, fun c3 => ?_⟩
            · exact ih.2  (by omega) trivial
            · refine ⟨fun c4 => ?_, fun c4 => ?_⟩
              · exact hk _ trivial
              · exact ih.2  (by omega) trivial
      · intro  hm iv
        refine B_5_96 hT hR hp ?_
        exact hk _ trivial
  refine e_li (i := 1) (x := x1) rfl fun _ _ => ?_
  refine e_li (i := 2) (x := x2) rfl fun _ _ => ?_
  refine B_5_0 hT hR hp ?_
  refine ⟨fun c5 => ?_, fun c5 => ?_⟩
  · exact (L _).1 _ _ (Nat.lt_succ_self _) trivial
  refine ⟨fun c6 => ?_, fun c6 => ?_⟩
  · exact (L _).1 _ _ (Nat.lt_succ_self _) trivial
  refine ⟨fun c7 => ?_, fun c7 => ?_⟩
  · exact (L _).1 _ _ (Nat.lt_succ_self _) trivial
  refine ⟨fun c8 => ?_, fun c8 => ?_⟩
  · exact (L _).1 _ _ (Nat.lt_succ_self _) trivial
  exact hk _ trivial
/-- ChairAlley$Land.chairNamed(J)I -/
theorem w_6 (hT : yLT T) (hR : yLR R) {p : Nat} (hp : yAtLand T R p) {x1 : Int} (hk : ∀ r, (True) → K (some (yi r)) (N, T, R, I)) : yW l zSS D cy zFk z d 6 bc bs K 0 0 0 [(0, yr (some p)), (1, yj x1)] [] (N, T, R, I) := by
  have L : ∀ m : Nat, (∀ x1 x3 : Int, (8 - x3 : Int).toNat < m → (0 ≤ x3 ∧ x3 ≤ 8) → yW l zSS D cy zFk z d 6 bc bs K 0 0 2 [(0, yr (some p)), (1, yj x1), (3, yi x3)] [] (N, T, R, I)) := by
    intro m
    induction m with
    | zero => exact fun _ _ h => absurd h (Nat.not_lt_zero _)
    | succ m ih =>
      intro x1 x3  hm iv
      refine e_li (i := 3) (x := x3) rfl fun _ _ => ?_
      refine B_6_2 hT hR hp ?_
      refine ⟨fun c1 => ?_, fun c1 => ?_⟩
      · exact hk _ trivial
      · refine ⟨fun c2 => ?_, fun c2 => ?_⟩
        · exact hk _ trivial
        · refine ⟨by omega, by omega, ?_⟩
          refine ⟨fun c3 => ?_, fun c3 => ?_⟩
          · have a4 : yadd x3 1 = (x3 + 1) := yadd_eq (by omega) (by omega)
            try rw [a4]
            exact ih _ _ (by omega) (by omega)
          · exact hk _ trivial
  refine B_6_0 hT hR hp ?_
  exact (L _) _ _ (Nat.lt_succ_self _) (by omega)
/-- ChairAlley$Land.hasWay(I)Z -/
theorem w_9 (hT : yLT T) (hR : yLR R) {p : Nat} (hp : yAtLand T R p) {x1 : Int} (hk : ∀ r, (r = 0 ∨ r = 1) → K (some (yi r)) (N, T, R, I)) : yW l zSS D cy zFk z d 9 bc bs K 0 0 0 [(0, yr (some p)), (1, yi x1)] [] (N, T, R, I) := by
  have L : ∀ m : Nat, (∀ x1 x2 : Int, (3 - x2 : Int).toNat < m → (0 ≤ x2 ∧ x2 ≤ 3) → yW l zSS D cy zFk z d 9 bc bs K 0 0 2 [(0, yr (some p)), (1, yi x1), (2, yi x2)] [] (N, T, R, I)) := by
    intro m
    induction m with
    | zero => exact fun _ _ h => absurd h (Nat.not_lt_zero _)
    | succ m ih =>
      intro x1 x2  hm iv
      refine e_li (i := 1) (x := x1) rfl fun _ _ => ?_
      refine e_li (i := 2) (x := x2) rfl fun _ _ => ?_
      refine B_9_2 hT hR hp ?_
      refine ⟨fun c1 => ?_, fun c1 => ?_⟩
      · exact hk _ (by omega)
      · refine ⟨fun c2 => ?_, fun c2 => ?_⟩
        · exact hk _ (by omega)
        · refine ⟨by omega, by omega, ?_⟩
          refine ⟨fun c3 => ?_, fun c3 => ?_⟩
          · have a4 : yadd x2 1 = (x2 + 1) := yadd_eq (by omega) (by omega)
            try rw [a4]
            exact ih _ _ (by omega) (by omega)
          · exact hk _ (by omega)
  refine e_li (i := 1) (x := x1) rfl fun _ _ => ?_
  refine B_9_0 hT hR hp ?_
  exact (L _) _ _ (Nat.lt_succ_self _) (by omega)
/-- ChairAlley$Land.isCell(I)Z -/
theorem w_10 (hT : yLT T) (hR : yLR R) {p : Nat} (hp : yAtLand T R p) {x1 : Int} (hk : ∀ r, ((r = 0 ∧ ¬ (0 ≤ x1 ∧ x1 < 100 ∧ x1 % 10 < I p 0 ∧ x1 / 10 < I p 1)) ∨ (r = 1 ∧ 0 ≤ x1 ∧ x1 < 100 ∧ x1 % 10 < I p 0 ∧ x1 / 10 < I p 1)) → K (some (yi r)) (N, T, R, I)) : yW l zSS D cy zFk z d 10 bc bs K 0 0 0 [(0, yr (some p)), (1, yi x1)] [] (N, T, R, I) := by
  refine e_li (i := 1) (x := x1) rfl fun _ _ => ?_
  refine B_10_0 hT hR hp ?_
  refine ⟨fun c1 => ?_, fun c1 => ?_⟩
  · exact hk _ (by omega)
  · refine ⟨fun c2 => ?_, fun c2 => ?_⟩
    · exact hk _ (by omega)
    · have a3 : yrem x1 10 = (x1 % 10) := yrem_eq (by omega) (by omega) (by omega) (by omega)
      try rw [a3]
      refine ⟨fun c4 => ?_, fun c4 => ?_⟩
      · exact hk _ (by omega)
      · have a5 : ydiv x1 10 = (x1 / 10) := ydiv_eq (by omega) (by omega) (by omega) (by omega)
        try rw [a5]
        refine ⟨fun c6 => ?_, fun c6 => ?_⟩
        · exact hk _ (by omega)
        · exact hk _ (by omega)
/-- ChairAlley$Land.isChair(I)Z -/
theorem w_11 (hT : yLT T) (hR : yLR R) {p : Nat} (hp : yAtLand T R p) {x1 : Int} (hk : ∀ r, ((r = 0 ∧ ¬ (0 ≤ x1 ∧ x1 < 8 ∧ x1 < I p 5)) ∨ (r = 1 ∧ 0 ≤ x1 ∧ x1 < 8 ∧ x1 < I p 5)) → K (some (yi r)) (N, T, R, I)) : yW l zSS D cy zFk z d 11 bc bs K 0 0 0 [(0, yr (some p)), (1, yi x1)] [] (N, T, R, I) := by
  refine e_li (i := 1) (x := x1) rfl fun _ _ => ?_
  refine B_11_0 hT hR hp ?_
  refine ⟨fun c1 => ?_, fun c1 => ?_⟩
  · exact hk _ (by omega)
  · refine ⟨fun c2 => ?_, fun c2 => ?_⟩
    · exact hk _ (by omega)
    · refine ⟨fun c3 => ?_, fun c3 => ?_⟩
      · exact hk _ (by omega)
      · exact hk _ (by omega)
/-- ChairAlley$Land.isMarked(II)Z -/
theorem w_12 (hT : yLT T) (hR : yLR R) {p : Nat} (hp : yAtLand T R p) {x1 x2 : Int} (hk : ∀ r, (r = 0 ∨ r = 1) → K (some (yi r)) (N, T, R, I)) : yW l zSS D cy zFk z d 12 bc bs K 0 0 0 [(0, yr (some p)), (1, yi x1), (2, yi x2)] [] (N, T, R, I) := by
  refine e_li (i := 1) (x := x1) rfl fun _ _ => ?_
  refine e_li (i := 2) (x := x2) rfl fun _ _ => ?_
  refine B_12_0 hT hR hp ?_
  refine ⟨fun c1 => ?_, fun c1 => ?_⟩
  · exact hk _ (by omega)
  · refine ⟨fun c2 => ?_, fun c2 => ?_⟩
    · exact hk _ (by omega)
    · refine ⟨by omega, by omega, ?_⟩
      refine ⟨fun c3 => ?_, fun c3 => ?_⟩
      · exact hk _ (by omega)
      · exact hk _ (by omega)
/-- ChairAlley$Land.target([III)I -/
theorem w_25 (hT : yLT T) (hR : yLR R) {p : Nat} (hp : yAtLand T R p) {w : Nat} (hw : T w = (1, 100)) {x2 x3 : Int} (hk : ∀ r, (True) → K (some (yi r)) (N, T, R, I)) : yW l zSS D cy zFk z (d + 1) 25 bc bs K 0 0 0 [(0, yr (some p)), (1, yr (some w)), (2, yi x2), (3, yi x3)] [] (N, T, R, I) := by
  refine e_li (i := 2) (x := x2) rfl fun _ _ => ?_
  refine e_li (i := 3) (x := x3) rfl fun _ _ => ?_
  refine B_25_0 hT hR hp hw ?_
  refine w_10 (d := d) hT hR hp  (fun r1 q2 => ⟨_, _, rfl, rfl, ?_⟩)
  refine ⟨fun c4 => ?_, fun c4 => ?_⟩
  · exact hk _ trivial
  · refine ⟨fun c5 => ?_, fun c5 => ?_⟩
    · refine ⟨by omega, by omega, ?_⟩
      refine ⟨fun c6 => ?_, fun c6 => ?_⟩
      · refine w_5 (d := d) hT hR hp  (fun r7 q8 => ⟨_, _, rfl, rfl, ?_⟩)
        refine w_12 (d := d) hT hR hp  (fun r10 q11 => ⟨_, _, rfl, rfl, ?_⟩)
        refine ⟨fun c13 => ?_, fun c13 => ?_⟩
        · exact hk _ trivial
        · exact hk _ trivial
      · refine ⟨by omega, by omega, ?_⟩
        refine ⟨fun c14 => ?_, fun c14 => ?_⟩
        · refine w_5 (d := d) hT hR hp  (fun r15 q16 => ⟨_, _, rfl, rfl, ?_⟩)
          refine w_12 (d := d) hT hR hp  (fun r18 q19 => ⟨_, _, rfl, rfl, ?_⟩)
          refine ⟨fun c21 => ?_, fun c21 => ?_⟩
          · exact hk _ trivial
          · exact hk _ trivial
        · exact hk _ trivial
    · exact hk _ trivial
/-- ChairAlley$Land.clear()V -/
theorem w_7 (hT : yLT T) (hR : yLR R) {p : Nat} (hp : yAtLand T R p) (gp : (1 < p ∧ p + 12 ≤ 102) ∨ 126 ≤ p) (hk : ∀ I', (∀ k j, ¬ (p ≤ k ∧ k < p + 12) → I' k j = I k j) → (0 ≤ I' p 0 ∧ I' p 0 ≤ 10 ∧ 0 ≤ I' p 1 ∧ I' p 1 ≤ 10) → K none (N, T, R, I')) : yW l zSS D cy zFk z d 7 bc bs K 0 0 0 [(0, yr (some p))] [] (N, T, R, I) := by
  have k0 : ∀ k j, ¬ (p ≤ k ∧ k < p + 12) → I k j = I k j := fun _ _ _ => rfl
  have L : ∀ m : Nat, (∀ x1 : Int, ∀ X : Nat → Nat → Int, (∀ k j, ¬ (p ≤ k ∧ k < p + 12) → X k j = I k j) → (300 + (100 - x1) : Int).toNat < m → (0 ≤ x1 ∧ x1 ≤ 100 ∧ 0 ≤ X p 0 ∧ X p 0 ≤ 10 ∧ 0 ≤ X p 1 ∧ X p 1 ≤ 10) → yW l zSS D cy zFk z d 7 bc bs K 0 0 22 [(0, yr (some p)), (1, yi x1)] [] (N, T, R, X)) ∧ (∀ x1 : Int, ∀ X : Nat → Nat → Int, (∀ k j, ¬ (p ≤ k ∧ k < p + 12) → X k j = I k j) → (200 + (5 - x1) : Int).toNat < m → (0 ≤ x1 ∧ x1 ≤ 5 ∧ 0 ≤ X p 0 ∧ X p 0 ≤ 10 ∧ 0 ≤ X p 1 ∧ X p 1 ≤ 10) → yW l zSS D cy zFk z d 7 bc bs K 0 0 50 [(0, yr (some p)), (1, yi x1)] [] (N, T, R, X)) ∧ (∀ x1 : Int, ∀ X : Nat → Nat → Int, (∀ k j, ¬ (p ≤ k ∧ k < p + 12) → X k j = I k j) → (100 + (8 - x1) : Int).toNat < m → (0 ≤ x1 ∧ x1 ≤ 8 ∧ 0 ≤ X p 0 ∧ X p 0 ≤ 10 ∧ 0 ≤ X p 1 ∧ X p 1 ≤ 10) → yW l zSS D cy zFk z d 7 bc bs K 0 0 74 [(0, yr (some p)), (1, yi x1)] [] (N, T, R, X)) := by
    intro m
    induction m with
    | zero => exact ⟨fun _ _ _ h => absurd h (Nat.not_lt_zero _), fun _ _ _ h => absurd h (Nat.not_lt_zero _), fun _ _ _ h => absurd h (Nat.not_lt_zero _)⟩
    | succ m ih =>
      refine ⟨?_, ?_, ?_⟩
      · intro x1 X kX hm iv
        first | have tX_p_0 := kX p 0 (by omega) | skip
        first | have tX_p_1 := kX p 1 (by omega) | skip
        refine e_li (i := 1) (x := x1) rfl fun _ _ => ?_
        refine B_7_22 hT hR hp ?_
        refine ⟨fun c1 => ?_, fun c1 => ?_⟩
        · exact ih.2.1 _ _ kX (by omega) (by omega)
        · refine ⟨by omega, by omega, ?_⟩
          intro I2 e3
          have k4 : ∀ k j, ¬ (p ≤ k ∧ k < p + 12) → I2 k j = I k j := fun k j h => ((congrFun (congrFun e3 k) j).trans (yU_ne _ _ (by omega))).trans (kX k j h)
          first | have tI2_p_0 : I2 p 0 = X p 0 := (congrFun (congrFun e3 p) 0).trans (yU_ne _ _ (by omega)) | skip
          first | have tI2_p_1 : I2 p 1 = X p 1 := (congrFun (congrFun e3 p) 1).trans (yU_ne _ _ (by omega)) | skip
          refine ⟨by omega, by omega, ?_⟩
          intro I5 e6
          have k7 : ∀ k j, ¬ (p ≤ k ∧ k < p + 12) → I5 k j = I k j := fun k j h => ((congrFun (congrFun e6 k) j).trans (yU_ne _ _ (by omega))).trans (k4 k j h)
          first | have tI5_p_0 : I5 p 0 = I2 p 0 := (congrFun (congrFun e6 p) 0).trans (yU_ne _ _ (by omega)) | skip
          first | have tI5_p_1 : I5 p 1 = I2 p 1 := (congrFun (congrFun e6 p) 1).trans (yU_ne _ _ (by omega)) | skip
          have a8 : yadd x1 1 = (x1 + 1) := yadd_eq (by omega) (by omega)
          try rw [a8]
          exact ih.1 _ _ k7 (by omega) (by omega)
      · intro x1 X kX hm iv
        first | have tX_p_0 := kX p 0 (by omega) | skip
        first | have tX_p_1 := kX p 1 (by omega) | skip
        refine e_li (i := 1) (x := x1) rfl fun _ _ => ?_
        refine B_7_50 hT hR hp ?_
        refine ⟨fun c9 => ?_, fun c9 => ?_⟩
        · exact ih.2.2 _ _ kX (by omega) (by omega)
        · refine ⟨by omega, by omega, ?_⟩
          intro I10 e11
          have k12 : ∀ k j, ¬ (p ≤ k ∧ k < p + 12) → I10 k j = I k j := fun k j h => ((congrFun (congrFun e11 k) j).trans (yU_ne _ _ (by omega))).trans (kX k j h)
          first | have tI10_p_0 : I10 p 0 = X p 0 := (congrFun (congrFun e11 p) 0).trans (yU_ne _ _ (by omega)) | skip
          first | have tI10_p_1 : I10 p 1 = X p 1 := (congrFun (congrFun e11 p) 1).trans (yU_ne _ _ (by omega)) | skip
          have a13 : yadd x1 1 = (x1 + 1) := yadd_eq (by omega) (by omega)
          try rw [a13]
          exact ih.2.1 _ _ k12 (by omega) (by omega)
      · intro x1 X kX hm iv
        first | have tX_p_0 := kX p 0 (by omega) | skip
        first | have tX_p_1 := kX p 1 (by omega) | skip
        refine e_li (i := 1) (x := x1) rfl fun _ _ => ?_
        refine B_7_74 hT hR hp ?_
        refine ⟨fun c14 => ?_, fun c14 => ?_⟩
        · exact hk _ kX (by omega)
        · refine ⟨by omega, by omega, ?_⟩
          intro I15 e16
          have k17 : ∀ k j, ¬ (p ≤ k ∧ k < p + 12) → I15 k j = I k j := fun k j h => ((congrFun (congrFun e16 k) j).trans (yU_ne _ _ (by omega))).trans (kX k j h)
          first | have tI15_p_0 : I15 p 0 = X p 0 := (congrFun (congrFun e16 p) 0).trans (yU_ne _ _ (by omega)) | skip
          first | have tI15_p_1 : I15 p 1 = X p 1 := (congrFun (congrFun e16 p) 1).trans (yU_ne _ _ (by omega)) | skip
          refine ⟨by omega, by omega, ?_⟩
          intro I18 e19
          have k20 : ∀ k j, ¬ (p ≤ k ∧ k < p + 12) → I18 k j = I k j := fun k j h => ((congrFun (congrFun e19 k) j).trans (yU_ne _ _ (by omega))).trans (k17 k j h)
          first | have tI18_p_0 : I18 p 0 = I15 p 0 := (congrFun (congrFun e19 p) 0).trans (yU_ne _ _ (by omega)) | skip
          first | have tI18_p_1 : I18 p 1 = I15 p 1 := (congrFun (congrFun e19 p) 1).trans (yU_ne _ _ (by omega)) | skip
          have a21 : yadd x1 1 = (x1 + 1) := yadd_eq (by omega) (by omega)
          try rw [a21]
          exact ih.2.2 _ _ k20 (by omega) (by omega)
  refine B_7_0 hT hR hp ?_
  intro I22 e23
  have k24 : ∀ k j, ¬ (p ≤ k ∧ k < p + 12) → I22 k j = I k j := fun k j h => ((congrFun (congrFun e23 k) j).trans (yU_ne _ _ (by omega))).trans (k0 k j h)
  have tI22_p_0 := (congrFun (congrFun e23 p) 0).trans (yU_eq _ _ _ _)
  first | have tI22_p_1 : I22 p 1 = I p 1 := (congrFun (congrFun e23 p) 1).trans (yU_ne _ _ (by omega)) | skip
  intro I25 e26
  have k27 : ∀ k j, ¬ (p ≤ k ∧ k < p + 12) → I25 k j = I k j := fun k j h => ((congrFun (congrFun e26 k) j).trans (yU_ne _ _ (by omega))).trans (k24 k j h)
  first | have tI25_p_0 : I25 p 0 = I22 p 0 := (congrFun (congrFun e26 p) 0).trans (yU_ne _ _ (by omega)) | skip
  have tI25_p_1 := (congrFun (congrFun e26 p) 1).trans (yU_eq _ _ _ _)
  intro I28 e29
  have k30 : ∀ k j, ¬ (p ≤ k ∧ k < p + 12) → I28 k j = I k j := fun k j h => ((congrFun (congrFun e29 k) j).trans (yU_ne _ _ (by omega))).trans (k27 k j h)
  first | have tI28_p_0 : I28 p 0 = I25 p 0 := (congrFun (congrFun e29 p) 0).trans (yU_ne _ _ (by omega)) | skip
  first | have tI28_p_1 : I28 p 1 = I25 p 1 := (congrFun (congrFun e29 p) 1).trans (yU_ne _ _ (by omega)) | skip
  intro I31 e32
  have k33 : ∀ k j, ¬ (p ≤ k ∧ k < p + 12) → I31 k j = I k j := fun k j h => ((congrFun (congrFun e32 k) j).trans (yU_ne _ _ (by omega))).trans (k30 k j h)
  first | have tI31_p_0 : I31 p 0 = I28 p 0 := (congrFun (congrFun e32 p) 0).trans (yU_ne _ _ (by omega)) | skip
  first | have tI31_p_1 : I31 p 1 = I28 p 1 := (congrFun (congrFun e32 p) 1).trans (yU_ne _ _ (by omega)) | skip
  exact (L _).1 _ _ k33 (Nat.lt_succ_self _) (by omega)
/-- ChairAlley$Land.copyFrom(LChairAlley$Land;)V -/
theorem w_8 (hT : yLT T) (hR : yLR R) {p : Nat} (hp : yAtLand T R p) (gp : (1 < p ∧ p + 12 ≤ 102) ∨ 126 ≤ p) {q : Nat} (hq : yAtLand T R q) (gq : (1 < q ∧ q + 12 ≤ 102) ∨ 126 ≤ q) (h0 : 0 ≤ I q 0 ∧ I q 0 ≤ 10 ∧ 0 ≤ I q 1 ∧ I q 1 ≤ 10) (h1 : p + 12 ≤ q ∨ q + 12 ≤ p) (hk : ∀ I', (∀ k j, ¬ (p ≤ k ∧ k < p + 12) → I' k j = I k j) → (0 ≤ I' p 0 ∧ I' p 0 ≤ 10 ∧ 0 ≤ I' p 1 ∧ I' p 1 ≤ 10) → K none (N, T, R, I')) : yW l zSS D cy zFk z (d + 1) 8 bc bs K 0 0 0 [(0, yr (some p)), (1, yr (some q))] [] (N, T, R, I) := by
  have k0 : ∀ k j, ¬ (p ≤ k ∧ k < p + 12) → I k j = I k j := fun _ _ _ => rfl
  have L : ∀ m : Nat, (∀ x2 : Int, ∀ X : Nat → Nat → Int, (∀ k j, ¬ (p ≤ k ∧ k < p + 12) → X k j = I k j) → (8 - x2 : Int).toNat < m → (0 ≤ x2 ∧ x2 ≤ 8 ∧ 0 ≤ X p 0 ∧ X p 0 ≤ 10 ∧ 0 ≤ X p 1 ∧ X p 1 ≤ 10) → yW l zSS D cy zFk z (d + 1) 8 bc bs K 0 0 92 [(0, yr (some p)), (1, yr (some q)), (2, yi x2)] [] (N, T, R, X)) := by
    intro m
    induction m with
    | zero => exact fun _ _ _ h => absurd h (Nat.not_lt_zero _)
    | succ m ih =>
      intro x2 X kX hm iv
      first | have tX_p_0 := kX p 0 (by omega) | skip
      first | have tX_p_1 := kX p 1 (by omega) | skip
      first | have tX_q_0 := kX q 0 (by omega) | skip
      first | have tX_q_1 := kX q 1 (by omega) | skip
      refine e_li (i := 2) (x := x2) rfl fun _ _ => ?_
      refine B_8_92 hT hR hp hq ?_
      refine ⟨fun c1 => ?_, fun c1 => ?_⟩
      · exact hk _ kX (by omega)
      · refine ⟨by omega, by omega, ?_⟩
        refine ⟨by omega, by omega, ?_⟩
        intro I2 e3
        have k4 : ∀ k j, ¬ (p ≤ k ∧ k < p + 12) → I2 k j = I k j := fun k j h => ((congrFun (congrFun e3 k) j).trans (yU_ne _ _ (by omega))).trans (kX k j h)
        first | have tI2_p_0 : I2 p 0 = X p 0 := (congrFun (congrFun e3 p) 0).trans (yU_ne _ _ (by omega)) | skip
        first | have tI2_p_1 : I2 p 1 = X p 1 := (congrFun (congrFun e3 p) 1).trans (yU_ne _ _ (by omega)) | skip
        first | have tI2_q_0 : I2 q 0 = X q 0 := (congrFun (congrFun e3 q) 0).trans (yU_ne _ _ (by omega)) | skip
        first | have tI2_q_1 : I2 q 1 = X q 1 := (congrFun (congrFun e3 q) 1).trans (yU_ne _ _ (by omega)) | skip
        refine ⟨by omega, by omega, ?_⟩
        refine ⟨by omega, by omega, ?_⟩
        intro I5 e6
        have k7 : ∀ k j, ¬ (p ≤ k ∧ k < p + 12) → I5 k j = I k j := fun k j h => ((congrFun (congrFun e6 k) j).trans (yU_ne _ _ (by omega))).trans (k4 k j h)
        first | have tI5_p_0 : I5 p 0 = I2 p 0 := (congrFun (congrFun e6 p) 0).trans (yU_ne _ _ (by omega)) | skip
        first | have tI5_p_1 : I5 p 1 = I2 p 1 := (congrFun (congrFun e6 p) 1).trans (yU_ne _ _ (by omega)) | skip
        first | have tI5_q_0 : I5 q 0 = I2 q 0 := (congrFun (congrFun e6 q) 0).trans (yU_ne _ _ (by omega)) | skip
        first | have tI5_q_1 : I5 q 1 = I2 q 1 := (congrFun (congrFun e6 q) 1).trans (yU_ne _ _ (by omega)) | skip
        refine ⟨by omega, by omega, ?_⟩
        refine ⟨by omega, by omega, ?_⟩
        intro I8 e9
        have k10 : ∀ k j, ¬ (p ≤ k ∧ k < p + 12) → I8 k j = I k j := fun k j h => ((congrFun (congrFun e9 k) j).trans (yU_ne _ _ (by omega))).trans (k7 k j h)
        first | have tI8_p_0 : I8 p 0 = I5 p 0 := (congrFun (congrFun e9 p) 0).trans (yU_ne _ _ (by omega)) | skip
        first | have tI8_p_1 : I8 p 1 = I5 p 1 := (congrFun (congrFun e9 p) 1).trans (yU_ne _ _ (by omega)) | skip
        first | have tI8_q_0 : I8 q 0 = I5 q 0 := (congrFun (congrFun e9 q) 0).trans (yU_ne _ _ (by omega)) | skip
        first | have tI8_q_1 : I8 q 1 = I5 q 1 := (congrFun (congrFun e9 q) 1).trans (yU_ne _ _ (by omega)) | skip
        refine ⟨by omega, by omega, ?_⟩
        refine ⟨by omega, by omega, ?_⟩
        intro I11 e12
        have k13 : ∀ k j, ¬ (p ≤ k ∧ k < p + 12) → I11 k j = I k j := fun k j h => ((congrFun (congrFun e12 k) j).trans (yU_ne _ _ (by omega))).trans (k10 k j h)
        first | have tI11_p_0 : I11 p 0 = I8 p 0 := (congrFun (congrFun e12 p) 0).trans (yU_ne _ _ (by omega)) | skip
        first | have tI11_p_1 : I11 p 1 = I8 p 1 := (congrFun (congrFun e12 p) 1).trans (yU_ne _ _ (by omega)) | skip
        first | have tI11_q_0 : I11 q 0 = I8 q 0 := (congrFun (congrFun e12 q) 0).trans (yU_ne _ _ (by omega)) | skip
        first | have tI11_q_1 : I11 q 1 = I8 q 1 := (congrFun (congrFun e12 q) 1).trans (yU_ne _ _ (by omega)) | skip
        refine ⟨by omega, by omega, ?_⟩
        refine ⟨by omega, by omega, ?_⟩
        intro I14 e15
        have k16 : ∀ k j, ¬ (p ≤ k ∧ k < p + 12) → I14 k j = I k j := fun k j h => ((congrFun (congrFun e15 k) j).trans (yU_ne _ _ (by omega))).trans (k13 k j h)
        first | have tI14_p_0 : I14 p 0 = I11 p 0 := (congrFun (congrFun e15 p) 0).trans (yU_ne _ _ (by omega)) | skip
        first | have tI14_p_1 : I14 p 1 = I11 p 1 := (congrFun (congrFun e15 p) 1).trans (yU_ne _ _ (by omega)) | skip
        first | have tI14_q_0 : I14 q 0 = I11 q 0 := (congrFun (congrFun e15 q) 0).trans (yU_ne _ _ (by omega)) | skip
        first | have tI14_q_1 : I14 q 1 = I11 q 1 := (congrFun (congrFun e15 q) 1).trans (yU_ne _ _ (by omega)) | skip
        refine ⟨by omega, by omega, ?_⟩
        refine ⟨by omega, by omega, ?_⟩
        intro I17 e18
        have k19 : ∀ k j, ¬ (p ≤ k ∧ k < p + 12) → I17 k j = I k j := fun k j h => ((congrFun (congrFun e18 k) j).trans (yU_ne _ _ (by omega))).trans (k16 k j h)
        first | have tI17_p_0 : I17 p 0 = I14 p 0 := (congrFun (congrFun e18 p) 0).trans (yU_ne _ _ (by omega)) | skip
        first | have tI17_p_1 : I17 p 1 = I14 p 1 := (congrFun (congrFun e18 p) 1).trans (yU_ne _ _ (by omega)) | skip
        first | have tI17_q_0 : I17 q 0 = I14 q 0 := (congrFun (congrFun e18 q) 0).trans (yU_ne _ _ (by omega)) | skip
        first | have tI17_q_1 : I17 q 1 = I14 q 1 := (congrFun (congrFun e18 q) 1).trans (yU_ne _ _ (by omega)) | skip
        refine ⟨by omega, by omega, ?_⟩
        refine ⟨by omega, by omega, ?_⟩
        intro I20 e21
        have k22 : ∀ k j, ¬ (p ≤ k ∧ k < p + 12) → I20 k j = I k j := fun k j h => ((congrFun (congrFun e21 k) j).trans (yU_ne _ _ (by omega))).trans (k19 k j h)
        first | have tI20_p_0 : I20 p 0 = I17 p 0 := (congrFun (congrFun e21 p) 0).trans (yU_ne _ _ (by omega)) | skip
        first | have tI20_p_1 : I20 p 1 = I17 p 1 := (congrFun (congrFun e21 p) 1).trans (yU_ne _ _ (by omega)) | skip
        first | have tI20_q_0 : I20 q 0 = I17 q 0 := (congrFun (congrFun e21 q) 0).trans (yU_ne _ _ (by omega)) | skip
        first | have tI20_q_1 : I20 q 1 = I17 q 1 := (congrFun (congrFun e21 q) 1).trans (yU_ne _ _ (by omega)) | skip
        have a23 : yadd x2 1 = (x2 + 1) := yadd_eq (by omega) (by omega)
        try rw [a23]
        exact ih _ _ k22 (by omega) (by omega)
  refine B_8_0 hT hR hp hq ?_
  intro I24 e25
  have k26 : ∀ k j, ¬ (p ≤ k ∧ k < p + 12) → I24 k j = I k j := fun k j h => ((congrFun (congrFun e25 k) j).trans (yU_ne _ _ (by omega))).trans (k0 k j h)
  have tI24_p_0 := (congrFun (congrFun e25 p) 0).trans (yU_eq _ _ _ _)
  first | have tI24_p_1 : I24 p 1 = I p 1 := (congrFun (congrFun e25 p) 1).trans (yU_ne _ _ (by omega)) | skip
  first | have tI24_q_0 : I24 q 0 = I q 0 := (congrFun (congrFun e25 q) 0).trans (yU_ne _ _ (by omega)) | skip
  first | have tI24_q_1 : I24 q 1 = I q 1 := (congrFun (congrFun e25 q) 1).trans (yU_ne _ _ (by omega)) | skip
  intro I27 e28
  have k29 : ∀ k j, ¬ (p ≤ k ∧ k < p + 12) → I27 k j = I k j := fun k j h => ((congrFun (congrFun e28 k) j).trans (yU_ne _ _ (by omega))).trans (k26 k j h)
  first | have tI27_p_0 : I27 p 0 = I24 p 0 := (congrFun (congrFun e28 p) 0).trans (yU_ne _ _ (by omega)) | skip
  have tI27_p_1 := (congrFun (congrFun e28 p) 1).trans (yU_eq _ _ _ _)
  first | have tI27_q_0 : I27 q 0 = I24 q 0 := (congrFun (congrFun e28 q) 0).trans (yU_ne _ _ (by omega)) | skip
  first | have tI27_q_1 : I27 q 1 = I24 q 1 := (congrFun (congrFun e28 q) 1).trans (yU_ne _ _ (by omega)) | skip
  intro I30 e31
  have k32 : ∀ k j, ¬ (p ≤ k ∧ k < p + 12) → I30 k j = I k j := fun k j h => ((congrFun (congrFun e31 k) j).trans (yU_ne _ _ (by omega))).trans (k29 k j h)
  first | have tI30_p_0 : I30 p 0 = I27 p 0 := (congrFun (congrFun e31 p) 0).trans (yU_ne _ _ (by omega)) | skip
  first | have tI30_p_1 : I30 p 1 = I27 p 1 := (congrFun (congrFun e31 p) 1).trans (yU_ne _ _ (by omega)) | skip
  first | have tI30_q_0 : I30 q 0 = I27 q 0 := (congrFun (congrFun e31 q) 0).trans (yU_ne _ _ (by omega)) | skip
  first | have tI30_q_1 : I30 q 1 = I27 q 1 := (congrFun (congrFun e31 q) 1).trans (yU_ne _ _ (by omega)) | skip
  intro I33 e34
  have k35 : ∀ k j, ¬ (p ≤ k ∧ k < p + 12) → I33 k j = I k j := fun k j h => ((congrFun (congrFun e34 k) j).trans (yU_ne _ _ (by omega))).trans (k32 k j h)
  first | have tI33_p_0 : I33 p 0 = I30 p 0 := (congrFun (congrFun e34 p) 0).trans (yU_ne _ _ (by omega)) | skip
  first | have tI33_p_1 : I33 p 1 = I30 p 1 := (congrFun (congrFun e34 p) 1).trans (yU_ne _ _ (by omega)) | skip
  first | have tI33_q_0 : I33 q 0 = I30 q 0 := (congrFun (congrFun e34 q) 0).trans (yU_ne _ _ (by omega)) | skip
  first | have tI33_q_1 : I33 q 1 = I30 q 1 := (congrFun (congrFun e34 q) 1).trans (yU_ne _ _ (by omega)) | skip
  intro I36 e37
  have k38 : ∀ k j, ¬ (p ≤ k ∧ k < p + 12) → I36 k j = I k j := fun k j h => ((congrFun (congrFun e37 k) j).trans (yC_ne (by omega))).trans (k35 k j h)
  have tI36_p_0 : I36 p 0 = I33 p 0 := by rw [e37]; exact yC_ne (by omega)
  have tI36_p_1 : I36 p 1 = I33 p 1 := by rw [e37]; exact yC_ne (by omega)
  have tI36_q_0 : I36 q 0 = I33 q 0 := by rw [e37]; exact yC_ne (by omega)
  have tI36_q_1 : I36 q 1 = I33 q 1 := by rw [e37]; exact yC_ne (by omega)
  intro I39 e40
  have k41 : ∀ k j, ¬ (p ≤ k ∧ k < p + 12) → I39 k j = I k j := fun k j h => ((congrFun (congrFun e40 k) j).trans (yC_ne (by omega))).trans (k38 k j h)
  have tI39_p_0 : I39 p 0 = I36 p 0 := by rw [e40]; exact yC_ne (by omega)
  have tI39_p_1 : I39 p 1 = I36 p 1 := by rw [e40]; exact yC_ne (by omega)
  have tI39_q_0 : I39 q 0 = I36 q 0 := by rw [e40]; exact yC_ne (by omega)
  have tI39_q_1 : I39 q 1 = I36 q 1 := by rw [e40]; exact yC_ne (by omega)
  intro I42 e43
  have k44 : ∀ k j, ¬ (p ≤ k ∧ k < p + 12) → I42 k j = I k j := fun k j h => ((congrFun (congrFun e43 k) j).trans (yC_ne (by omega))).trans (k41 k j h)
  have tI42_p_0 : I42 p 0 = I39 p 0 := by rw [e43]; exact yC_ne (by omega)
  have tI42_p_1 : I42 p 1 = I39 p 1 := by rw [e43]; exact yC_ne (by omega)
  have tI42_q_0 : I42 q 0 = I39 q 0 := by rw [e43]; exact yC_ne (by omega)
  have tI42_q_1 : I42 q 1 = I39 q 1 := by rw [e43]; exact yC_ne (by omega)
  intro I45 e46
  have k47 : ∀ k j, ¬ (p ≤ k ∧ k < p + 12) → I45 k j = I k j := fun k j h => ((congrFun (congrFun e46 k) j).trans (yC_ne (by omega))).trans (k44 k j h)
  have tI45_p_0 : I45 p 0 = I42 p 0 := by rw [e46]; exact yC_ne (by omega)
  have tI45_p_1 : I45 p 1 = I42 p 1 := by rw [e46]; exact yC_ne (by omega)
  have tI45_q_0 : I45 q 0 = I42 q 0 := by rw [e46]; exact yC_ne (by omega)
  have tI45_q_1 : I45 q 1 = I42 q 1 := by rw [e46]; exact yC_ne (by omega)
  exact (L _) _ _ k47 (Nat.lt_succ_self _) (by omega)
/-- ChairAlley$Reader.fail(I)Z -/
theorem w_34 (hT : yLT T) (hR : yLR R) {x1 : Int} (h0 : 0 ≤ I 1 1 ∧ I 1 1 ≤ 940 ∧ 0 ≤ I 1 3 ∧ I 1 3 ≤ 940) (hk : ∀ r I', (∀ k j, ¬ (k = 1 ∧ 2 ≤ j) → I' k j = I k j) → ((0 ≤ I' 1 1 ∧ I' 1 1 ≤ 940 ∧ 0 ≤ I' 1 3 ∧ I' 1 3 ≤ 940) ∧ (r = 0)) → K (some (yi r)) (N, T, R, I')) : yW l zSS D cy zFk z d 34 bc bs K 0 0 0 [(0, yr (some 1)), (1, yi x1)] [] (N, T, R, I) := by
  have k0 : ∀ k j, ¬ (k = 1 ∧ 2 ≤ j) → I k j = I k j := fun _ _ _ => rfl
  refine e_li (i := 1) (x := x1) rfl fun _ _ => ?_
  refine B_34_0 hT hR ?_
  intro I1 e2
  have k3 : ∀ k j, ¬ (k = 1 ∧ 2 ≤ j) → I1 k j = I k j := fun k j h => ((congrFun (congrFun e2 k) j).trans (yU_ne _ _ (by omega))).trans (k0 k j h)
  first | have tI1_1_1 : I1 1 1 = I 1 1 := (congrFun (congrFun e2 1) 1).trans (yU_ne _ _ (by omega)) | skip
  first | have tI1_1_3 : I1 1 3 = I 1 3 := (congrFun (congrFun e2 1) 3).trans (yU_ne _ _ (by omega)) | skip
  intro I4 e5
  have k6 : ∀ k j, ¬ (k = 1 ∧ 2 ≤ j) → I4 k j = I k j := fun k j h => ((congrFun (congrFun e5 k) j).trans (yU_ne _ _ (by omega))).trans (k3 k j h)
  first | have tI4_1_1 : I4 1 1 = I1 1 1 := (congrFun (congrFun e5 1) 1).trans (yU_ne _ _ (by omega)) | skip
  first | have tI4_1_3 : I4 1 3 = I1 1 3 := (congrFun (congrFun e5 1) 3).trans (yU_ne _ _ (by omega)) | skip
  exact hk _ _ k6 (by omega)
/-- ChairAlley$Reader.endsWell()Z -/
theorem w_33 (hT : yLT T) (hR : yLR R) (h0 : 0 ≤ I 1 1 ∧ I 1 1 ≤ 940 ∧ 0 ≤ I 1 3 ∧ I 1 3 ≤ 940) (hk : ∀ r I', (∀ k j, ¬ (k = 1 ∧ 2 ≤ j) → I' k j = I k j) → ((0 ≤ I' 1 1 ∧ I' 1 1 ≤ 940 ∧ 0 ≤ I' 1 3 ∧ I' 1 3 ≤ 940) ∧ (r = 0 ∨ r = 1)) → K (some (yi r)) (N, T, R, I')) : yW l zSS D cy zFk z (d + 1) 33 bc bs K 0 0 0 [(0, yr (some 1))] [] (N, T, R, I) := by
  have k0 : ∀ k j, ¬ (k = 1 ∧ 2 ≤ j) → I k j = I k j := fun _ _ _ => rfl
  refine B_33_0 hT hR ?_
  refine ⟨fun c1 => ?_, fun c1 => ?_⟩
  · refine w_34 (d := d) hT hR  (by omega) (fun r2 I3 f5 q4 => ⟨_, _, rfl, rfl, ?_⟩)
    have k6 : ∀ k j, ¬ (k = 1 ∧ 2 ≤ j) → I3 k j = I k j := fun k j h => (f5 k j (by omega)).trans (k0 k j h)
    first | have tI3_1_1 := f5 1 1 (by omega) | skip
    first | have tI3_1_3 := f5 1 3 (by omega) | skip
    refine ⟨fun c7 => ?_, fun c7 => ?_⟩
    · exact hk _ _ k6 (by omega)
    · exact hk _ _ k6 (by omega)
  · refine ⟨fun c8 => ?_, fun c8 => ?_⟩
    · exact hk _ _ k0 (by omega)
    · refine w_34 (d := d) hT hR  (by omega) (fun r9 I10 f12 q11 => ⟨_, _, rfl, rfl, ?_⟩)
      have k13 : ∀ k j, ¬ (k = 1 ∧ 2 ≤ j) → I10 k j = I k j := fun k j h => (f12 k j (by omega)).trans (k0 k j h)
      first | have tI10_1_1 := f12 1 1 (by omega) | skip
      first | have tI10_1_3 := f12 1 3 (by omega) | skip
      refine ⟨fun c14 => ?_, fun c14 => ?_⟩
      · exact hk _ _ k13 (by omega)
      · exact hk _ _ k13 (by omega)
/-- ChairAlley$Reader.isName()Z -/
theorem w_36 (hT : yLT T) (hR : yLR R) (h0 : 0 ≤ I 1 1 ∧ I 1 1 ≤ 940 ∧ 0 ≤ I 1 3 ∧ I 1 3 ≤ 940) (hk : ∀ r I', (∀ k j, ¬ (k = 1 ∧ 2 ≤ j) → I' k j = I k j) → ((0 ≤ I' 1 1 ∧ I' 1 1 ≤ 940 ∧ 0 ≤ I' 1 3 ∧ I' 1 3 ≤ 940) ∧ (r = 0 ∨ r = 1)) → K (some (yi r)) (N, T, R, I')) : yW l zSS D cy zFk z (d + 1) 36 bc bs K 0 0 0 [(0, yr (some 1))] [] (N, T, R, I) := by
  have k0 : ∀ k j, ¬ (k = 1 ∧ 2 ≤ j) → I k j = I k j := fun _ _ _ => rfl
  refine B_36_0 hT hR ?_
  refine ⟨fun c1 => ?_, fun c1 => ?_⟩
  · refine w_34 (d := d) hT hR  (by omega) (fun r2 I3 f5 q4 => ⟨_, _, rfl, rfl, ?_⟩)
    have k6 : ∀ k j, ¬ (k = 1 ∧ 2 ≤ j) → I3 k j = I k j := fun k j h => (f5 k j (by omega)).trans (k0 k j h)
    first | have tI3_1_1 := f5 1 1 (by omega) | skip
    first | have tI3_1_3 := f5 1 3 (by omega) | skip
    refine ⟨fun c7 => ?_, fun c7 => ?_⟩
    · exact hk _ _ k6 (by omega)
    · exact hk _ _ k6 (by omega)
  · refine ⟨fun c8 => ?_, fun c8 => ?_⟩
    · exact hk _ _ k0 (by omega)
    · refine w_34 (d := d) hT hR  (by omega) (fun r9 I10 f12 q11 => ⟨_, _, rfl, rfl, ?_⟩)
      have k13 : ∀ k j, ¬ (k = 1 ∧ 2 ≤ j) → I10 k j = I k j := fun k j h => (f12 k j (by omega)).trans (k0 k j h)
      first | have tI10_1_1 := f12 1 1 (by omega) | skip
      first | have tI10_1_3 := f12 1 3 (by omega) | skip
      refine ⟨fun c14 => ?_, fun c14 => ?_⟩
      · exact hk _ _ k13 (by omega)
      · exact hk _ _ k13 (by omega)
/-- ChairAlley$Reader.isNumber(II)Z -/
theorem w_37 (hT : yLT T) (hR : yLR R) {x1 x2 : Int} (h0 : 0 ≤ I 1 1 ∧ I 1 1 ≤ 940 ∧ 0 ≤ I 1 3 ∧ I 1 3 ≤ 940) (hk : ∀ r I', (∀ k j, ¬ (k = 1 ∧ 2 ≤ j) → I' k j = I k j) → ((0 ≤ I' 1 1 ∧ I' 1 1 ≤ 940 ∧ 0 ≤ I' 1 3 ∧ I' 1 3 ≤ 940) ∧ (r = 0 ∨ (r = 1 ∧ x1 ≤ I' 1 8 ∧ I' 1 8 ≤ x2))) → K (some (yi r)) (N, T, R, I')) : yW l zSS D cy zFk z (d + 1) 37 bc bs K 0 0 0 [(0, yr (some 1)), (1, yi x1), (2, yi x2)] [] (N, T, R, I) := by
  have k0 : ∀ k j, ¬ (k = 1 ∧ 2 ≤ j) → I k j = I k j := fun _ _ _ => rfl
  refine e_li (i := 1) (x := x1) rfl fun _ _ => ?_
  refine e_li (i := 2) (x := x2) rfl fun _ _ => ?_
  refine B_37_0 hT hR ?_
  refine ⟨fun c1 => ?_, fun c1 => ?_⟩
  · refine ⟨fun c2 => ?_, fun c2 => ?_⟩
    · refine w_34 (d := d) hT hR  (by omega) (fun r3 I4 f6 q5 => ⟨_, _, rfl, rfl, ?_⟩)
      have k7 : ∀ k j, ¬ (k = 1 ∧ 2 ≤ j) → I4 k j = I k j := fun k j h => (f6 k j (by omega)).trans (k0 k j h)
      first | have tI4_1_1 := f6 1 1 (by omega) | skip
      first | have tI4_1_3 := f6 1 3 (by omega) | skip
      first | have tI4_1_8 := f6 1 8 (by omega) | skip
      refine ⟨fun c8 => ?_, fun c8 => ?_⟩
      · exact hk _ _ k7 (by omega)
      · exact hk _ _ k7 (by omega)
    · refine ⟨fun c9 => ?_, fun c9 => ?_⟩
      · exact hk _ _ k0 (by omega)
      · refine w_34 (d := d) hT hR  (by omega) (fun r10 I11 f13 q12 => ⟨_, _, rfl, rfl, ?_⟩)
        have k14 : ∀ k j, ¬ (k = 1 ∧ 2 ≤ j) → I11 k j = I k j := fun k j h => (f13 k j (by omega)).trans (k0 k j h)
        first | have tI11_1_1 := f13 1 1 (by omega) | skip
        first | have tI11_1_3 := f13 1 3 (by omega) | skip
        first | have tI11_1_8 := f13 1 8 (by omega) | skip
        refine ⟨fun c15 => ?_, fun c15 => ?_⟩
        · exact hk _ _ k14 (by omega)
        · exact hk _ _ k14 (by omega)
  · refine w_34 (d := d) hT hR  (by omega) (fun r16 I17 f19 q18 => ⟨_, _, rfl, rfl, ?_⟩)
    have k20 : ∀ k j, ¬ (k = 1 ∧ 2 ≤ j) → I17 k j = I k j := fun k j h => (f19 k j (by omega)).trans (k0 k j h)
    first | have tI17_1_1 := f19 1 1 (by omega) | skip
    first | have tI17_1_3 := f19 1 3 (by omega) | skip
    first | have tI17_1_8 := f19 1 8 (by omega) | skip
    refine ⟨by omega, ?_⟩
    exact hk _ _ k20 (by omega)
/-- ChairAlley$Reader.isSign(C)Z -/
theorem w_38 (hT : yLT T) (hR : yLR R) {x1 : Int} (hk : ∀ r, (r = 0 ∨ r = 1) → K (some (yi r)) (N, T, R, I)) : yW l zSS D cy zFk z d 38 bc bs K 0 0 0 [(0, yr (some 1)), (1, yi x1)] [] (N, T, R, I) := by
  refine e_li (i := 1) (x := x1) rfl fun _ _ => ?_
  refine B_38_0 hT hR ?_
  refine ⟨fun c1 => ?_, fun c1 => ?_⟩
  · exact hk _ (by omega)
  · refine ⟨fun c2 => ?_, fun c2 => ?_⟩
    · exact hk _ (by omega)
    · exact hk _ (by omega)
/-- ChairAlley$Reader.isWord(II)Z -/
theorem w_39 (hT : yLT T) (hR : yLR R) {x1 x2 : Int} (hk : ∀ r, (r = 0 ∨ (r = 1 ∧ x1 ≤ I 1 6 ∧ I 1 6 ≤ x2)) → K (some (yi r)) (N, T, R, I)) : yW l zSS D cy zFk z d 39 bc bs K 0 0 0 [(0, yr (some 1)), (1, yi x1), (2, yi x2)] [] (N, T, R, I) := by
  refine e_li (i := 1) (x := x1) rfl fun _ _ => ?_
  refine e_li (i := 2) (x := x2) rfl fun _ _ => ?_
  refine B_39_0 hT hR ?_
  refine ⟨fun c1 => ?_, fun c1 => ?_⟩
  · exact hk _ (by omega)
  · refine ⟨fun c2 => ?_, fun c2 => ?_⟩
    · exact hk _ (by omega)
    · refine ⟨fun c3 => ?_, fun c3 => ?_⟩
      · exact hk _ (by omega)
      · exact hk _ (by omega)
/-- ChairAlley$Reader.append(I)V -/
theorem w_32 (hT : yLT T) (hR : yLR R) {x1 : Int} (h0 : 0 ≤ I 1 1 ∧ I 1 1 ≤ 936) (hk : ∀ I', (∀ k j, ¬ ((k = 1 ∧ j = 1) ∨ k = 2) → I' k j = I k j) → (I' 1 1 = I 1 1 + 4) → K none (N, T, R, I')) : yW l zSS D cy zFk z d 32 bc bs K 0 0 0 [(0, yr (some 1)), (1, yi x1)] [] (N, T, R, I) := by
  have k0 : ∀ k j, ¬ ((k = 1 ∧ j = 1) ∨ k = 2) → I k j = I k j := fun _ _ _ => rfl
  have L : ∀ m : Nat, (∀ x1 x2 : Int, ∀ X : Nat → Nat → Int, (∀ k j, ¬ ((k = 1 ∧ j = 1) ∨ k = 2) → X k j = I k j) → (x2 + 8 : Int).toNat < m → (8 * (X 1 1 - I 1 1) = 24 - x2 ∧ -8 ≤ x2 ∧ x2 ≤ 24) → yW l zSS D cy zFk z d 32 bc bs K 0 0 3 [(0, yr (some 1)), (1, yi x1), (2, yi x2)] [] (N, T, R, X)) := by
    intro m
    induction m with
    | zero => exact fun _ _ _ _ h => absurd h (Nat.not_lt_zero _)
    | succ m ih =>
      intro x1 x2 X kX hm iv
      first | have tX_1_1 := kX 1 1 (by omega) | skip
      refine e_li (i := 1) (x := x1) rfl fun _ _ => ?_
      refine e_li (i := 2) (x := x2) rfl fun _ _ => ?_
      refine B_32_3 hT hR ?_
      refine ⟨fun c1 => ?_, fun c1 => ?_⟩
      · exact hk _ kX (by omega)
      · refine ⟨fun c2 => ?_, fun c2 => ?_⟩
        · exact hk _ kX (by omega)
        · refine ⟨by omega, by omega, ?_⟩
          intro I3 e4
          have k5 : ∀ k j, ¬ ((k = 1 ∧ j = 1) ∨ k = 2) → I3 k j = I k j := fun k j h => ((congrFun (congrFun e4 k) j).trans (yU_ne _ _ (by omega))).trans (kX k j h)
          first | have tI3_1_1 : I3 1 1 = X 1 1 := (congrFun (congrFun e4 1) 1).trans (yU_ne _ _ (by omega)) | skip
          have a6 : yadd (I3 1 1) 1 = ((I3 1 1) + 1) := yadd_eq (by omega) (by omega)
          try rw [a6]
          intro I7 e8
          have k9 : ∀ k j, ¬ ((k = 1 ∧ j = 1) ∨ k = 2) → I7 k j = I k j := fun k j h => ((congrFun (congrFun e8 k) j).trans (yU_ne _ _ (by omega))).trans (k5 k j h)
          have tI7_1_1 := (congrFun (congrFun e8 1) 1).trans (yU_eq _ _ _ _)
          have a10 : yadd x2 (-8) = (x2 + (-8)) := yadd_eq (by omega) (by omega)
          try rw [a10]
          exact ih _ _ _ k9 (by omega) (by omega)
  refine e_li (i := 1) (x := x1) rfl fun _ _ => ?_
  refine B_32_0 hT hR ?_
  exact (L _) _ _ _ k0 (Nat.lt_succ_self _) (by omega)
/-- ChairAlley$Reader.readToken()V -/
theorem w_44 (hT : yLT T) (hR : yLR R) (h0 : 0 ≤ I 1 1 ∧ I 1 1 ≤ 940 ∧ 0 ≤ I 1 3 ∧ I 1 3 ≤ 940 ∧ I 1 3 < 940) (hk : ∀ I', (∀ k j, ¬ (k = 1 ∧ 2 ≤ j) → I' k j = I k j) → ((0 ≤ I' 1 1 ∧ I' 1 1 ≤ 940 ∧ 0 ≤ I' 1 3 ∧ I' 1 3 ≤ 940)) → K none (N, T, R, I')) : yW l zSS D cy zFk z d 44 bc bs K 0 0 0 [(0, yr (some 1))] [] (N, T, R, I) := by
  have k0 : ∀ k j, ¬ (k = 1 ∧ 2 ≤ j) → I k j = I k j := fun _ _ _ => rfl
  have L : ∀ m : Nat, (∀ x1 x2 : Int, ∀ X : Nat → Nat → Int, (∀ k j, ¬ (k = 1 ∧ 2 ≤ j) → X k j = I k j) → (4 * (940 - X 1 3) + 10 : Int).toNat < m → (0 ≤ X 1 1 ∧ X 1 1 ≤ 940 ∧ 0 ≤ X 1 3 ∧ X 1 3 ≤ 940 ∧ 0 ≤ x1 ∧ 0 ≤ x2 ∧ x1 + x2 = X 1 3 - I 1 3) → yW l zSS D cy zFk z d 44 bc bs K 0 0 14 [(0, yr (some 1)), (1, yi x1), (2, yi x2)] [] (N, T, R, X)) ∧ (∀ x1 x2 : Int, ∀ X : Nat → Nat → Int, (∀ k j, ¬ (k = 1 ∧ 2 ≤ j) → X k j = I k j) → (4 * (940 - X 1 3) + 9 : Int).toNat < m → (0 ≤ X 1 1 ∧ X 1 1 ≤ 940 ∧ 0 ≤ X 1 3 ∧ X 1 3 ≤ 940 ∧ X 1 3 < 940 ∧ 0 ≤ x1 ∧ 0 ≤ x2 ∧ x1 + x2 = X 1 3 - I 1 3) → yW l zSS D cy zFk z d 44 bc bs K 0 0 97 [(0, yr (some 1)), (1, yi x1), (2, yi x2)] [] (N, T, R, X)) ∧ (∀ x1 x2 : Int, ∀ X : Nat → Nat → Int, (∀ k j, ¬ (k = 1 ∧ 2 ≤ j) → X k j = I k j) → (4 * (940 - X 1 3) + 8 : Int).toNat < m → (0 ≤ X 1 1 ∧ X 1 1 ≤ 940 ∧ 0 ≤ X 1 3 ∧ X 1 3 ≤ 940 ∧ X 1 3 < 940 ∧ 0 ≤ x1 ∧ 0 ≤ x2 ∧ x1 + x2 = X 1 3 - I 1 3 + 1) → yW l zSS D cy zFk z d 44 bc bs K 0 0 137 [(0, yr (some 1)), (1, yi x1), (2, yi x2)] [] (N, T, R, X)) ∧ (∀ x1 x2 : Int, ∀ X : Nat → Nat → Int, (∀ k j, ¬ (k = 1 ∧ 2 ≤ j) → X k j = I k j) → (5 : Int).toNat < m → (0 ≤ X 1 1 ∧ X 1 1 ≤ 940 ∧ 0 ≤ X 1 3 ∧ X 1 3 ≤ 940 ∧ 0 ≤ x1 ∧ 0 ≤ x2 ∧ x1 + x2 = X 1 3 - I 1 3) → yW l zSS D cy zFk z d 44 bc bs K 0 0 150 [(0, yr (some 1)), (1, yi x1), (2, yi x2)] [] (N, T, R, X)) ∧ (∀ X : Nat → Nat → Int, (∀ k j, ¬ (k = 1 ∧ 2 ≤ j) → X k j = I k j) → (4 : Int).toNat < m → (0 ≤ X 1 1 ∧ X 1 1 ≤ 940 ∧ 0 ≤ X 1 3 ∧ X 1 3 ≤ 940) → yW l zSS D cy zFk z d 44 bc bs K 0 0 189 [(0, yr (some 1))] [] (N, T, R, X)) ∧ (∀ X : Nat → Nat → Int, (∀ k j, ¬ (k = 1 ∧ 2 ≤ j) → X k j = I k j) → (3 : Int).toNat < m → (0 ≤ X 1 1 ∧ X 1 1 ≤ 940 ∧ 0 ≤ X 1 3 ∧ X 1 3 ≤ 940) → yW l zSS D cy zFk z d 44 bc bs K 0 0 207 [(0, yr (some 1))] [] (N, T, R, X)) ∧ (∀ x1 x2 : Int, ∀ X : Nat → Nat → Int, (∀ k j, ¬ (k = 1 ∧ 2 ≤ j) → X k j = I k j) → (2 : Int).toNat < m → (0 ≤ X 1 1 ∧ X 1 1 ≤ 940 ∧ 0 ≤ X 1 3 ∧ X 1 3 ≤ 940) → yW l zSS D cy zFk z d 44 bc bs K 0 0 247 [(0, yr (some 1)), (1, yi x1), (2, yi x2)] [] (N, T, R, X)) ∧ (∀ X : Nat → Nat → Int, (∀ k j, ¬ (k = 1 ∧ 2 ≤ j) → X k j = I k j) → (1 : Int).toNat < m → (0 ≤ X 1 1 ∧ X 1 1 ≤ 940 ∧ 0 ≤ X 1 3 ∧ X 1 3 ≤ 940) → yW l zSS D cy zFk z d 44 bc bs K 0 0 261 [] [] (N, T, R, X)) := by
    intro m
    induction m with
    | zero => exact ⟨fun _ _ _ _ h => absurd h (Nat.not_lt_zero _), fun _ _ _ _ h => absurd h (Nat.not_lt_zero _), fun _ _ _ _ h => absurd h (Nat.not_lt_zero _), fun _ _ _ _ h => absurd h (Nat.not_lt_zero _), fun _ _ h => absurd h (Nat.not_lt_zero _), fun _ _ h => absurd h (Nat.not_lt_zero _), fun _ _ _ _ h => absurd h (Nat.not_lt_zero _), fun _ _ h => absurd h (Nat.not_lt_zero _)⟩
    | succ m ih =>
      refine ⟨?_, ?_, ?_, ?_, ?_, ?_, ?_, ?_⟩
      · intro x1 x2 X kX hm iv
        first | have tX_1_1 := kX 1 1 (by omega) | skip
        first | have tX_1_3 := kX 1 3 (by omega) | skip
        refine e_li (i := 1) (x := x1) rfl fun _ _ => ?_
        refine e_li (i := 2) (x := x2) rfl fun _ _ => ?_
        refine B_44_14 hT hR ?_
        refine ⟨fun c1 => ?_, fun c1 => ?_⟩
        · exact ih.2.2.2.1 _ _ _ kX (by omega) (by omega)
        · refine ⟨fun c2 => ?_, fun c2 => ?_⟩
          · exact ih.2.2.2.1 _ _ _ kX (by omega) (by omega)
          · refine ⟨by omega, by omega, ?_⟩
            intro I3 e4
            have k5 : ∀ k j, ¬ (k = 1 ∧ 2 ≤ j) → I3 k j = I k j := fun k j h => ((congrFun (congrFun e4 k) j).trans (yU_ne _ _ (by omega))).trans (kX k j h)
            first | have tI3_1_1 : I3 1 1 = X 1 1 := (congrFun (congrFun e4 1) 1).trans (yU_ne _ _ (by omega)) | skip
            first | have tI3_1_3 : I3 1 3 = X 1 3 := (congrFun (congrFun e4 1) 3).trans (yU_ne _ _ (by omega)) | skip
            refine ⟨fun c6 => ?_, fun c6 => ?_⟩
            · exact ih.2.1 _ _ _ k5 (by omega) (by omega)
            · refine ⟨fun c7 => ?_, fun c7 => ?_⟩
              · exact ih.2.1 _ _ _ k5 (by omega) (by omega)
              · have a8 : yadd x1 1 = (x1 + 1) := yadd_eq (by omega) (by omega)
                try rw [a8]
                intro I9 e10
                have k11 : ∀ k j, ¬ (k = 1 ∧ 2 ≤ j) → I9 k j = I k j := fun k j h => ((congrFun (congrFun e10 k) j).trans (yU_ne _ _ (by omega))).trans (k5 k j h)
                first | have tI9_1_1 : I9 1 1 = I3 1 1 := (congrFun (congrFun e10 1) 1).trans (yU_ne _ _ (by omega)) | skip
                first | have tI9_1_3 : I9 1 3 = I3 1 3 := (congrFun (congrFun e10 1) 3).trans (yU_ne _ _ (by omega)) | skip
                exact ih.2.2.1 _ _ _ k11 (by omega) (by omega)
      · intro x1 x2 X kX hm iv
        first | have tX_1_1 := kX 1 1 (by omega) | skip
        first | have tX_1_3 := kX 1 3 (by omega) | skip
        refine e_li (i := 1) (x := x1) rfl fun _ _ => ?_
        refine e_li (i := 2) (x := x2) rfl fun _ _ => ?_
        refine B_44_97 hT hR ?_
        refine ⟨fun c12 => ?_, fun c12 => ?_⟩
        · exact ih.2.2.2.1 _ _ _ kX (by omega) (by omega)
        · refine ⟨fun c13 => ?_, fun c13 => ?_⟩
          · exact ih.2.2.2.1 _ _ _ kX (by omega) (by omega)
          · have a14 : yadd x2 1 = (x2 + 1) := yadd_eq (by omega) (by omega)
            try rw [a14]
            intro I15 e16
            have k17 : ∀ k j, ¬ (k = 1 ∧ 2 ≤ j) → I15 k j = I k j := fun k j h => ((congrFun (congrFun e16 k) j).trans (yU_ne _ _ (by omega))).trans (kX k j h)
            first | have tI15_1_1 : I15 1 1 = X 1 1 := (congrFun (congrFun e16 1) 1).trans (yU_ne _ _ (by omega)) | skip
            first | have tI15_1_3 : I15 1 3 = X 1 3 := (congrFun (congrFun e16 1) 3).trans (yU_ne _ _ (by omega)) | skip
            exact ih.2.2.1 _ _ _ k17 (by omega) (by omega)
      · intro x1 x2 X kX hm iv
        first | have tX_1_1 := kX 1 1 (by omega) | skip
        first | have tX_1_3 := kX 1 3 (by omega) | skip
        refine e_li (i := 1) (x := x1) rfl fun _ _ => ?_
        refine e_li (i := 2) (x := x2) rfl fun _ _ => ?_
        refine B_44_137 hT hR ?_
        have a18 : yadd (X 1 3) 1 = ((X 1 3) + 1) := yadd_eq (by omega) (by omega)
        try rw [a18]
        intro I19 e20
        have k21 : ∀ k j, ¬ (k = 1 ∧ 2 ≤ j) → I19 k j = I k j := fun k j h => ((congrFun (congrFun e20 k) j).trans (yU_ne _ _ (by omega))).trans (kX k j h)
        first | have tI19_1_1 : I19 1 1 = X 1 1 := (congrFun (congrFun e20 1) 1).trans (yU_ne _ _ (by omega)) | skip
        have tI19_1_3 := (congrFun (congrFun e20 1) 3).trans (yU_eq _ _ _ _)
        exact ih.1 _ _ _ k21 (by omega) (by omega)
      · intro x1 x2 X kX hm iv
        first | have tX_1_1 := kX 1 1 (by omega) | skip
        first | have tX_1_3 := kX 1 3 (by omega) | skip
        refine e_li (i := 1) (x := x1) rfl fun _ _ => ?_
        refine e_li (i := 2) (x := x2) rfl fun _ _ => ?_
        refine B_44_150 hT hR ?_
        intro I22 e23
        have k24 : ∀ k j, ¬ (k = 1 ∧ 2 ≤ j) → I22 k j = I k j := fun k j h => ((congrFun (congrFun e23 k) j).trans (yU_ne _ _ (by omega))).trans (kX k j h)
        first | have tI22_1_1 : I22 1 1 = X 1 1 := (congrFun (congrFun e23 1) 1).trans (yU_ne _ _ (by omega)) | skip
        first | have tI22_1_3 : I22 1 3 = X 1 3 := (congrFun (congrFun e23 1) 3).trans (yU_ne _ _ (by omega)) | skip
        have a25 : yadd x1 x2 = (x1 + x2) := yadd_eq (by omega) (by omega)
        try rw [a25]
        refine ⟨fun c26 => ?_, fun c26 => ?_⟩
        · refine ⟨fun c27 => ?_, fun c27 => ?_⟩
          · exact ih.2.2.2.2.2.2.1 _ _ _ k24 (by omega) (by omega)
          · refine ⟨fun c28 => ?_, fun c28 => ?_⟩
            · exact ih.2.2.2.2.2.2.1 _ _ _ k24 (by omega) (by omega)
            · intro I29 e30
              have k31 : ∀ k j, ¬ (k = 1 ∧ 2 ≤ j) → I29 k j = I k j := fun k j h => ((congrFun (congrFun e30 k) j).trans (yU_ne _ _ (by omega))).trans (k24 k j h)
              first | have tI29_1_1 : I29 1 1 = I22 1 1 := (congrFun (congrFun e30 1) 1).trans (yU_ne _ _ (by omega)) | skip
              first | have tI29_1_3 : I29 1 3 = I22 1 3 := (congrFun (congrFun e30 1) 3).trans (yU_ne _ _ (by omega)) | skip
              exact ih.2.2.2.2.2.2.2  _ k31 (by omega) (by omega)
        · have a32 : yadd (I22 1 3) 1 = ((I22 1 3) + 1) := yadd_eq (by omega) (by omega)
          try rw [a32]
          intro I33 e34
          have k35 : ∀ k j, ¬ (k = 1 ∧ 2 ≤ j) → I33 k j = I k j := fun k j h => ((congrFun (congrFun e34 k) j).trans (yU_ne _ _ (by omega))).trans (k24 k j h)
          first | have tI33_1_1 : I33 1 1 = I22 1 1 := (congrFun (congrFun e34 1) 1).trans (yU_ne _ _ (by omega)) | skip
          have tI33_1_3 := (congrFun (congrFun e34 1) 3).trans (yU_eq _ _ _ _)
          refine ⟨fun c36 => ?_, fun c36 => ?_⟩
          · exact ih.2.2.2.2.1  _ k35 (by omega) (by omega)
          · refine ⟨fun c37 => ?_, fun c37 => ?_⟩
            · exact ih.2.2.2.2.2.1  _ k35 (by omega) (by omega)
            · exact ih.2.2.2.2.1  _ k35 (by omega) (by omega)
      · intro X kX hm iv
        first | have tX_1_1 := kX 1 1 (by omega) | skip
        first | have tX_1_3 := kX 1 3 (by omega) | skip
        refine B_44_189 hT hR ?_
        refine ⟨fun c38 => ?_, fun c38 => ?_⟩
        · exact ih.2.2.2.2.2.1  _ kX (by omega) (by omega)
        · refine ⟨fun c39 => ?_, fun c39 => ?_⟩
          · intro I40 e41
            have k42 : ∀ k j, ¬ (k = 1 ∧ 2 ≤ j) → I40 k j = I k j := fun k j h => ((congrFun (congrFun e41 k) j).trans (yU_ne _ _ (by omega))).trans (kX k j h)
            first | have tI40_1_1 : I40 1 1 = X 1 1 := (congrFun (congrFun e41 1) 1).trans (yU_ne _ _ (by omega)) | skip
            first | have tI40_1_3 : I40 1 3 = X 1 3 := (congrFun (congrFun e41 1) 3).trans (yU_ne _ _ (by omega)) | skip
            exact ih.2.2.2.2.2.2.2  _ k42 (by omega) (by omega)
          · exact ih.2.2.2.2.2.1  _ kX (by omega) (by omega)
      · intro X kX hm iv
        first | have tX_1_1 := kX 1 1 (by omega) | skip
        first | have tX_1_3 := kX 1 3 (by omega) | skip
        refine B_44_207 hT hR ?_
        intro I43 e44
        have k45 : ∀ k j, ¬ (k = 1 ∧ 2 ≤ j) → I43 k j = I k j := fun k j h => ((congrFun (congrFun e44 k) j).trans (yU_ne _ _ (by omega))).trans (kX k j h)
        first | have tI43_1_1 : I43 1 1 = X 1 1 := (congrFun (congrFun e44 1) 1).trans (yU_ne _ _ (by omega)) | skip
        first | have tI43_1_3 : I43 1 3 = X 1 3 := (congrFun (congrFun e44 1) 3).trans (yU_ne _ _ (by omega)) | skip
        exact ih.2.2.2.2.2.2.2  _ k45 (by omega) (by omega)
      · intro x1 x2 X kX hm iv
        first | have tX_1_1 := kX 1 1 (by omega) | skip
        first | have tX_1_3 := kX 1 3 (by omega) | skip
        refine e_li (i := 1) (x := x1) rfl fun _ _ => ?_
        refine e_li (i := 2) (x := x2) rfl fun _ _ => ?_
        refine B_44_247 hT hR ?_
        refine ⟨fun c46 => ?_, fun c46 => ?_⟩
        · exact ih.2.2.2.2.2.2.2  _ kX (by omega) (by omega)
        · refine ⟨fun c47 => ?_, fun c47 => ?_⟩
          · exact ih.2.2.2.2.2.2.2  _ kX (by omega) (by omega)
          · intro I48 e49
            have k50 : ∀ k j, ¬ (k = 1 ∧ 2 ≤ j) → I48 k j = I k j := fun k j h => ((congrFun (congrFun e49 k) j).trans (yU_ne _ _ (by omega))).trans (kX k j h)
            first | have tI48_1_1 : I48 1 1 = X 1 1 := (congrFun (congrFun e49 1) 1).trans (yU_ne _ _ (by omega)) | skip
            first | have tI48_1_3 : I48 1 3 = X 1 3 := (congrFun (congrFun e49 1) 3).trans (yU_ne _ _ (by omega)) | skip
            exact ih.2.2.2.2.2.2.2  _ k50 (by omega) (by omega)
      · intro X kX hm iv
        first | have tX_1_1 := kX 1 1 (by omega) | skip
        first | have tX_1_3 := kX 1 3 (by omega) | skip
        refine B_44_261 hT hR ?_
        exact hk _ kX (by omega)
  refine B_44_0 hT hR ?_
  intro I51 e52
  have k53 : ∀ k j, ¬ (k = 1 ∧ 2 ≤ j) → I51 k j = I k j := fun k j h => ((congrFun (congrFun e52 k) j).trans (yU_ne _ _ (by omega))).trans (k0 k j h)
  first | have tI51_1_1 : I51 1 1 = I 1 1 := (congrFun (congrFun e52 1) 1).trans (yU_ne _ _ (by omega)) | skip
  first | have tI51_1_3 : I51 1 3 = I 1 3 := (congrFun (congrFun e52 1) 3).trans (yU_ne _ _ (by omega)) | skip
  intro I54 e55
  have k56 : ∀ k j, ¬ (k = 1 ∧ 2 ≤ j) → I54 k j = I k j := fun k j h => ((congrFun (congrFun e55 k) j).trans (yU_ne _ _ (by omega))).trans (k53 k j h)
  first | have tI54_1_1 : I54 1 1 = I51 1 1 := (congrFun (congrFun e55 1) 1).trans (yU_ne _ _ (by omega)) | skip
  first | have tI54_1_3 : I54 1 3 = I51 1 3 := (congrFun (congrFun e55 1) 3).trans (yU_ne _ _ (by omega)) | skip
  exact (L _).1 _ _ _ k56 (Nat.lt_succ_self _) (by omega)
/-- ChairAlley$Reader.advance()V -/
theorem w_31 (hT : yLT T) (hR : yLR R) (h0 : 0 ≤ I 1 1 ∧ I 1 1 ≤ 940 ∧ 0 ≤ I 1 3 ∧ I 1 3 ≤ 940) (hk : ∀ I', (∀ k j, ¬ (k = 1 ∧ 2 ≤ j) → I' k j = I k j) → ((0 ≤ I' 1 1 ∧ I' 1 1 ≤ 940 ∧ 0 ≤ I' 1 3 ∧ I' 1 3 ≤ 940)) → K none (N, T, R, I')) : yW l zSS D cy zFk z (d + 5) 31 bc bs K 0 0 0 [(0, yr (some 1))] [] (N, T, R, I) := by
  have k0 : ∀ k j, ¬ (k = 1 ∧ 2 ≤ j) → I k j = I k j := fun _ _ _ => rfl
  have L : ∀ m : Nat, (∀ x1 : Int, ∀ X : Nat → Nat → Int, (∀ k j, ¬ (k = 1 ∧ 2 ≤ j) → X k j = I k j) → (2 * (940 - X 1 3) + 4 : Int).toNat < m → (0 ≤ X 1 1 ∧ X 1 1 ≤ 940 ∧ 0 ≤ X 1 3 ∧ X 1 3 ≤ 940) → yW l zSS D cy zFk z (d + 5) 31 bc bs K 0 0 12 [(0, yr (some 1)), (1, yi x1)] [] (N, T, R, X)) ∧ (∀ x1 : Int, ∀ X : Nat → Nat → Int, (∀ k j, ¬ (k = 1 ∧ 2 ≤ j) → X k j = I k j) → (2 * (940 - X 1 3) + 3 : Int).toNat < m → (0 ≤ X 1 1 ∧ X 1 1 ≤ 940 ∧ 0 ≤ X 1 3 ∧ X 1 3 ≤ 940 ∧ X 1 3 < 940) → yW l zSS D cy zFk z (d + 5) 31 bc bs K 0 0 63 [(0, yr (some 1)), (1, yi x1)] [] (N, T, R, X)) ∧ (∀ x1 : Int, ∀ X : Nat → Nat → Int, (∀ k j, ¬ (k = 1 ∧ 2 ≤ j) → X k j = I k j) → (3 : Int).toNat < m → (0 ≤ X 1 1 ∧ X 1 1 ≤ 940 ∧ 0 ≤ X 1 3 ∧ X 1 3 ≤ 940) → yW l zSS D cy zFk z (d + 5) 31 bc bs K 0 0 76 [(0, yr (some 1)), (1, yi x1)] [] (N, T, R, X)) ∧ (∀ X : Nat → Nat → Int, (∀ k j, ¬ (k = 1 ∧ 2 ≤ j) → X k j = I k j) → (2 : Int).toNat < m → (0 ≤ X 1 1 ∧ X 1 1 ≤ 940 ∧ 0 ≤ X 1 3 ∧ X 1 3 ≤ 940) → yW l zSS D cy zFk z (d + 5) 31 bc bs K 0 0 122 [(0, yr (some 1))] [] (N, T, R, X)) ∧ (∀ X : Nat → Nat → Int, (∀ k j, ¬ (k = 1 ∧ 2 ≤ j) → X k j = I k j) → (1 : Int).toNat < m → (0 ≤ X 1 1 ∧ X 1 1 ≤ 940 ∧ 0 ≤ X 1 3 ∧ X 1 3 ≤ 940) → yW l zSS D cy zFk z (d + 5) 31 bc bs K 0 0 134 [] [] (N, T, R, X)) := by
    intro m
    induction m with
    | zero => exact ⟨fun _ _ _ h => absurd h (Nat.not_lt_zero _), fun _ _ _ h => absurd h (Nat.not_lt_zero _), fun _ _ _ h => absurd h (Nat.not_lt_zero _), fun _ _ h => absurd h (Nat.not_lt_zero _), fun _ _ h => absurd h (Nat.not_lt_zero _)⟩
    | succ m ih =>
      refine ⟨?_, ?_, ?_, ?_, ?_⟩
      · intro x1 X kX hm iv
        first | have tX_1_1 := kX 1 1 (by omega) | skip
        first | have tX_1_3 := kX 1 3 (by omega) | skip
        refine e_li (i := 1) (x := x1) rfl fun _ _ => ?_
        refine B_31_12 hT hR ?_
        refine ⟨fun c1 => ?_, fun c1 => ?_⟩
        · exact ih.2.2.1 _ _ kX (by omega) (by omega)
        · refine ⟨fun c2 => ?_, fun c2 => ?_⟩
          · exact ih.2.2.1 _ _ kX (by omega) (by omega)
          · refine ⟨by omega, by omega, ?_⟩
            refine ⟨fun c3 => ?_, fun c3 => ?_⟩
            · exact ih.2.1 _ _ kX (by omega) (by omega)
            · refine ⟨by omega, by omega, ?_⟩
              refine ⟨fun c4 => ?_, fun c4 => ?_⟩
              · exact ih.2.2.1 _ _ kX (by omega) (by omega)
              · exact ih.2.1 _ _ kX (by omega) (by omega)
      · intro x1 X kX hm iv
        first | have tX_1_1 := kX 1 1 (by omega) | skip
        first | have tX_1_3 := kX 1 3 (by omega) | skip
        refine e_li (i := 1) (x := x1) rfl fun _ _ => ?_
        refine B_31_63 hT hR ?_
        have a5 : yadd (X 1 3) 1 = ((X 1 3) + 1) := yadd_eq (by omega) (by omega)
        try rw [a5]
        intro I6 e7
        have k8 : ∀ k j, ¬ (k = 1 ∧ 2 ≤ j) → I6 k j = I k j := fun k j h => ((congrFun (congrFun e7 k) j).trans (yU_ne _ _ (by omega))).trans (kX k j h)
        first | have tI6_1_1 : I6 1 1 = X 1 1 := (congrFun (congrFun e7 1) 1).trans (yU_ne _ _ (by omega)) | skip
        have tI6_1_3 := (congrFun (congrFun e7 1) 3).trans (yU_eq _ _ _ _)
        exact ih.1 _ _ k8 (by omega) (by omega)
      · intro x1 X kX hm iv
        first | have tX_1_1 := kX 1 1 (by omega) | skip
        first | have tX_1_3 := kX 1 3 (by omega) | skip
        refine e_li (i := 1) (x := x1) rfl fun _ _ => ?_
        refine B_31_76 hT hR ?_
        have a9 := ymin_cs (X 1 3) x1
        intro I10 e11
        have k12 : ∀ k j, ¬ (k = 1 ∧ 2 ≤ j) → I10 k j = I k j := fun k j h => ((congrFun (congrFun e11 k) j).trans (yU_ne _ _ (by omega))).trans (kX k j h)
        first | have tI10_1_1 : I10 1 1 = X 1 1 := (congrFun (congrFun e11 1) 1).trans (yU_ne _ _ (by omega)) | skip
        first | have tI10_1_3 : I10 1 3 = X 1 3 := (congrFun (congrFun e11 1) 3).trans (yU_ne _ _ (by omega)) | skip
        intro I13 e14
        have k15 : ∀ k j, ¬ (k = 1 ∧ 2 ≤ j) → I13 k j = I k j := fun k j h => ((congrFun (congrFun e14 k) j).trans (yU_ne _ _ (by omega))).trans (k12 k j h)
        first | have tI13_1_1 : I13 1 1 = I10 1 1 := (congrFun (congrFun e14 1) 1).trans (yU_ne _ _ (by omega)) | skip
        first | have tI13_1_3 : I13 1 3 = I10 1 3 := (congrFun (congrFun e14 1) 3).trans (yU_ne _ _ (by omega)) | skip
        intro I16 e17
        have k18 : ∀ k j, ¬ (k = 1 ∧ 2 ≤ j) → I16 k j = I k j := fun k j h => ((congrFun (congrFun e17 k) j).trans (yU_ne _ _ (by omega))).trans (k15 k j h)
        first | have tI16_1_1 : I16 1 1 = I13 1 1 := (congrFun (congrFun e17 1) 1).trans (yU_ne _ _ (by omega)) | skip
        first | have tI16_1_3 : I16 1 3 = I13 1 3 := (congrFun (congrFun e17 1) 3).trans (yU_ne _ _ (by omega)) | skip
        refine ⟨fun c19 => ?_, fun c19 => ?_⟩
        · exact ih.2.2.2.1  _ k18 (by omega) (by omega)
        · refine ⟨fun c20 => ?_, fun c20 => ?_⟩
          · exact ih.2.2.2.1  _ k18 (by omega) (by omega)
          · refine w_44 (d := d + 4) hT hR  (by omega) (fun I21 f23 q22 => ⟨_, rfl, rfl, ?_⟩)
            have k24 : ∀ k j, ¬ (k = 1 ∧ 2 ≤ j) → I21 k j = I k j := fun k j h => (f23 k j (by omega)).trans (k18 k j h)
            first | have tI21_1_1 := f23 1 1 (by omega) | skip
            first | have tI21_1_3 := f23 1 3 (by omega) | skip
            exact ih.2.2.2.1  _ k24 (by omega) (by omega)
      · intro X kX hm iv
        first | have tX_1_1 := kX 1 1 (by omega) | skip
        first | have tX_1_3 := kX 1 3 (by omega) | skip
        refine B_31_122 hT hR ?_
        refine ⟨fun c25 => ?_, fun c25 => ?_⟩
        · exact ih.2.2.2.2  _ kX (by omega) (by omega)
        · refine w_35 (d := d) hT hR   (fun I26 f28 q27 => ⟨_, rfl, rfl, ?_⟩)
          have k29 : ∀ k j, ¬ (k = 1 ∧ 2 ≤ j) → I26 k j = I k j := fun k j h => (f28 k j (by omega)).trans (kX k j h)
          first | have tI26_1_1 := f28 1 1 (by omega) | skip
          first | have tI26_1_3 := f28 1 3 (by omega) | skip
          exact ih.2.2.2.2  _ k29 (by omega) (by omega)
      · intro X kX hm iv
        first | have tX_1_1 := kX 1 1 (by omega) | skip
        first | have tX_1_3 := kX 1 3 (by omega) | skip
        refine B_31_134 hT hR ?_
        exact hk _ kX (by omega)
  refine B_31_0 hT hR ?_
  have a30 := ymin_cs (I 1 1) (I 1 2)
  exact (L _).1 _ _ k0 (Nat.lt_succ_self _) (by omega)
/-- ChairAlley$Reader.open(I)V -/
theorem w_40 (hT : yLT T) (hR : yLR R) {x1 : Int} (h0 : 0 ≤ I 1 1 ∧ I 1 1 ≤ 940) (hk : ∀ I', (∀ k j, ¬ (k = 1 ∧ 2 ≤ j) → I' k j = I k j) → ((0 ≤ I' 1 1 ∧ I' 1 1 ≤ 940 ∧ 0 ≤ I' 1 3 ∧ I' 1 3 ≤ 940)) → K none (N, T, R, I')) : yW l zSS D cy zFk z (d + 6) 40 bc bs K 0 0 0 [(0, yr (some 1)), (1, yi x1)] [] (N, T, R, I) := by
  have k0 : ∀ k j, ¬ (k = 1 ∧ 2 ≤ j) → I k j = I k j := fun _ _ _ => rfl
  refine e_li (i := 1) (x := x1) rfl fun _ _ => ?_
  refine B_40_0 hT hR ?_
  intro I1 e2
  have k3 : ∀ k j, ¬ (k = 1 ∧ 2 ≤ j) → I1 k j = I k j := fun k j h => ((congrFun (congrFun e2 k) j).trans (yU_ne _ _ (by omega))).trans (k0 k j h)
  first | have tI1_1_1 : I1 1 1 = I 1 1 := (congrFun (congrFun e2 1) 1).trans (yU_ne _ _ (by omega)) | skip
  first | have tI1_1_3 : I1 1 3 = I 1 3 := (congrFun (congrFun e2 1) 3).trans (yU_ne _ _ (by omega)) | skip
  intro I4 e5
  have k6 : ∀ k j, ¬ (k = 1 ∧ 2 ≤ j) → I4 k j = I k j := fun k j h => ((congrFun (congrFun e5 k) j).trans (yU_ne _ _ (by omega))).trans (k3 k j h)
  first | have tI4_1_1 : I4 1 1 = I1 1 1 := (congrFun (congrFun e5 1) 1).trans (yU_ne _ _ (by omega)) | skip
  have tI4_1_3 := (congrFun (congrFun e5 1) 3).trans (yU_eq _ _ _ _)
  intro I7 e8
  have k9 : ∀ k j, ¬ (k = 1 ∧ 2 ≤ j) → I7 k j = I k j := fun k j h => ((congrFun (congrFun e8 k) j).trans (yU_ne _ _ (by omega))).trans (k6 k j h)
  first | have tI7_1_1 : I7 1 1 = I4 1 1 := (congrFun (congrFun e8 1) 1).trans (yU_ne _ _ (by omega)) | skip
  first | have tI7_1_3 : I7 1 3 = I4 1 3 := (congrFun (congrFun e8 1) 3).trans (yU_ne _ _ (by omega)) | skip
  intro I10 e11
  have k12 : ∀ k j, ¬ (k = 1 ∧ 2 ≤ j) → I10 k j = I k j := fun k j h => ((congrFun (congrFun e11 k) j).trans (yU_ne _ _ (by omega))).trans (k9 k j h)
  first | have tI10_1_1 : I10 1 1 = I7 1 1 := (congrFun (congrFun e11 1) 1).trans (yU_ne _ _ (by omega)) | skip
  first | have tI10_1_3 : I10 1 3 = I7 1 3 := (congrFun (congrFun e11 1) 3).trans (yU_ne _ _ (by omega)) | skip
  refine w_31 (d := d) hT hR  (by omega) (fun I13 f15 q14 => ⟨_, rfl, rfl, ?_⟩)
  have k16 : ∀ k j, ¬ (k = 1 ∧ 2 ≤ j) → I13 k j = I k j := fun k j h => (f15 k j (by omega)).trans (k12 k j h)
  first | have tI13_1_1 := f15 1 1 (by omega) | skip
  first | have tI13_1_3 := f15 1 3 (by omega) | skip
  exact hk _ k16 (by omega)
/-- ChairAlley$Reader.passDir()I -/
theorem w_41 (hT : yLT T) (hR : yLR R) (h0 : 0 ≤ I 1 1 ∧ I 1 1 ≤ 940 ∧ 0 ≤ I 1 3 ∧ I 1 3 ≤ 940) (hk : ∀ r I', (∀ k j, ¬ (k = 1 ∧ 2 ≤ j) → I' k j = I k j) → ((0 ≤ I' 1 1 ∧ I' 1 1 ≤ 940 ∧ 0 ≤ I' 1 3 ∧ I' 1 3 ≤ 940) ∧ (r = -1 ∨ (0 ≤ r ∧ r ≤ 3))) → K (some (yi r)) (N, T, R, I')) : yW l zSS D cy zFk z (d + 6) 41 bc bs K 0 0 0 [(0, yr (some 1))] [] (N, T, R, I) := by
  have k0 : ∀ k j, ¬ (k = 1 ∧ 2 ≤ j) → I k j = I k j := fun _ _ _ => rfl
  refine B_41_0 hT hR ?_
  refine w_39 (d := d + 5) hT hR   (fun r1 q2 => ⟨_, _, rfl, rfl, ?_⟩)
  refine ⟨fun c4 => ?_, fun c4 => ?_⟩
  · have a5 : ysub (I 1 6) 12 = ((I 1 6) - 12) := ysub_eq (by omega) (by omega)
    try rw [a5]
    refine w_31 (d := d) hT hR  (by omega) (fun I6 f8 q7 => ⟨_, rfl, rfl, ?_⟩)
    have k9 : ∀ k j, ¬ (k = 1 ∧ 2 ≤ j) → I6 k j = I k j := fun k j h => (f8 k j (by omega)).trans (k0 k j h)
    first | have tI6_1_1 := f8 1 1 (by omega) | skip
    first | have tI6_1_3 := f8 1 3 (by omega) | skip
    first | have tI6_1_6 := f8 1 6 (by omega) | skip
    exact hk _ _ k9 (by omega)
  · refine w_34 (d := d + 5) hT hR  (by omega) (fun r10 I11 f13 q12 => ⟨_, _, rfl, rfl, ?_⟩)
    have k14 : ∀ k j, ¬ (k = 1 ∧ 2 ≤ j) → I11 k j = I k j := fun k j h => (f13 k j (by omega)).trans (k0 k j h)
    first | have tI11_1_1 := f13 1 1 (by omega) | skip
    first | have tI11_1_3 := f13 1 3 (by omega) | skip
    first | have tI11_1_6 := f13 1 6 (by omega) | skip
    exact hk _ _ k14 (by omega)
/-- ChairAlley$Reader.passNumber(II)I -/
theorem w_42 (hT : yLT T) (hR : yLR R) {x1 x2 : Int} (h0 : 0 ≤ I 1 1 ∧ I 1 1 ≤ 940 ∧ 0 ≤ I 1 3 ∧ I 1 3 ≤ 940) (hk : ∀ r I', (∀ k j, ¬ (k = 1 ∧ 2 ≤ j) → I' k j = I k j) → ((0 ≤ I' 1 1 ∧ I' 1 1 ≤ 940 ∧ 0 ≤ I' 1 3 ∧ I' 1 3 ≤ 940) ∧ (r = -1 ∨ (x1 ≤ r ∧ r ≤ x2))) → K (some (yi r)) (N, T, R, I')) : yW l zSS D cy zFk z (d + 6) 42 bc bs K 0 0 0 [(0, yr (some 1)), (1, yi x1), (2, yi x2)] [] (N, T, R, I) := by
  have k0 : ∀ k j, ¬ (k = 1 ∧ 2 ≤ j) → I k j = I k j := fun _ _ _ => rfl
  refine e_li (i := 1) (x := x1) rfl fun _ _ => ?_
  refine e_li (i := 2) (x := x2) rfl fun _ _ => ?_
  refine B_42_0 hT hR ?_
  refine w_37 (d := d + 4) hT hR  (by omega) (fun r1 I2 f4 q3 => ⟨_, _, rfl, rfl, ?_⟩)
  have k5 : ∀ k j, ¬ (k = 1 ∧ 2 ≤ j) → I2 k j = I k j := fun k j h => (f4 k j (by omega)).trans (k0 k j h)
  first | have tI2_1_1 := f4 1 1 (by omega) | skip
  first | have tI2_1_3 := f4 1 3 (by omega) | skip
  first | have tI2_1_8 := f4 1 8 (by omega) | skip
  refine ⟨fun c6 => ?_, fun c6 => ?_⟩
  · refine w_31 (d := d) hT hR  (by omega) (fun I7 f9 q8 => ⟨_, rfl, rfl, ?_⟩)
    have k10 : ∀ k j, ¬ (k = 1 ∧ 2 ≤ j) → I7 k j = I k j := fun k j h => (f9 k j (by omega)).trans (k5 k j h)
    first | have tI7_1_1 := f9 1 1 (by omega) | skip
    first | have tI7_1_3 := f9 1 3 (by omega) | skip
    first | have tI7_1_8 := f9 1 8 (by omega) | skip
    exact hk _ _ k10 (by omega)
  · exact hk _ _ k5 (by omega)
/-- ChairAlley$Reader.passSign(C)Z -/
theorem w_43 (hT : yLT T) (hR : yLR R) {x1 : Int} (h0 : 0 ≤ I 1 1 ∧ I 1 1 ≤ 940 ∧ 0 ≤ I 1 3 ∧ I 1 3 ≤ 940) (hk : ∀ r I', (∀ k j, ¬ (k = 1 ∧ 2 ≤ j) → I' k j = I k j) → ((0 ≤ I' 1 1 ∧ I' 1 1 ≤ 940 ∧ 0 ≤ I' 1 3 ∧ I' 1 3 ≤ 940) ∧ (r = 0 ∨ r = 1)) → K (some (yi r)) (N, T, R, I')) : yW l zSS D cy zFk z (d + 6) 43 bc bs K 0 0 0 [(0, yr (some 1)), (1, yi x1)] [] (N, T, R, I) := by
  have k0 : ∀ k j, ¬ (k = 1 ∧ 2 ≤ j) → I k j = I k j := fun _ _ _ => rfl
  refine e_li (i := 1) (x := x1) rfl fun _ _ => ?_
  refine B_43_0 hT hR ?_
  refine w_38 (d := d + 5) hT hR   (fun r1 q2 => ⟨_, _, rfl, rfl, ?_⟩)
  refine ⟨fun c4 => ?_, fun c4 => ?_⟩
  · refine w_31 (d := d) hT hR  (by omega) (fun I5 f7 q6 => ⟨_, rfl, rfl, ?_⟩)
    have k8 : ∀ k j, ¬ (k = 1 ∧ 2 ≤ j) → I5 k j = I k j := fun k j h => (f7 k j (by omega)).trans (k0 k j h)
    first | have tI5_1_1 := f7 1 1 (by omega) | skip
    first | have tI5_1_3 := f7 1 3 (by omega) | skip
    exact hk _ _ k8 (by omega)
  · refine w_34 (d := d + 5) hT hR  (by omega) (fun r9 I10 f12 q11 => ⟨_, _, rfl, rfl, ?_⟩)
    have k13 : ∀ k j, ¬ (k = 1 ∧ 2 ≤ j) → I10 k j = I k j := fun k j h => (f12 k j (by omega)).trans (k0 k j h)
    first | have tI10_1_1 := f12 1 1 (by omega) | skip
    first | have tI10_1_3 := f12 1 3 (by omega) | skip
    refine ⟨by omega, ?_⟩
    exact hk _ _ k13 (by omega)
end Sw
