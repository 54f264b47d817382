/-! CONTRACTS of the reference, printed by wip/whole/y/t5.py (96.p4) -/
section Sw
variable {l : Launch} {D : va_G} {cy : Nat → ClassId} {z d bc bs N : Nat} {T : Nat → Nat × Nat} {R : Nat → Nat → Option Nat} {I : Nat → Nat → Int} {K : yKo}
/-- ChairAlleyModel.four(I)V -/
theorem w_181 (hT : yLT T) (hR : yLR R) {x1 : Int} (h0 : 0 ≤ I 102 2 ∧ I 102 2 ≤ 936) (hk : ∀ I', (∀ k j, ¬ ((k = 102 ∧ j = 2) ∨ k = 103) → I' k j = I k j) → (I' 102 2 = I 102 2 + 4) → K none (N, T, R, I')) : yW l zSS D cy zFk z d 181 bc bs K 0 0 0 [(0, yr (some 102)), (1, yi x1)] [] (N, T, R, I) := by
  have v103 : ∀ k j i : Nat, ¬ ((k = 102 ∧ j = 2) ∨ k = 103) → ¬ (k = 103 ∧ j = i) := fun k j i h => by omega
  have v102_2 : ∀ k j : Nat, ¬ ((k = 102 ∧ j = 2) ∨ k = 103) → ¬ (k = 102 ∧ j = 2) := fun k j h => by omega
  have k0 : ∀ k j, ¬ ((k = 102 ∧ j = 2) ∨ k = 103) → I k j = I k j := fun _ _ _ => rfl
  refine e_li (i := 1) (x := x1) rfl fun _ _ => ?_
  have L : ∀ m : Nat, (∀ x2 : Int, ∀ X : Nat → Nat → Int, (∀ k j, ¬ ((k = 102 ∧ j = 2) ∨ k = 103) → X k j = I k j) → (x2 + 8 : Int).toNat < m → (8 * (X 102 2 - I 102 2) = 24 - x2 ∧ -8 ≤ x2 ∧ x2 ≤ 24) → yW l zSS D cy zFk z d 181 bc bs K 0 0 3 [(0, yr (some 102)), (1, yi x1), (2, yi x2)] [] (N, T, R, X)) := by
    intro m
    induction m with
    | zero => exact fun _ _ _ h => absurd h (Nat.not_lt_zero _)
    | succ m ih =>
      intro x2 X kX hm iv
      refine e_li (i := 2) (x := x2) rfl fun _ _ => ?_
      refine B_181_3 hT hR ?_
      refine ⟨fun c1 => ?_, fun c1 => ?_⟩
      · exact hk _ kX (by omega)
      · refine ⟨by omega, by omega, ?_⟩
        intro I2 e3
        have k4 : ∀ k j, ¬ ((k = 102 ∧ j = 2) ∨ k = 103) → I2 k j = I k j := fun k j h => ((congrFun (congrFun e3 k) j).trans (yU_ne _ _ (v103 k j _ h))).trans (kX k j h)
        have t5 : I2 102 2 = (X 102 2) := (congrFun (congrFun e3 102) 2).trans (yU_ne _ _ (fun q => absurd q.1 (by decide)))
        try rw [t5]
        have a6 : yadd (X 102 2) 1 = ((X 102 2) + 1) := yadd_eq (by omega) (by omega)
        try rw [a6]
        intro I7 e8
        have k9 : ∀ k j, ¬ ((k = 102 ∧ j = 2) ∨ k = 103) → I7 k j = I k j := fun k j h => ((congrFun (congrFun e8 k) j).trans (yU_ne _ _ (v102_2 k j h))).trans (k4 k j h)
        have t10 : I7 102 2 = ((X 102 2) + 1) := (congrFun (congrFun e8 102) 2).trans (yU_eq _ _ _ _)
        try rw [t10]
        have a11 : yadd x2 (-8) = (x2 + (-8)) := yadd_eq (by omega) (by omega)
        try rw [a11]
        exact ih _ _ k9 (by omega) (by omega)
  refine B_181_0 hT hR ?_
  exact (L _) _ _ k0 (Nat.lt_succ_self _) (by omega)
/-- ChairAlleyModel.feed(IIIII)I -/
theorem w_179 (hT : yLT T) (hR : yLR R) {x1 x2 x3 x4 x5 : Int} (h0 : 0 ≤ I 102 2 ∧ I 102 2 ≤ 940) (hk : ∀ r I', (∀ k j, ¬ ((k = 102 ∧ (j = 0 ∨ j = 2)) ∨ k = 103) → I' k j = I k j) → ((r = -1 ∧ 940 < I 102 2 + 20 ∧ I' 102 2 = I 102 2) ∨ (r = I 102 2 + 20 ∧ I 102 2 + 20 ≤ 940 ∧ I' 102 2 = I 102 2 + 20)) → K (some (yi r)) (N, T, R, I')) : yW l zSS D cy zFk z (d + 1) 179 bc bs K 0 0 0 [(0, yr (some 102)), (1, yi x1), (2, yi x2), (3, yi x3), (4, yi x4), (5, yi x5)] [] (N, T, R, I) := by
  have v102_0 : ∀ k j : Nat, ¬ ((k = 102 ∧ (j = 0 ∨ j = 2)) ∨ k = 103) → ¬ (k = 102 ∧ j = 0) := fun k j h => by omega
  have u181 : ∀ k j : Nat, ¬ ((k = 102 ∧ (j = 0 ∨ j = 2)) ∨ k = 103) → ¬ ((k = 102 ∧ j = 2) ∨ k = 103) := fun k j h => by omega
  have k0 : ∀ k j, ¬ ((k = 102 ∧ (j = 0 ∨ j = 2)) ∨ k = 103) → I k j = I k j := fun _ _ _ => rfl
  refine e_li (i := 1) (x := x1) rfl fun _ _ => ?_
  refine e_li (i := 2) (x := x2) rfl fun _ _ => ?_
  refine e_li (i := 3) (x := x3) rfl fun _ _ => ?_
  refine e_li (i := 4) (x := x4) rfl fun _ _ => ?_
  refine e_li (i := 5) (x := x5) rfl fun _ _ => ?_
  refine B_179_0 hT hR ?_
  intro I1 e2
  have k3 : ∀ k j, ¬ ((k = 102 ∧ (j = 0 ∨ j = 2)) ∨ k = 103) → I1 k j = I k j := fun k j h => ((congrFun (congrFun e2 k) j).trans (yU_ne _ _ (v102_0 k j h))).trans (k0 k j h)
  have t4 : I1 102 2 = (I 102 2) := (congrFun (congrFun e2 102) 2).trans (yU_ne _ _ (fun q => absurd q.2 (by decide)))
  try rw [t4]
  have a5 : yadd (I 102 2) 20 = ((I 102 2) + 20) := yadd_eq (by omega) (by omega)
  try rw [a5]
  refine ⟨fun c6 => ?_, fun c6 => ?_⟩
  · refine w_181 (d := d) hT hR  (by omega) (fun I7 f9 q8 => ⟨_, rfl, rfl, ?_⟩)
    have k10 : ∀ k j, ¬ ((k = 102 ∧ (j = 0 ∨ j = 2)) ∨ k = 103) → I7 k j = I k j := fun k j h => (f9 k j (u181 k j h)).trans (k3 k j h)
    refine w_181 (d := d) hT hR  (by omega) (fun I11 f13 q12 => ⟨_, rfl, rfl, ?_⟩)
    have k14 : ∀ k j, ¬ ((k = 102 ∧ (j = 0 ∨ j = 2)) ∨ k = 103) → I11 k j = I k j := fun k j h => (f13 k j (u181 k j h)).trans (k10 k j h)
    refine w_181 (d := d) hT hR  (by omega) (fun I15 f17 q16 => ⟨_, rfl, rfl, ?_⟩)
    have k18 : ∀ k j, ¬ ((k = 102 ∧ (j = 0 ∨ j = 2)) ∨ k = 103) → I15 k j = I k j := fun k j h => (f17 k j (u181 k j h)).trans (k14 k j h)
    refine w_181 (d := d) hT hR  (by omega) (fun I19 f21 q20 => ⟨_, rfl, rfl, ?_⟩)
    have k22 : ∀ k j, ¬ ((k = 102 ∧ (j = 0 ∨ j = 2)) ∨ k = 103) → I19 k j = I k j := fun k j h => (f21 k j (u181 k j h)).trans (k18 k j h)
    refine w_181 (d := d) hT hR  (by omega) (fun I23 f25 q24 => ⟨_, rfl, rfl, ?_⟩)
    have k26 : ∀ k j, ¬ ((k = 102 ∧ (j = 0 ∨ j = 2)) ∨ k = 103) → I23 k j = I k j := fun k j h => (f25 k j (u181 k j h)).trans (k22 k j h)
    exact hk _ _ k26 (by omega)
  · exact hk _ _ k3 (by omega)
/-- ChairAlleyModel.end(I)Z -/
theorem w_176 (hT : yLT T) (hR : yLR R) {x1 : Int} (hk : ∀ r I', (∀ k j, ¬ (k = 102 ∧ (j = 0 ∨ j = 2)) → I' k j = I k j) → ((r = 1 ∧ 0 ≤ x1 ∧ x1 ≤ I 102 2 ∧ I' 102 2 = x1) ∨ (r = 0 ∧ ¬ (0 ≤ x1 ∧ x1 ≤ I 102 2) ∧ I' 102 2 = I 102 2)) → K (some (yi r)) (N, T, R, I')) : yW l zSS D cy zFk z d 176 bc bs K 0 0 0 [(0, yr (some 102)), (1, yi x1)] [] (N, T, R, I) := by
  have v102_0 : ∀ k j : Nat, ¬ (k = 102 ∧ (j = 0 ∨ j = 2)) → ¬ (k = 102 ∧ j = 0) := fun k j h => by omega
  have v102_2 : ∀ k j : Nat, ¬ (k = 102 ∧ (j = 0 ∨ j = 2)) → ¬ (k = 102 ∧ j = 2) := fun k j h => by omega
  have k0 : ∀ k j, ¬ (k = 102 ∧ (j = 0 ∨ j = 2)) → I k j = I k j := fun _ _ _ => rfl
  refine e_li (i := 1) (x := x1) rfl fun _ _ => ?_
  refine B_176_0 hT hR ?_
  intro I1 e2
  have k3 : ∀ k j, ¬ (k = 102 ∧ (j = 0 ∨ j = 2)) → I1 k j = I k j := fun k j h => ((congrFun (congrFun e2 k) j).trans (yU_ne _ _ (v102_0 k j h))).trans (k0 k j h)
  have t4 : I1 102 2 = (I 102 2) := (congrFun (congrFun e2 102) 2).trans (yU_ne _ _ (fun q => absurd q.2 (by decide)))
  try rw [t4]
  refine ⟨fun c5 => ?_, fun c5 => ?_⟩
  · exact hk _ _ k3 (by omega)
  · refine ⟨fun c6 => ?_, fun c6 => ?_⟩
    · intro I7 e8
      have k9 : ∀ k j, ¬ (k = 102 ∧ (j = 0 ∨ j = 2)) → I7 k j = I k j := fun k j h => ((congrFun (congrFun e8 k) j).trans (yU_ne _ _ (v102_2 k j h))).trans (k3 k j h)
      have t10 : I7 102 2 = x1 := (congrFun (congrFun e8 102) 2).trans (yU_eq _ _ _ _)
      try rw [t10]
      exact hk _ _ k9 (by omega)
    · exact hk _ _ k3 (by omega)
/-- ChairAlleyModel.taken(I)V -/
theorem w_244 (hT : yLT T) (hR : yLR R) {x1 : Int} (hk : ∀ I', (∀ k j, ¬ (k = 102 ∧ 2 ≤ j ∧ j ≤ 5) → I' k j = I k j) → (I' 102 2 = 0 ∧ I' 102 3 = I 102 2 ∧ I' 102 4 = 0) → K none (N, T, R, I')) : yW l zSS D cy zFk z d 244 bc bs K 0 0 0 [(0, yr (some 102)), (1, yi x1)] [] (N, T, R, I) := by
  have v102_3 : ∀ k j : Nat, ¬ (k = 102 ∧ 2 ≤ j ∧ j ≤ 5) → ¬ (k = 102 ∧ j = 3) := fun k j h => by omega
  have v102_2 : ∀ k j : Nat, ¬ (k = 102 ∧ 2 ≤ j ∧ j ≤ 5) → ¬ (k = 102 ∧ j = 2) := fun k j h => by omega
  have v102_4 : ∀ k j : Nat, ¬ (k = 102 ∧ 2 ≤ j ∧ j ≤ 5) → ¬ (k = 102 ∧ j = 4) := fun k j h => by omega
  have v102_5 : ∀ k j : Nat, ¬ (k = 102 ∧ 2 ≤ j ∧ j ≤ 5) → ¬ (k = 102 ∧ j = 5) := fun k j h => by omega
  have k0 : ∀ k j, ¬ (k = 102 ∧ 2 ≤ j ∧ j ≤ 5) → I k j = I k j := fun _ _ _ => rfl
  refine e_li (i := 1) (x := x1) rfl fun _ _ => ?_
  refine B_244_0 hT hR ?_
  intro I1 e2
  have k3 : ∀ k j, ¬ (k = 102 ∧ 2 ≤ j ∧ j ≤ 5) → I1 k j = I k j := fun k j h => ((congrFun (congrFun e2 k) j).trans (yU_ne _ _ (v102_3 k j h))).trans (k0 k j h)
  have t4 : I1 102 2 = (I 102 2) := (congrFun (congrFun e2 102) 2).trans (yU_ne _ _ (fun q => absurd q.2 (by decide)))
  try rw [t4]
  have t5 : I1 102 3 = (I 102 2) := (congrFun (congrFun e2 102) 3).trans (yU_eq _ _ _ _)
  try rw [t5]
  have t6 : I1 102 4 = (I 102 4) := (congrFun (congrFun e2 102) 4).trans (yU_ne _ _ (fun q => absurd q.2 (by decide)))
  try rw [t6]
  intro I7 e8
  have k9 : ∀ k j, ¬ (k = 102 ∧ 2 ≤ j ∧ j ≤ 5) → I7 k j = I k j := fun k j h => ((congrFun (congrFun e8 k) j).trans (yU_ne _ _ (v102_2 k j h))).trans (k3 k j h)
  have t10 : I7 102 2 = 0 := (congrFun (congrFun e8 102) 2).trans (yU_eq _ _ _ _)
  try rw [t10]
  have t11 : I7 102 3 = (I 102 2) := ((congrFun (congrFun e8 102) 3).trans (yU_ne _ _ (fun q => absurd q.2 (by decide)))).trans t5
  try rw [t11]
  have t12 : I7 102 4 = (I 102 4) := ((congrFun (congrFun e8 102) 4).trans (yU_ne _ _ (fun q => absurd q.2 (by decide)))).trans t6
  try rw [t12]
  intro I13 e14
  have k15 : ∀ k j, ¬ (k = 102 ∧ 2 ≤ j ∧ j ≤ 5) → I13 k j = I k j := fun k j h => ((congrFun (congrFun e14 k) j).trans (yU_ne _ _ (v102_4 k j h))).trans (k9 k j h)
  have t16 : I13 102 2 = 0 := ((congrFun (congrFun e14 102) 2).trans (yU_ne _ _ (fun q => absurd q.2 (by decide)))).trans t10
  try rw [t16]
  have t17 : I13 102 3 = (I 102 2) := ((congrFun (congrFun e14 102) 3).trans (yU_ne _ _ (fun q => absurd q.2 (by decide)))).trans t11
  try rw [t17]
  have t18 : I13 102 4 = 0 := (congrFun (congrFun e14 102) 4).trans (yU_eq _ _ _ _)
  try rw [t18]
  intro I19 e20
  have k21 : ∀ k j, ¬ (k = 102 ∧ 2 ≤ j ∧ j ≤ 5) → I19 k j = I k j := fun k j h => ((congrFun (congrFun e20 k) j).trans (yU_ne _ _ (v102_5 k j h))).trans (k15 k j h)
  have t22 : I19 102 2 = 0 := ((congrFun (congrFun e20 102) 2).trans (yU_ne _ _ (fun q => absurd q.2 (by decide)))).trans t16
  try rw [t22]
  have t23 : I19 102 3 = (I 102 2) := ((congrFun (congrFun e20 102) 3).trans (yU_ne _ _ (fun q => absurd q.2 (by decide)))).trans t17
  try rw [t23]
  have t24 : I19 102 4 = 0 := ((congrFun (congrFun e20 102) 4).trans (yU_ne _ _ (fun q => absurd q.2 (by decide)))).trans t18
  try rw [t24]
  exact hk _ k21 (by omega)
/-- ChairAlleyModel.fails(I)I -/
theorem w_177 (hT : yLT T) (hR : yLR R) {x1 : Int} (h0 : 0 ≤ I 102 3 ∧ I 102 3 ≤ 940 ∧ 0 ≤ I 102 4 ∧ I 102 4 ≤ 940 ∧ 0 ≤ I 102 14 ∧ I 102 14 ≤ 10000) (hk : ∀ r I', (∀ k j, ¬ (k = 102 ∧ (j = 15 ∨ j = 16)) → I' k j = I k j) → ((0 ≤ I' 102 3 ∧ I' 102 3 ≤ 940 ∧ 0 ≤ I' 102 4 ∧ I' 102 4 ≤ 940 ∧ 0 ≤ I' 102 14 ∧ I' 102 14 ≤ 10000)) → K (some (yi r)) (N, T, R, I')) : yW l zSS D cy zFk z (d + 1) 177 bc bs K 0 0 0 [(0, yr (some 102)), (1, yi x1)] [] (N, T, R, I) := by
  have k0 : ∀ k j, ¬ (k = 102 ∧ (j = 15 ∨ j = 16)) → I k j = I k j := fun _ _ _ => rfl
  refine e_li (i := 1) (x := x1) rfl fun _ _ => ?_
  refine B_177_0 hT hR ?_
  refine w_159 (d := d) hT hR  (by omega) (fun r1 I2 f4 q3 => ⟨_, _, rfl, rfl, ?_⟩)
  have k5 : ∀ k j, ¬ (k = 102 ∧ (j = 15 ∨ j = 16)) → I2 k j = I k j := fun k j h => (f4 k j h).trans (k0 k j h)
  have t6 : I2 102 3 = (I 102 3) := (f4 102 3 (by decide))
  try rw [t6]
  try rw [t6] at q3
  have t7 : I2 102 4 = (I 102 4) := (f4 102 4 (by decide))
  try rw [t7]
  try rw [t7] at q3
  have t8 : I2 102 11 = (I 102 11) := (f4 102 11 (by decide))
  try rw [t8]
  try rw [t8] at q3
  have t9 : I2 102 14 = (I 102 14) := (f4 102 14 (by decide))
  try rw [t9]
  try rw [t9] at q3
  exact hk _ _ k5 (by omega)
/-- ChairAlleyModel.judged(I)I -/
theorem w_202 (hT : yLT T) (hR : yLR R) {x1 : Int} (hk : ∀ r I', (∀ k j, ¬ (k = 102 ∧ j = 0) → I' k j = I k j) → (True) → K (some (yi r)) (N, T, R, I')) : yW l zSS D cy zFk z (d + 1) 202 bc bs K 0 0 0 [(0, yr (some 102)), (1, yi x1)] [] (N, T, R, I) := by
  have v102_0 : ∀ k j : Nat, ¬ (k = 102 ∧ j = 0) → ¬ (k = 102 ∧ j = 0) := fun k j h => by omega
  have k0 : ∀ k j, ¬ (k = 102 ∧ j = 0) → I k j = I k j := fun _ _ _ => rfl
  refine e_li (i := 1) (x := x1) rfl fun _ _ => ?_
  refine B_202_0 hT hR ?_
  intro I1 e2
  have k3 : ∀ k j, ¬ (k = 102 ∧ j = 0) → I1 k j = I k j := fun k j h => ((congrFun (congrFun e2 k) j).trans (yU_ne _ _ (v102_0 k j h))).trans (k0 k j h)
  refine ⟨fun c4 => ?_, fun c4 => ?_⟩
  · exact hk _ _ k3 trivial
  · refine w_191 (d := d) hT hR   (fun r5 q6 => ⟨_, _, rfl, rfl, ?_⟩)
    refine ⟨fun c8 => ?_, fun c8 => ?_⟩
    · exact hk _ _ k3 trivial
    · refine ⟨by omega, by omega, ?_⟩
      exact hk _ _ k3 trivial
/-- ChairAlleyModel.step(I)I -/
theorem w_240 (hT : yLT T) (hR : yLR R) {x1 : Int} (h0 : 0 ≤ I 102 42 ∧ I 102 42 ≤ 400) (hk : ∀ r I', (∀ k j, ¬ (k = 102 ∧ j = 0) → I' k j = I k j) → (True) → K (some (yi r)) (N, T, R, I')) : yW l zSS D cy zFk z (d + 1) 240 bc bs K 0 0 0 [(0, yr (some 102)), (1, yi x1)] [] (N, T, R, I) := by
  have v102_0 : ∀ k j : Nat, ¬ (k = 102 ∧ j = 0) → ¬ (k = 102 ∧ j = 0) := fun k j h => by omega
  have k0 : ∀ k j, ¬ (k = 102 ∧ j = 0) → I k j = I k j := fun _ _ _ => rfl
  refine e_li (i := 1) (x := x1) rfl fun _ _ => ?_
  refine B_240_0 hT hR ?_
  intro I1 e2
  have k3 : ∀ k j, ¬ (k = 102 ∧ j = 0) → I1 k j = I k j := fun k j h => ((congrFun (congrFun e2 k) j).trans (yU_ne _ _ (v102_0 k j h))).trans (k0 k j h)
  have t4 : I1 102 42 = (I 102 42) := (congrFun (congrFun e2 102) 42).trans (yU_ne _ _ (fun q => absurd q.2 (by decide)))
  try rw [t4]
  have a5 : ysub (I 102 42) 1 = ((I 102 42) - 1) := ysub_eq (by omega) (by omega)
  try rw [a5]
  refine w_191 (d := d) hT hR   (fun r6 q7 => ⟨_, _, rfl, rfl, ?_⟩)
  refine ⟨fun c9 => ?_, fun c9 => ?_⟩
  · exact hk _ _ k3 trivial
  · refine ⟨by omega, by omega, ?_⟩
    exact hk _ _ k3 trivial
/-- ChairAlleyModel.code(III)V -/
theorem w_169 (hT : yLT T) (hR : yLR R) {x1 x2 x3 : Int} (h0 : 0 ≤ I 102 48 ∧ I 102 48 < 45) (hk : ∀ I', (∀ k j, ¬ ((k = 102 ∧ j = 48) ∨ k = 106) → I' k j = I k j) → (I' 102 48 = I 102 48 + 1 ∧ I' 106 (3 * (I 102 48)).toNat = ynar 1 x1 ∧ I' 106 (3 * (I 102 48) + 1).toNat = ynar 1 x2 ∧ I' 106 (3 * (I 102 48) + 2).toNat = ynar 1 x3) → K none (N, T, R, I')) : yW l zSS D cy zFk z d 169 bc bs K 0 0 0 [(0, yr (some 102)), (1, yi x1), (2, yi x2), (3, yi x3)] [] (N, T, R, I) := by
  have v106 : ∀ k j i : Nat, ¬ ((k = 102 ∧ j = 48) ∨ k = 106) → ¬ (k = 106 ∧ j = i) := fun k j i h => by omega
  have v102_48 : ∀ k j : Nat, ¬ ((k = 102 ∧ j = 48) ∨ k = 106) → ¬ (k = 102 ∧ j = 48) := fun k j h => by omega
  have k0 : ∀ k j, ¬ ((k = 102 ∧ j = 48) ∨ k = 106) → I k j = I k j := fun _ _ _ => rfl
  refine e_li (i := 1) (x := x1) rfl fun _ _ => ?_
  refine e_li (i := 2) (x := x2) rfl fun _ _ => ?_
  refine e_li (i := 3) (x := x3) rfl fun _ _ => ?_
  refine B_169_0 hT hR ?_
  have a1 : ymul 3 (I 102 48) = (3 * (I 102 48)) := ymul_eq (by omega) (by omega)
  try rw [a1]
  refine ⟨by omega, by omega, ?_⟩
  intro I2 e3
  have k4 : ∀ k j, ¬ ((k = 102 ∧ j = 48) ∨ k = 106) → I2 k j = I k j := fun k j h => ((congrFun (congrFun e3 k) j).trans (yU_ne _ _ (v106 k j _ h))).trans (k0 k j h)
  have t5 : I2 102 48 = (I 102 48) := (congrFun (congrFun e3 102) 48).trans (yU_ne _ _ (fun q => absurd q.1 (by decide)))
  try rw [t5]
  have t6 : I2 106 ((3 * (I 102 48)).toNat) = ynar 1 x1 := (congrFun (congrFun e3 106) ((3 * (I 102 48)).toNat)).trans (yU_eq _ _ _ _)
  try rw [t6]
  have t7 : I2 106 (((3 * (I 102 48)) + 1).toNat) = (I 106 (((3 * (I 102 48)) + 1).toNat)) := (congrFun (congrFun e3 106) (((3 * (I 102 48)) + 1).toNat)).trans (yU_ne _ _ (by omega))
  try rw [t7]
  have t8 : I2 106 (((3 * (I 102 48)) + 2).toNat) = (I 106 (((3 * (I 102 48)) + 2).toNat)) := (congrFun (congrFun e3 106) (((3 * (I 102 48)) + 2).toNat)).trans (yU_ne _ _ (by omega))
  try rw [t8]
  have a9 : ymul 3 (I 102 48) = (3 * (I 102 48)) := ymul_eq (by omega) (by omega)
  try rw [a9]
  have a10 : yadd (3 * (I 102 48)) 1 = ((3 * (I 102 48)) + 1) := yadd_eq (by omega) (by omega)
  try rw [a10]
  refine ⟨by omega, by omega, ?_⟩
  intro I11 e12
  have k13 : ∀ k j, ¬ ((k = 102 ∧ j = 48) ∨ k = 106) → I11 k j = I k j := fun k j h => ((congrFun (congrFun e12 k) j).trans (yU_ne _ _ (v106 k j _ h))).trans (k4 k j h)
  have t14 : I11 102 48 = (I 102 48) := ((congrFun (congrFun e12 102) 48).trans (yU_ne _ _ (fun q => absurd q.1 (by decide)))).trans t5
  try rw [t14]
  have t15 : I11 106 ((3 * (I 102 48)).toNat) = ynar 1 x1 := ((congrFun (congrFun e12 106) ((3 * (I 102 48)).toNat)).trans (yU_ne _ _ (by omega))).trans t6
  try rw [t15]
  have t16 : I11 106 (((3 * (I 102 48)) + 1).toNat) = ynar 1 x2 := (congrFun (congrFun e12 106) (((3 * (I 102 48)) + 1).toNat)).trans (yU_eq _ _ _ _)
  try rw [t16]
  have t17 : I11 106 (((3 * (I 102 48)) + 2).toNat) = (I 106 (((3 * (I 102 48)) + 2).toNat)) := ((congrFun (congrFun e12 106) (((3 * (I 102 48)) + 2).toNat)).trans (yU_ne _ _ (by omega))).trans t8
  try rw [t17]
  have a18 : ymul 3 (I 102 48) = (3 * (I 102 48)) := ymul_eq (by omega) (by omega)
  try rw [a18]
  have a19 : yadd (3 * (I 102 48)) 2 = ((3 * (I 102 48)) + 2) := yadd_eq (by omega) (by omega)
  try rw [a19]
  refine ⟨by omega, by omega, ?_⟩
  intro I20 e21
  have k22 : ∀ k j, ¬ ((k = 102 ∧ j = 48) ∨ k = 106) → I20 k j = I k j := fun k j h => ((congrFun (congrFun e21 k) j).trans (yU_ne _ _ (v106 k j _ h))).trans (k13 k j h)
  have t23 : I20 102 48 = (I 102 48) := ((congrFun (congrFun e21 102) 48).trans (yU_ne _ _ (fun q => absurd q.1 (by decide)))).trans t14
  try rw [t23]
  have t24 : I20 106 ((3 * (I 102 48)).toNat) = ynar 1 x1 := ((congrFun (congrFun e21 106) ((3 * (I 102 48)).toNat)).trans (yU_ne _ _ (by omega))).trans t15
  try rw [t24]
  have t25 : I20 106 (((3 * (I 102 48)) + 1).toNat) = ynar 1 x2 := ((congrFun (congrFun e21 106) (((3 * (I 102 48)) + 1).toNat)).trans (yU_ne _ _ (by omega))).trans t16
  try rw [t25]
  have t26 : I20 106 (((3 * (I 102 48)) + 2).toNat) = ynar 1 x3 := (congrFun (congrFun e21 106) (((3 * (I 102 48)) + 2).toNat)).trans (yU_eq _ _ _ _)
  try rw [t26]
  have a27 : yadd (I 102 48) 1 = ((I 102 48) + 1) := yadd_eq (by omega) (by omega)
  try rw [a27]
  intro I28 e29
  have k30 : ∀ k j, ¬ ((k = 102 ∧ j = 48) ∨ k = 106) → I28 k j = I k j := fun k j h => ((congrFun (congrFun e29 k) j).trans (yU_ne _ _ (v102_48 k j h))).trans (k22 k j h)
  have t31 : I28 102 48 = ((I 102 48) + 1) := (congrFun (congrFun e29 102) 48).trans (yU_eq _ _ _ _)
  try rw [t31]
  have t32 : I28 106 ((3 * (I 102 48)).toNat) = ynar 1 x1 := ((congrFun (congrFun e29 106) ((3 * (I 102 48)).toNat)).trans (yU_ne _ _ (fun q => absurd q.1 (by decide)))).trans t24
  try rw [t32]
  have t33 : I28 106 (((3 * (I 102 48)) + 1).toNat) = ynar 1 x2 := ((congrFun (congrFun e29 106) (((3 * (I 102 48)) + 1).toNat)).trans (yU_ne _ _ (fun q => absurd q.1 (by decide)))).trans t25
  try rw [t33]
  have t34 : I28 106 (((3 * (I 102 48)) + 2).toNat) = ynar 1 x3 := ((congrFun (congrFun e29 106) (((3 * (I 102 48)) + 2).toNat)).trans (yU_ne _ _ (fun q => absurd q.1 (by decide)))).trans t26
  try rw [t34]
  exact hk _ k30 (by omega)
end Sw
