/-! CONTRACTS of the reference, printed by wip/whole/y/t5.py (96.p2) -/
section Sw
variable {l : Launch} {D : va_G} {cy : Nat → ClassId} {z d bc bs N : Nat} {T : Nat → Nat × Nat} {R : Nat → Nat → Option Nat} {I : Nat → Nat → Int} {K : yKo}
/-- ChairAlleyModel.readChair()Z -/
theorem w_229 (hT : yLT T) (hR : yLR R) (h0 : 0 ≤ I 102 3 ∧ I 102 3 ≤ 940 ∧ 0 ≤ I 102 4 ∧ I 102 4 ≤ 940 ∧ 0 ≤ I 102 14 ∧ I 102 14 ≤ 10000) (h1 : (I 102 22 = 0 → I 105 0 = 0) ∧ (I 102 23 = 0 → I 105 6 = 0)) (hP0 : mH I) (hk : ∀ r I', (∀ k j, ¬ ((k = 102 ∧ (j = 4 ∨ (11 ≤ j ∧ j ≤ 18))) ∨ k = 105 ∨ k = 107) → I' k j = I k j) → (((0 ≤ I' 102 3 ∧ I' 102 3 ≤ 940 ∧ 0 ≤ I' 102 4 ∧ I' 102 4 ≤ 940 ∧ 0 ≤ I' 102 14 ∧ I' 102 14 ≤ 10000) ∧ ((I' 102 22 = 0 → I' 105 0 = 0) ∧ (I' 102 23 = 0 → I' 105 6 = 0)) ∧ I 102 4 ≤ I' 102 4 ∧ (r = 0 ∨ (r = 1 ∧ (I' 102 11 = 3 → I 102 4 < I' 102 4)))) ∧ mH I') → K (some (yi r)) (N, T, R, I')) : yW l zSS D cy zFk z (d + 4) 229 bc bs K 0 0 0 [(0, yr (some 102))] [] (N, T, R, I) := by
  have hd := hP0.1
  have v107 : ∀ k j i : Nat, ¬ ((k = 102 ∧ (j = 4 ∨ (11 ≤ j ∧ j ≤ 18))) ∨ k = 105 ∨ k = 107) → ¬ (k = 107 ∧ j = i) := fun k j i h => by omega
  have xmH107 : ∀ k j i : Nat, k = 105 → ¬ (k = 107 ∧ j = i) := fun k j i h => by omega
  have u182 : ∀ k j : Nat, ¬ ((k = 102 ∧ (j = 4 ∨ (11 ≤ j ∧ j ≤ 18))) ∨ k = 105 ∨ k = 107) → ¬ (k = 102 ∧ (j = 4 ∨ (11 ≤ j ∧ j ≤ 14) ∨ j = 17)) := fun k j h => by omega
  have ymH182 : ∀ k j : Nat, k = 105 → ¬ (k = 102 ∧ (j = 4 ∨ (11 ≤ j ∧ j ≤ 14) ∨ j = 17)) := fun k j h => by omega
  have u212 : ∀ k j : Nat, ¬ ((k = 102 ∧ (j = 4 ∨ (11 ≤ j ∧ j ≤ 18))) ∨ k = 105 ∨ k = 107) → ¬ (k = 102 ∧ (j = 4 ∨ (11 ≤ j ∧ j ≤ 18))) := fun k j h => by omega
  have ymH212 : ∀ k j : Nat, k = 105 → ¬ (k = 102 ∧ (j = 4 ∨ (11 ≤ j ∧ j ≤ 18))) := fun k j h => by omega
  have u159 : ∀ k j : Nat, ¬ ((k = 102 ∧ (j = 4 ∨ (11 ≤ j ∧ j ≤ 18))) ∨ k = 105 ∨ k = 107) → ¬ (k = 102 ∧ (j = 15 ∨ j = 16)) := fun k j h => by omega
  have ymH159 : ∀ k j : Nat, k = 105 → ¬ (k = 102 ∧ (j = 15 ∨ j = 16)) := fun k j h => by omega
  have v105 : ∀ k j i : Nat, ¬ ((k = 102 ∧ (j = 4 ∨ (11 ≤ j ∧ j ≤ 18))) ∨ k = 105 ∨ k = 107) → ¬ (k = 105 ∧ j = i) := fun k j i h => by omega
  have u245 : ∀ k j : Nat, ¬ ((k = 102 ∧ (j = 4 ∨ (11 ≤ j ∧ j ≤ 18))) ∨ k = 105 ∨ k = 107) → ¬ (k = 102 ∧ (j = 4 ∨ (11 ≤ j ∧ j ≤ 18))) := fun k j h => by omega
  have ymH245 : ∀ k j : Nat, k = 105 → ¬ (k = 102 ∧ (j = 4 ∨ (11 ≤ j ∧ j ≤ 18))) := fun k j h => by omega
  have v105_2 : ∀ k j : Nat, ¬ ((k = 102 ∧ (j = 4 ∨ (11 ≤ j ∧ j ≤ 18))) ∨ k = 105 ∨ k = 107) → ¬ (k = 105 ∧ j = 2) := fun k j h => by omega
  have k0 : ∀ k j, ¬ ((k = 102 ∧ (j = 4 ∨ (11 ≤ j ∧ j ≤ 18))) ∨ k = 105 ∨ k = 107) → I k j = I k j := fun _ _ _ => rfl
  have L : ∀ m : Nat, (∀ x1 : Int, ∀ X : Nat → Nat → Int, (∀ k j, ¬ ((k = 102 ∧ (j = 4 ∨ (11 ≤ j ∧ j ≤ 18))) ∨ k = 105 ∨ k = 107) → X k j = I k j) → (20 : Int).toNat < m → (((0 ≤ X 102 3 ∧ X 102 3 ≤ 940 ∧ 0 ≤ X 102 4 ∧ X 102 4 ≤ 940 ∧ 0 ≤ X 102 14 ∧ X 102 14 ≤ 10000) ∧ I 102 4 ≤ X 102 4 ∧ ((X 102 22 = 0 → X 105 0 = 0) ∧ (X 102 23 = 0 → X 105 6 = 0)) ∧ x1 = X 105 2 ∧ 0 ≤ x1 ∧ x1 < 8) ∧ mH X) → yW l zSS D cy zFk z (d + 4) 229 bc bs K 0 0 52 [(0, yr (some 102)), (1, yi x1)] [] (N, T, R, X)) ∧ (∀ x1 : Int, ∀ X : Nat → Nat → Int, (∀ k j, ¬ ((k = 102 ∧ (j = 4 ∨ (11 ≤ j ∧ j ≤ 18))) ∨ k = 105 ∨ k = 107) → X k j = I k j) → (18 : Int).toNat < m → (((0 ≤ X 102 3 ∧ X 102 3 ≤ 940 ∧ 0 ≤ X 102 4 ∧ X 102 4 ≤ 940 ∧ 0 ≤ X 102 14 ∧ X 102 14 ≤ 10000) ∧ I 102 4 ≤ X 102 4 ∧ ((X 102 22 = 0 → X 105 0 = 0) ∧ (X 102 23 = 0 → X 105 6 = 0)) ∧ x1 = X 105 2 ∧ 0 ≤ x1 ∧ x1 < 8 ∧ (0 ≤ X 102 18 ∧ X 102 18 < 100 ∧ X 102 18 % 10 < X 105 0 ∧ X 102 18 / 10 < X 105 1)) ∧ mH X) → yW l zSS D cy zFk z (d + 4) 229 bc bs K 0 0 78 [(0, yr (some 102)), (1, yi x1)] [] (N, T, R, X)) ∧ (∀ x1 : Int, ∀ X : Nat → Nat → Int, (∀ k j, ¬ ((k = 102 ∧ (j = 4 ∨ (11 ≤ j ∧ j ≤ 18))) ∨ k = 105 ∨ k = 107) → X k j = I k j) → (16 : Int).toNat < m → (((0 ≤ X 102 3 ∧ X 102 3 ≤ 940 ∧ 0 ≤ X 102 4 ∧ X 102 4 ≤ 940 ∧ 0 ≤ X 102 14 ∧ X 102 14 ≤ 10000) ∧ I 102 4 ≤ X 102 4 ∧ ((X 102 22 = 0 → X 105 0 = 0) ∧ (X 102 23 = 0 → X 105 6 = 0)) ∧ x1 = X 105 2 ∧ 0 ≤ x1 ∧ x1 < 8 ∧ (0 ≤ X 102 18 ∧ X 102 18 < 100 ∧ X 102 18 % 10 < X 105 0 ∧ X 102 18 / 10 < X 105 1)) ∧ mH X) → yW l zSS D cy zFk z (d + 4) 229 bc bs K 0 0 100 [(0, yr (some 102)), (1, yi x1)] [] (N, T, R, X)) ∧ (∀ x1 : Int, ∀ X : Nat → Nat → Int, (∀ k j, ¬ ((k = 102 ∧ (j = 4 ∨ (11 ≤ j ∧ j ≤ 18))) ∨ k = 105 ∨ k = 107) → X k j = I k j) → (14 : Int).toNat < m → (((0 ≤ X 102 3 ∧ X 102 3 ≤ 940 ∧ 0 ≤ X 102 4 ∧ X 102 4 ≤ 940 ∧ 0 ≤ X 102 14 ∧ X 102 14 ≤ 10000) ∧ I 102 4 ≤ X 102 4 ∧ ((X 102 22 = 0 → X 105 0 = 0) ∧ (X 102 23 = 0 → X 105 6 = 0)) ∧ x1 = X 105 2 ∧ 0 ≤ x1 ∧ x1 < 8 ∧ (0 ≤ X 105 (326 + x1).toNat ∧ X 105 (326 + x1).toNat % 10 < X 105 0 ∧ X 105 (326 + x1).toNat / 10 < X 105 1)) ∧ mH X) → yW l zSS D cy zFk z (d + 4) 229 bc bs K 0 0 130 [(0, yr (some 102)), (1, yi x1)] [] (N, T, R, X)) ∧ (∀ x1 : Int, ∀ X : Nat → Nat → Int, (∀ k j, ¬ ((k = 102 ∧ (j = 4 ∨ (11 ≤ j ∧ j ≤ 18))) ∨ k = 105 ∨ k = 107) → X k j = I k j) → (12 : Int).toNat < m → (((0 ≤ X 102 3 ∧ X 102 3 ≤ 940 ∧ 0 ≤ X 102 4 ∧ X 102 4 ≤ 940 ∧ 0 ≤ X 102 14 ∧ X 102 14 ≤ 10000) ∧ I 102 4 ≤ X 102 4 ∧ ((X 102 22 = 0 → X 105 0 = 0) ∧ (X 102 23 = 0 → X 105 6 = 0)) ∧ x1 = X 105 2 ∧ 0 ≤ x1 ∧ x1 < 8 ∧ (0 ≤ X 105 (326 + x1).toNat ∧ X 105 (326 + x1).toNat % 10 < X 105 0 ∧ X 105 (326 + x1).toNat / 10 < X 105 1)) ∧ mH X) → yW l zSS D cy zFk z (d + 4) 229 bc bs K 0 0 156 [(0, yr (some 102)), (1, yi x1)] [] (N, T, R, X)) ∧ (∀ x1 : Int, ∀ X : Nat → Nat → Int, (∀ k j, ¬ ((k = 102 ∧ (j = 4 ∨ (11 ≤ j ∧ j ≤ 18))) ∨ k = 105 ∨ k = 107) → X k j = I k j) → (10 : Int).toNat < m → (((0 ≤ X 102 3 ∧ X 102 3 ≤ 940 ∧ 0 ≤ X 102 4 ∧ X 102 4 ≤ 940 ∧ 0 ≤ X 102 14 ∧ X 102 14 ≤ 10000) ∧ I 102 4 ≤ X 102 4 ∧ ((X 102 22 = 0 → X 105 0 = 0) ∧ (X 102 23 = 0 → X 105 6 = 0)) ∧ x1 = X 105 2 ∧ 0 ≤ x1 ∧ x1 < 8 ∧ (0 ≤ X 105 (326 + x1).toNat ∧ X 105 (326 + x1).toNat % 10 < X 105 0 ∧ X 105 (326 + x1).toNat / 10 < X 105 1) ∧ (0 ≤ X 102 18 ∧ X 102 18 < 100 ∧ X 102 18 % 10 < X 105 0 ∧ X 102 18 / 10 < X 105 1)) ∧ mH X) → yW l zSS D cy zFk z (d + 4) 229 bc bs K 0 0 179 [(0, yr (some 102)), (1, yi x1)] [] (N, T, R, X)) ∧ (∀ x1 : Int, ∀ X : Nat → Nat → Int, (∀ k j, ¬ ((k = 102 ∧ (j = 4 ∨ (11 ≤ j ∧ j ≤ 18))) ∨ k = 105 ∨ k = 107) → X k j = I k j) → (8 : Int).toNat < m → (((0 ≤ X 102 3 ∧ X 102 3 ≤ 940 ∧ 0 ≤ X 102 4 ∧ X 102 4 ≤ 940 ∧ 0 ≤ X 102 14 ∧ X 102 14 ≤ 10000) ∧ I 102 4 ≤ X 102 4 ∧ ((X 102 22 = 0 → X 105 0 = 0) ∧ (X 102 23 = 0 → X 105 6 = 0)) ∧ x1 = X 105 2 ∧ 0 ≤ x1 ∧ x1 < 8 ∧ (0 ≤ X 105 (326 + x1).toNat ∧ X 105 (326 + x1).toNat % 10 < X 105 0 ∧ X 105 (326 + x1).toNat / 10 < X 105 1) ∧ (0 ≤ X 102 18 ∧ X 102 18 < 100 ∧ X 102 18 % 10 < X 105 0 ∧ X 102 18 / 10 < X 105 1)) ∧ mH X) → yW l zSS D cy zFk z (d + 4) 229 bc bs K 0 0 201 [(0, yr (some 102)), (1, yi x1)] [] (N, T, R, X)) := by
    intro m
    induction m with
    | zero => exact ⟨fun _ _ _ h => absurd h (Nat.not_lt_zero _), fun _ _ _ h => absurd h (Nat.not_lt_zero _), fun _ _ _ h => absurd h (Nat.not_lt_zero _), fun _ _ _ h => absurd h (Nat.not_lt_zero _), fun _ _ _ h => absurd h (Nat.not_lt_zero _), fun _ _ _ h => absurd h (Nat.not_lt_zero _), fun _ _ _ h => absurd h (Nat.not_lt_zero _)⟩
    | succ m ih =>
      refine ⟨?_, ?_, ?_, ?_, ?_, ?_, ?_⟩
      · intro x1 X kX hm iv
        obtain ⟨iv, pX_0⟩ := iv
        refine e_li (i := 1) (x := x1) rfl fun _ _ => ?_
        have hd := pX_0.1
        have t1 : X 102 3 = (I 102 3) := (kX 102 3 (by decide))
        have t2 : X 102 22 = (I 102 22) := (kX 102 22 (by decide))
        have t3 : X 102 23 = (I 102 23) := (kX 102 23 (by decide))
        refine Bx_229_52 hT hR ?_
        try rw [t1]
        try rw [t2]
        try rw [t3]
        have a4 : yadd 8 x1 = (8 + x1) := yadd_eq (by omega) (by omega)
        try rw [a4]
        refine ⟨by omega, by omega, ?_⟩
        intro I5 e6
        have k7 : ∀ k j, ¬ ((k = 102 ∧ (j = 4 ∨ (11 ≤ j ∧ j ≤ 18))) ∨ k = 105 ∨ k = 107) → I5 k j = I k j := fun k j h => ((congrFun (congrFun e6 k) j).trans (yU_ne _ _ (v107 k j _ h))).trans (kX k j h)
        have p8 : mH I5 := mH_eq pX_0 (fun k j h => (congrFun (congrFun e6 k) j).trans (yU_ne _ _ (xmH107 k j _ h)))
        have t9 : I5 102 3 = (I 102 3) := ((congrFun (congrFun e6 102) 3).trans (yU_ne _ _ (fun q => absurd q.1 (by decide)))).trans t1
        try rw [t9]
        have t10 : I5 102 4 = (X 102 4) := (congrFun (congrFun e6 102) 4).trans (yU_ne _ _ (fun q => absurd q.1 (by decide)))
        try rw [t10]
        have t11 : I5 102 11 = (X 102 11) := (congrFun (congrFun e6 102) 11).trans (yU_ne _ _ (fun q => absurd q.1 (by decide)))
        try rw [t11]
        have t12 : I5 102 14 = (X 102 14) := (congrFun (congrFun e6 102) 14).trans (yU_ne _ _ (fun q => absurd q.1 (by decide)))
        try rw [t12]
        have t13 : I5 102 18 = (X 102 18) := (congrFun (congrFun e6 102) 18).trans (yU_ne _ _ (fun q => absurd q.1 (by decide)))
        try rw [t13]
        have t14 : I5 102 22 = (I 102 22) := ((congrFun (congrFun e6 102) 22).trans (yU_ne _ _ (fun q => absurd q.1 (by decide)))).trans t2
        try rw [t14]
        have t15 : I5 102 23 = (I 102 23) := ((congrFun (congrFun e6 102) 23).trans (yU_ne _ _ (fun q => absurd q.1 (by decide)))).trans t3
        try rw [t15]
        have t16 : I5 105 0 = (X 105 0) := (congrFun (congrFun e6 105) 0).trans (yU_ne _ _ (fun q => absurd q.1 (by decide)))
        try rw [t16]
        have t17 : I5 105 1 = (X 105 1) := (congrFun (congrFun e6 105) 1).trans (yU_ne _ _ (fun q => absurd q.1 (by decide)))
        try rw [t17]
        have t18 : I5 105 2 = (X 105 2) := (congrFun (congrFun e6 105) 2).trans (yU_ne _ _ (fun q => absurd q.1 (by decide)))
        try rw [t18]
        have t19 : I5 105 6 = (X 105 6) := (congrFun (congrFun e6 105) 6).trans (yU_ne _ _ (fun q => absurd q.1 (by decide)))
        try rw [t19]
        have t20 : I5 105 ((326 + x1).toNat) = (X 105 ((326 + x1).toNat)) := (congrFun (congrFun e6 105) ((326 + x1).toNat)).trans (yU_ne _ _ (fun q => absurd q.1 (by decide)))
        try rw [t20]
        have t21 : I5 105 ((334 + x1).toNat) = (X 105 ((334 + x1).toNat)) := (congrFun (congrFun e6 105) ((334 + x1).toNat)).trans (yU_ne _ _ (fun q => absurd q.1 (by decide)))
        try rw [t21]
        refine w_182 (d := d + 2) hT hR  (by omega) (fun I22 f24 q23 => ⟨_, rfl, rfl, ?_⟩)
        have k25 : ∀ k j, ¬ ((k = 102 ∧ (j = 4 ∨ (11 ≤ j ∧ j ≤ 18))) ∨ k = 105 ∨ k = 107) → I22 k j = I k j := fun k j h => (f24 k j (u182 k j h)).trans (k7 k j h)
        have t26 : I22 102 3 = (I 102 3) := (f24 102 3 (by decide)).trans t9
        try rw [t26]
        try rw [t26] at q23
        have t27 : I22 102 18 = (X 102 18) := (f24 102 18 (by decide)).trans t13
        try rw [t27]
        try rw [t27] at q23
        have t28 : I22 102 22 = (I 102 22) := (f24 102 22 (by decide)).trans t14
        try rw [t28]
        try rw [t28] at q23
        have t29 : I22 102 23 = (I 102 23) := (f24 102 23 (by decide)).trans t15
        try rw [t29]
        try rw [t29] at q23
        have t30 : I22 105 0 = (X 105 0) := (f24 105 0 (by decide)).trans t16
        try rw [t30]
        try rw [t30] at q23
        have t31 : I22 105 1 = (X 105 1) := (f24 105 1 (by decide)).trans t17
        try rw [t31]
        try rw [t31] at q23
        have t32 : I22 105 2 = (X 105 2) := (f24 105 2 (by decide)).trans t18
        try rw [t32]
        try rw [t32] at q23
        have t33 : I22 105 6 = (X 105 6) := (f24 105 6 (by decide)).trans t19
        try rw [t33]
        try rw [t33] at q23
        have t34 : I22 105 ((326 + x1).toNat) = (X 105 ((326 + x1).toNat)) := (f24 105 ((326 + x1).toNat) (by omega)).trans t20
        try rw [t34]
        try rw [t34] at q23
        have t35 : I22 105 ((334 + x1).toNat) = (X 105 ((334 + x1).toNat)) := (f24 105 ((334 + x1).toNat) (by omega)).trans t21
        try rw [t35]
        try rw [t35] at q23
        have p36 : mH I22 := mH_eq p8 (fun k j h => f24 k j (ymH182 k j h))
        refine w_212 (d := d) hT hR  (by omega) (by omega) (fun r37 I38 f40 q39 => ⟨_, _, rfl, rfl, ?_⟩)
        have k41 : ∀ k j, ¬ ((k = 102 ∧ (j = 4 ∨ (11 ≤ j ∧ j ≤ 18))) ∨ k = 105 ∨ k = 107) → I38 k j = I k j := fun k j h => (f40 k j (u212 k j h)).trans (k25 k j h)
        have t42 : I38 102 3 = (I 102 3) := (f40 102 3 (by decide)).trans t26
        try rw [t42]
        try rw [t42] at q39
        have t43 : I38 102 22 = (I 102 22) := (f40 102 22 (by decide)).trans t28
        try rw [t43]
        try rw [t43] at q39
        have t44 : I38 102 23 = (I 102 23) := (f40 102 23 (by decide)).trans t29
        try rw [t44]
        try rw [t44] at q39
        have t45 : I38 105 0 = (X 105 0) := (f40 105 0 (by decide)).trans t30
        try rw [t45]
        try rw [t45] at q39
        have t46 : I38 105 1 = (X 105 1) := (f40 105 1 (by decide)).trans t31
        try rw [t46]
        try rw [t46] at q39
        have t47 : I38 105 2 = (X 105 2) := (f40 105 2 (by decide)).trans t32
        try rw [t47]
        try rw [t47] at q39
        have t48 : I38 105 6 = (X 105 6) := (f40 105 6 (by decide)).trans t33
        try rw [t48]
        try rw [t48] at q39
        have t49 : I38 105 ((326 + x1).toNat) = (X 105 ((326 + x1).toNat)) := (f40 105 ((326 + x1).toNat) (by omega)).trans t34
        try rw [t49]
        try rw [t49] at q39
        have t50 : I38 105 ((334 + x1).toNat) = (X 105 ((334 + x1).toNat)) := (f40 105 ((334 + x1).toNat) (by omega)).trans t35
        try rw [t50]
        try rw [t50] at q39
        have p51 : mH I38 := mH_eq p36 (fun k j h => f40 k j (ymH212 k j h))
        refine ⟨fun c52 => ?_, fun c52 => ?_⟩
        · exact ih.2.1 _ _ k41 (by omega) ⟨(by omega), p51⟩
        · exact hk _ _ k41 ⟨(by omega), p51⟩
      · intro x1 X kX hm iv
        obtain ⟨iv, pX_0⟩ := iv
        refine e_li (i := 1) (x := x1) rfl fun _ _ => ?_
        have hd := pX_0.1
        have t53 : X 102 3 = (I 102 3) := (kX 102 3 (by decide))
        have t54 : X 102 22 = (I 102 22) := (kX 102 22 (by decide))
        have t55 : X 102 23 = (I 102 23) := (kX 102 23 (by decide))
        refine Bx_229_78 hT hR ?_
        try rw [t53]
        try rw [t54]
        try rw [t55]
        have a56 : yadd 10 (X 102 18) = (10 + (X 102 18)) := yadd_eq (by omega) (by omega)
        try rw [a56]
        refine ⟨by omega, by omega, ?_⟩
        refine ⟨fun c57 => ?_, fun c57 => ?_⟩
        · exact ih.2.2.1 _ _ kX (by omega) ⟨(by omega), pX_0⟩
        · refine w_159 (d := d + 3) hT hR  (by omega) (fun r58 I59 f61 q60 => ⟨_, _, rfl, rfl, ?_⟩)
          have k62 : ∀ k j, ¬ ((k = 102 ∧ (j = 4 ∨ (11 ≤ j ∧ j ≤ 18))) ∨ k = 105 ∨ k = 107) → I59 k j = I k j := fun k j h => (f61 k j (u159 k j h)).trans (kX k j h)
          have t63 : I59 102 3 = (I 102 3) := (f61 102 3 (by decide)).trans t53
          try rw [t63]
          try rw [t63] at q60
          have t64 : I59 102 4 = (X 102 4) := (f61 102 4 (by decide))
          try rw [t64]
          try rw [t64] at q60
          have t65 : I59 102 11 = (X 102 11) := (f61 102 11 (by decide))
          try rw [t65]
          try rw [t65] at q60
          have t66 : I59 102 14 = (X 102 14) := (f61 102 14 (by decide))
          try rw [t66]
          try rw [t66] at q60
          have t67 : I59 102 18 = (X 102 18) := (f61 102 18 (by decide))
          try rw [t67]
          try rw [t67] at q60
          have t68 : I59 102 22 = (I 102 22) := (f61 102 22 (by decide)).trans t54
          try rw [t68]
          try rw [t68] at q60
          have t69 : I59 102 23 = (I 102 23) := (f61 102 23 (by decide)).trans t55
          try rw [t69]
          try rw [t69] at q60
          have t70 : I59 105 0 = (X 105 0) := (f61 105 0 (by decide))
          try rw [t70]
          try rw [t70] at q60
          have t71 : I59 105 1 = (X 105 1) := (f61 105 1 (by decide))
          try rw [t71]
          try rw [t71] at q60
          have t72 : I59 105 2 = (X 105 2) := (f61 105 2 (by decide))
          try rw [t72]
          try rw [t72] at q60
          have t73 : I59 105 6 = (X 105 6) := (f61 105 6 (by decide))
          try rw [t73]
          try rw [t73] at q60
          have t74 : I59 105 ((326 + x1).toNat) = (X 105 ((326 + x1).toNat)) := (f61 105 ((326 + x1).toNat) (by omega))
          try rw [t74]
          try rw [t74] at q60
          have t75 : I59 105 ((334 + x1).toNat) = (X 105 ((334 + x1).toNat)) := (f61 105 ((334 + x1).toNat) (by omega))
          try rw [t75]
          try rw [t75] at q60
          have p76 : mH I59 := mH_eq pX_0 (fun k j h => f61 k j (ymH159 k j h))
          refine ⟨by omega, ?_⟩
          exact hk _ _ k62 ⟨(by omega), p76⟩
      · intro x1 X kX hm iv
        obtain ⟨iv, pX_0⟩ := iv
        refine e_li (i := 1) (x := x1) rfl fun _ _ => ?_
        have hd := pX_0.1
        have t77 : X 102 3 = (I 102 3) := (kX 102 3 (by decide))
        have t78 : X 102 22 = (I 102 22) := (kX 102 22 (by decide))
        have t79 : X 102 23 = (I 102 23) := (kX 102 23 (by decide))
        refine Bx_229_100 hT hR ?_
        try rw [t77]
        try rw [t78]
        try rw [t79]
        have a80 : yadd 326 x1 = (326 + x1) := yadd_eq (by omega) (by omega)
        try rw [a80]
        refine ⟨by omega, by omega, ?_⟩
        intro I81 e82
        first | have n83 : ynar 1 (X 102 18) = (X 102 18) := ynar1_eq (by omega) (by omega) | skip
        try rw [n83] at e82
        have k84 : ∀ k j, ¬ ((k = 102 ∧ (j = 4 ∨ (11 ≤ j ∧ j ≤ 18))) ∨ k = 105 ∨ k = 107) → I81 k j = I k j := fun k j h => ((congrFun (congrFun e82 k) j).trans (yU_ne _ _ (v105 k j _ h))).trans (kX k j h)
        have p85 : mH I81 := by rw [e82]; exact mH_set pX_0 (by omega)
        have t86 : I81 102 3 = (I 102 3) := ((congrFun (congrFun e82 102) 3).trans (yU_ne _ _ (fun q => absurd q.1 (by decide)))).trans t77
        try rw [t86]
        have t87 : I81 102 4 = (X 102 4) := (congrFun (congrFun e82 102) 4).trans (yU_ne _ _ (fun q => absurd q.1 (by decide)))
        try rw [t87]
        have t88 : I81 102 11 = (X 102 11) := (congrFun (congrFun e82 102) 11).trans (yU_ne _ _ (fun q => absurd q.1 (by decide)))
        try rw [t88]
        have t89 : I81 102 14 = (X 102 14) := (congrFun (congrFun e82 102) 14).trans (yU_ne _ _ (fun q => absurd q.1 (by decide)))
        try rw [t89]
        have t90 : I81 102 18 = (X 102 18) := (congrFun (congrFun e82 102) 18).trans (yU_ne _ _ (fun q => absurd q.1 (by decide)))
        try rw [t90]
        have t91 : I81 102 22 = (I 102 22) := ((congrFun (congrFun e82 102) 22).trans (yU_ne _ _ (fun q => absurd q.1 (by decide)))).trans t78
        try rw [t91]
        have t92 : I81 102 23 = (I 102 23) := ((congrFun (congrFun e82 102) 23).trans (yU_ne _ _ (fun q => absurd q.1 (by decide)))).trans t79
        try rw [t92]
        have t93 : I81 105 0 = (X 105 0) := (congrFun (congrFun e82 105) 0).trans (yU_ne _ _ (by omega))
        try rw [t93]
        have t94 : I81 105 1 = (X 105 1) := (congrFun (congrFun e82 105) 1).trans (yU_ne _ _ (by omega))
        try rw [t94]
        have t95 : I81 105 2 = (X 105 2) := (congrFun (congrFun e82 105) 2).trans (yU_ne _ _ (by omega))
        try rw [t95]
        have t96 : I81 105 6 = (X 105 6) := (congrFun (congrFun e82 105) 6).trans (yU_ne _ _ (by omega))
        try rw [t96]
        have t97 : I81 105 ((326 + x1).toNat) = (X 102 18) := (congrFun (congrFun e82 105) ((326 + x1).toNat)).trans (yU_eq _ _ _ _)
        try rw [t97]
        have t98 : I81 105 ((334 + x1).toNat) = (X 105 ((334 + x1).toNat)) := (congrFun (congrFun e82 105) ((334 + x1).toNat)).trans (yU_ne _ _ (by omega))
        try rw [t98]
        refine w_182 (d := d + 2) hT hR  (by omega) (fun I99 f101 q100 => ⟨_, rfl, rfl, ?_⟩)
        have k102 : ∀ k j, ¬ ((k = 102 ∧ (j = 4 ∨ (11 ≤ j ∧ j ≤ 18))) ∨ k = 105 ∨ k = 107) → I99 k j = I k j := fun k j h => (f101 k j (u182 k j h)).trans (k84 k j h)
        have t103 : I99 102 3 = (I 102 3) := (f101 102 3 (by decide)).trans t86
        try rw [t103]
        try rw [t103] at q100
        have t104 : I99 102 18 = (X 102 18) := (f101 102 18 (by decide)).trans t90
        try rw [t104]
        try rw [t104] at q100
        have t105 : I99 102 22 = (I 102 22) := (f101 102 22 (by decide)).trans t91
        try rw [t105]
        try rw [t105] at q100
        have t106 : I99 102 23 = (I 102 23) := (f101 102 23 (by decide)).trans t92
        try rw [t106]
        try rw [t106] at q100
        have t107 : I99 105 0 = (X 105 0) := (f101 105 0 (by decide)).trans t93
        try rw [t107]
        try rw [t107] at q100
        have t108 : I99 105 1 = (X 105 1) := (f101 105 1 (by decide)).trans t94
        try rw [t108]
        try rw [t108] at q100
        have t109 : I99 105 2 = (X 105 2) := (f101 105 2 (by decide)).trans t95
        try rw [t109]
        try rw [t109] at q100
        have t110 : I99 105 6 = (X 105 6) := (f101 105 6 (by decide)).trans t96
        try rw [t110]
        try rw [t110] at q100
        have t111 : I99 105 ((326 + x1).toNat) = (X 102 18) := (f101 105 ((326 + x1).toNat) (by omega)).trans t97
        try rw [t111]
        try rw [t111] at q100
        have t112 : I99 105 ((334 + x1).toNat) = (X 105 ((334 + x1).toNat)) := (f101 105 ((334 + x1).toNat) (by omega)).trans t98
        try rw [t112]
        try rw [t112] at q100
        have p113 : mH I99 := mH_eq p85 (fun k j h => f101 k j (ymH182 k j h))
        refine w_245 (d := d + 1) hT hR  (by omega) (fun r114 I115 f117 q116 => ⟨_, _, rfl, rfl, ?_⟩)
        have k118 : ∀ k j, ¬ ((k = 102 ∧ (j = 4 ∨ (11 ≤ j ∧ j ≤ 18))) ∨ k = 105 ∨ k = 107) → I115 k j = I k j := fun k j h => (f117 k j (u245 k j h)).trans (k102 k j h)
        have t119 : I115 102 3 = (I 102 3) := (f117 102 3 (by decide)).trans t103
        try rw [t119]
        try rw [t119] at q116
        have t120 : I115 102 22 = (I 102 22) := (f117 102 22 (by decide)).trans t105
        try rw [t120]
        try rw [t120] at q116
        have t121 : I115 102 23 = (I 102 23) := (f117 102 23 (by decide)).trans t106
        try rw [t121]
        try rw [t121] at q116
        have t122 : I115 105 0 = (X 105 0) := (f117 105 0 (by decide)).trans t107
        try rw [t122]
        try rw [t122] at q116
        have t123 : I115 105 1 = (X 105 1) := (f117 105 1 (by decide)).trans t108
        try rw [t123]
        try rw [t123] at q116
        have t124 : I115 105 2 = (X 105 2) := (f117 105 2 (by decide)).trans t109
        try rw [t124]
        try rw [t124] at q116
        have t125 : I115 105 6 = (X 105 6) := (f117 105 6 (by decide)).trans t110
        try rw [t125]
        try rw [t125] at q116
        have t126 : I115 105 ((326 + x1).toNat) = (X 102 18) := (f117 105 ((326 + x1).toNat) (by omega)).trans t111
        try rw [t126]
        try rw [t126] at q116
        have t127 : I115 105 ((334 + x1).toNat) = (X 105 ((334 + x1).toNat)) := (f117 105 ((334 + x1).toNat) (by omega)).trans t112
        try rw [t127]
        try rw [t127] at q116
        have p128 : mH I115 := mH_eq p113 (fun k j h => f117 k j (ymH245 k j h))
        refine ⟨fun c129 => ?_, fun c129 => ?_⟩
        · exact ih.2.2.2.1 _ _ k118 (by omega) ⟨(by omega), p128⟩
        · exact hk _ _ k118 ⟨(by omega), p128⟩
      · intro x1 X kX hm iv
        obtain ⟨iv, pX_0⟩ := iv
        refine e_li (i := 1) (x := x1) rfl fun _ _ => ?_
        have hd := pX_0.1
        have t130 : X 102 3 = (I 102 3) := (kX 102 3 (by decide))
        have t131 : X 102 22 = (I 102 22) := (kX 102 22 (by decide))
        have t132 : X 102 23 = (I 102 23) := (kX 102 23 (by decide))
        refine Bx_229_130 hT hR ?_
        try rw [t130]
        try rw [t131]
        try rw [t132]
        have a133 : yadd 310 x1 = (310 + x1) := yadd_eq (by omega) (by omega)
        try rw [a133]
        refine ⟨by omega, by omega, ?_⟩
        intro I134 e135
        first | have n136 : ynar 1 (X 102 18) = (X 102 18) := ynar1_eq (by omega) (by omega) | skip
        try rw [n136] at e135
        have k137 : ∀ k j, ¬ ((k = 102 ∧ (j = 4 ∨ (11 ≤ j ∧ j ≤ 18))) ∨ k = 105 ∨ k = 107) → I134 k j = I k j := fun k j h => ((congrFun (congrFun e135 k) j).trans (yU_ne _ _ (v105 k j _ h))).trans (kX k j h)
        have p138 : mH I134 := by rw [e135]; exact mH_set pX_0 (by omega)
        have t139 : I134 102 3 = (I 102 3) := ((congrFun (congrFun e135 102) 3).trans (yU_ne _ _ (fun q => absurd q.1 (by decide)))).trans t130
        try rw [t139]
        have t140 : I134 102 4 = (X 102 4) := (congrFun (congrFun e135 102) 4).trans (yU_ne _ _ (fun q => absurd q.1 (by decide)))
        try rw [t140]
        have t141 : I134 102 11 = (X 102 11) := (congrFun (congrFun e135 102) 11).trans (yU_ne _ _ (fun q => absurd q.1 (by decide)))
        try rw [t141]
        have t142 : I134 102 14 = (X 102 14) := (congrFun (congrFun e135 102) 14).trans (yU_ne _ _ (fun q => absurd q.1 (by decide)))
        try rw [t142]
        have t143 : I134 102 18 = (X 102 18) := (congrFun (congrFun e135 102) 18).trans (yU_ne _ _ (fun q => absurd q.1 (by decide)))
        try rw [t143]
        have t144 : I134 102 22 = (I 102 22) := ((congrFun (congrFun e135 102) 22).trans (yU_ne _ _ (fun q => absurd q.1 (by decide)))).trans t131
        try rw [t144]
        have t145 : I134 102 23 = (I 102 23) := ((congrFun (congrFun e135 102) 23).trans (yU_ne _ _ (fun q => absurd q.1 (by decide)))).trans t132
        try rw [t145]
        have t146 : I134 105 0 = (X 105 0) := (congrFun (congrFun e135 105) 0).trans (yU_ne _ _ (by omega))
        try rw [t146]
        have t147 : I134 105 1 = (X 105 1) := (congrFun (congrFun e135 105) 1).trans (yU_ne _ _ (by omega))
        try rw [t147]
        have t148 : I134 105 2 = (X 105 2) := (congrFun (congrFun e135 105) 2).trans (yU_ne _ _ (by omega))
        try rw [t148]
        have t149 : I134 105 6 = (X 105 6) := (congrFun (congrFun e135 105) 6).trans (yU_ne _ _ (by omega))
        try rw [t149]
        have t150 : I134 105 ((326 + x1).toNat) = (X 105 ((326 + x1).toNat)) := (congrFun (congrFun e135 105) ((326 + x1).toNat)).trans (yU_ne _ _ (by omega))
        try rw [t150]
        have t151 : I134 105 ((334 + x1).toNat) = (X 105 ((334 + x1).toNat)) := (congrFun (congrFun e135 105) ((334 + x1).toNat)).trans (yU_ne _ _ (by omega))
        try rw [t151]
        refine w_245 (d := d + 1) hT hR  (by omega) (fun r152 I153 f155 q154 => ⟨_, _, rfl, rfl, ?_⟩)
        have k156 : ∀ k j, ¬ ((k = 102 ∧ (j = 4 ∨ (11 ≤ j ∧ j ≤ 18))) ∨ k = 105 ∨ k = 107) → I153 k j = I k j := fun k j h => (f155 k j (u245 k j h)).trans (k137 k j h)
        have t157 : I153 102 3 = (I 102 3) := (f155 102 3 (by decide)).trans t139
        try rw [t157]
        try rw [t157] at q154
        have t158 : I153 102 22 = (I 102 22) := (f155 102 22 (by decide)).trans t144
        try rw [t158]
        try rw [t158] at q154
        have t159 : I153 102 23 = (I 102 23) := (f155 102 23 (by decide)).trans t145
        try rw [t159]
        try rw [t159] at q154
        have t160 : I153 105 0 = (X 105 0) := (f155 105 0 (by decide)).trans t146
        try rw [t160]
        try rw [t160] at q154
        have t161 : I153 105 1 = (X 105 1) := (f155 105 1 (by decide)).trans t147
        try rw [t161]
        try rw [t161] at q154
        have t162 : I153 105 2 = (X 105 2) := (f155 105 2 (by decide)).trans t148
        try rw [t162]
        try rw [t162] at q154
        have t163 : I153 105 6 = (X 105 6) := (f155 105 6 (by decide)).trans t149
        try rw [t163]
        try rw [t163] at q154
        have t164 : I153 105 ((326 + x1).toNat) = (X 105 ((326 + x1).toNat)) := (f155 105 ((326 + x1).toNat) (by omega)).trans t150
        try rw [t164]
        try rw [t164] at q154
        have t165 : I153 105 ((334 + x1).toNat) = (X 105 ((334 + x1).toNat)) := (f155 105 ((334 + x1).toNat) (by omega)).trans t151
        try rw [t165]
        try rw [t165] at q154
        have p166 : mH I153 := mH_eq p138 (fun k j h => f155 k j (ymH245 k j h))
        refine ⟨fun c167 => ?_, fun c167 => ?_⟩
        · exact ih.2.2.2.2.1 _ _ k156 (by omega) ⟨(by omega), p166⟩
        · exact hk _ _ k156 ⟨(by omega), p166⟩
      · intro x1 X kX hm iv
        obtain ⟨iv, pX_0⟩ := iv
        refine e_li (i := 1) (x := x1) rfl fun _ _ => ?_
        have hd := pX_0.1
        have t168 : X 102 3 = (I 102 3) := (kX 102 3 (by decide))
        have t169 : X 102 22 = (I 102 22) := (kX 102 22 (by decide))
        have t170 : X 102 23 = (I 102 23) := (kX 102 23 (by decide))
        refine Bx_229_156 hT hR ?_
        try rw [t168]
        try rw [t169]
        try rw [t170]
        have a171 : yadd 318 x1 = (318 + x1) := yadd_eq (by omega) (by omega)
        try rw [a171]
        refine ⟨by omega, by omega, ?_⟩
        intro I172 e173
        first | have n174 : ynar 1 (X 102 18) = (X 102 18) := ynar1_eq (by omega) (by omega) | skip
        try rw [n174] at e173
        have k175 : ∀ k j, ¬ ((k = 102 ∧ (j = 4 ∨ (11 ≤ j ∧ j ≤ 18))) ∨ k = 105 ∨ k = 107) → I172 k j = I k j := fun k j h => ((congrFun (congrFun e173 k) j).trans (yU_ne _ _ (v105 k j _ h))).trans (kX k j h)
        have p176 : mH I172 := by rw [e173]; exact mH_set pX_0 (by omega)
        have t177 : I172 102 3 = (I 102 3) := ((congrFun (congrFun e173 102) 3).trans (yU_ne _ _ (fun q => absurd q.1 (by decide)))).trans t168
        try rw [t177]
        have t178 : I172 102 4 = (X 102 4) := (congrFun (congrFun e173 102) 4).trans (yU_ne _ _ (fun q => absurd q.1 (by decide)))
        try rw [t178]
        have t179 : I172 102 11 = (X 102 11) := (congrFun (congrFun e173 102) 11).trans (yU_ne _ _ (fun q => absurd q.1 (by decide)))
        try rw [t179]
        have t180 : I172 102 14 = (X 102 14) := (congrFun (congrFun e173 102) 14).trans (yU_ne _ _ (fun q => absurd q.1 (by decide)))
        try rw [t180]
        have t181 : I172 102 18 = (X 102 18) := (congrFun (congrFun e173 102) 18).trans (yU_ne _ _ (fun q => absurd q.1 (by decide)))
        try rw [t181]
        have t182 : I172 102 22 = (I 102 22) := ((congrFun (congrFun e173 102) 22).trans (yU_ne _ _ (fun q => absurd q.1 (by decide)))).trans t169
        try rw [t182]
        have t183 : I172 102 23 = (I 102 23) := ((congrFun (congrFun e173 102) 23).trans (yU_ne _ _ (fun q => absurd q.1 (by decide)))).trans t170
        try rw [t183]
        have t184 : I172 105 0 = (X 105 0) := (congrFun (congrFun e173 105) 0).trans (yU_ne _ _ (by omega))
        try rw [t184]
        have t185 : I172 105 1 = (X 105 1) := (congrFun (congrFun e173 105) 1).trans (yU_ne _ _ (by omega))
        try rw [t185]
        have t186 : I172 105 2 = (X 105 2) := (congrFun (congrFun e173 105) 2).trans (yU_ne _ _ (by omega))
        try rw [t186]
        have t187 : I172 105 6 = (X 105 6) := (congrFun (congrFun e173 105) 6).trans (yU_ne _ _ (by omega))
        try rw [t187]
        have t188 : I172 105 ((326 + x1).toNat) = (X 105 ((326 + x1).toNat)) := (congrFun (congrFun e173 105) ((326 + x1).toNat)).trans (yU_ne _ _ (by omega))
        try rw [t188]
        have t189 : I172 105 ((334 + x1).toNat) = (X 105 ((334 + x1).toNat)) := (congrFun (congrFun e173 105) ((334 + x1).toNat)).trans (yU_ne _ _ (by omega))
        try rw [t189]
        refine w_212 (d := d) hT hR  (by omega) (by omega) (fun r190 I191 f193 q192 => ⟨_, _, rfl, rfl, ?_⟩)
        have k194 : ∀ k j, ¬ ((k = 102 ∧ (j = 4 ∨ (11 ≤ j ∧ j ≤ 18))) ∨ k = 105 ∨ k = 107) → I191 k j = I k j := fun k j h => (f193 k j (u212 k j h)).trans (k175 k j h)
        have t195 : I191 102 3 = (I 102 3) := (f193 102 3 (by decide)).trans t177
        try rw [t195]
        try rw [t195] at q192
        have t196 : I191 102 22 = (I 102 22) := (f193 102 22 (by decide)).trans t182
        try rw [t196]
        try rw [t196] at q192
        have t197 : I191 102 23 = (I 102 23) := (f193 102 23 (by decide)).trans t183
        try rw [t197]
        try rw [t197] at q192
        have t198 : I191 105 0 = (X 105 0) := (f193 105 0 (by decide)).trans t184
        try rw [t198]
        try rw [t198] at q192
        have t199 : I191 105 1 = (X 105 1) := (f193 105 1 (by decide)).trans t185
        try rw [t199]
        try rw [t199] at q192
        have t200 : I191 105 2 = (X 105 2) := (f193 105 2 (by decide)).trans t186
        try rw [t200]
        try rw [t200] at q192
        have t201 : I191 105 6 = (X 105 6) := (f193 105 6 (by decide)).trans t187
        try rw [t201]
        try rw [t201] at q192
        have t202 : I191 105 ((326 + x1).toNat) = (X 105 ((326 + x1).toNat)) := (f193 105 ((326 + x1).toNat) (by omega)).trans t188
        try rw [t202]
        try rw [t202] at q192
        have t203 : I191 105 ((334 + x1).toNat) = (X 105 ((334 + x1).toNat)) := (f193 105 ((334 + x1).toNat) (by omega)).trans t189
        try rw [t203]
        try rw [t203] at q192
        have p204 : mH I191 := mH_eq p176 (fun k j h => f193 k j (ymH212 k j h))
        refine ⟨fun c205 => ?_, fun c205 => ?_⟩
        · exact ih.2.2.2.2.2.1 _ _ k194 (by omega) ⟨(by omega), p204⟩
        · exact hk _ _ k194 ⟨(by omega), p204⟩
      · intro x1 X kX hm iv
        obtain ⟨iv, pX_0⟩ := iv
        refine e_li (i := 1) (x := x1) rfl fun _ _ => ?_
        have hd := pX_0.1
        have t206 : X 102 3 = (I 102 3) := (kX 102 3 (by decide))
        have t207 : X 102 22 = (I 102 22) := (kX 102 22 (by decide))
        have t208 : X 102 23 = (I 102 23) := (kX 102 23 (by decide))
        refine Bx_229_179 hT hR ?_
        try rw [t206]
        try rw [t207]
        try rw [t208]
        have a209 : yadd 10 (X 102 18) = (10 + (X 102 18)) := yadd_eq (by omega) (by omega)
        try rw [a209]
        refine ⟨by omega, by omega, ?_⟩
        refine ⟨fun c210 => ?_, fun c210 => ?_⟩
        · exact ih.2.2.2.2.2.2 _ _ kX (by omega) ⟨(by omega), pX_0⟩
        · refine w_159 (d := d + 3) hT hR  (by omega) (fun r211 I212 f214 q213 => ⟨_, _, rfl, rfl, ?_⟩)
          have k215 : ∀ k j, ¬ ((k = 102 ∧ (j = 4 ∨ (11 ≤ j ∧ j ≤ 18))) ∨ k = 105 ∨ k = 107) → I212 k j = I k j := fun k j h => (f214 k j (u159 k j h)).trans (kX k j h)
          have t216 : I212 102 3 = (I 102 3) := (f214 102 3 (by decide)).trans t206
          try rw [t216]
          try rw [t216] at q213
          have t217 : I212 102 4 = (X 102 4) := (f214 102 4 (by decide))
          try rw [t217]
          try rw [t217] at q213
          have t218 : I212 102 11 = (X 102 11) := (f214 102 11 (by decide))
          try rw [t218]
          try rw [t218] at q213
          have t219 : I212 102 14 = (X 102 14) := (f214 102 14 (by decide))
          try rw [t219]
          try rw [t219] at q213
          have t220 : I212 102 18 = (X 102 18) := (f214 102 18 (by decide))
          try rw [t220]
          try rw [t220] at q213
          have t221 : I212 102 22 = (I 102 22) := (f214 102 22 (by decide)).trans t207
          try rw [t221]
          try rw [t221] at q213
          have t222 : I212 102 23 = (I 102 23) := (f214 102 23 (by decide)).trans t208
          try rw [t222]
          try rw [t222] at q213
          have t223 : I212 105 0 = (X 105 0) := (f214 105 0 (by decide))
          try rw [t223]
          try rw [t223] at q213
          have t224 : I212 105 1 = (X 105 1) := (f214 105 1 (by decide))
          try rw [t224]
          try rw [t224] at q213
          have t225 : I212 105 2 = (X 105 2) := (f214 105 2 (by decide))
          try rw [t225]
          try rw [t225] at q213
          have t226 : I212 105 6 = (X 105 6) := (f214 105 6 (by decide))
          try rw [t226]
          try rw [t226] at q213
          have t227 : I212 105 ((326 + x1).toNat) = (X 105 ((326 + x1).toNat)) := (f214 105 ((326 + x1).toNat) (by omega))
          try rw [t227]
          try rw [t227] at q213
          have t228 : I212 105 ((334 + x1).toNat) = (X 105 ((334 + x1).toNat)) := (f214 105 ((334 + x1).toNat) (by omega))
          try rw [t228]
          try rw [t228] at q213
          have p229 : mH I212 := mH_eq pX_0 (fun k j h => f214 k j (ymH159 k j h))
          refine ⟨by omega, ?_⟩
          exact hk _ _ k215 ⟨(by omega), p229⟩
      · intro x1 X kX hm iv
        obtain ⟨iv, pX_0⟩ := iv
        refine e_li (i := 1) (x := x1) rfl fun _ _ => ?_
        have hd := pX_0.1
        have t230 : X 102 3 = (I 102 3) := (kX 102 3 (by decide))
        have t231 : X 102 22 = (I 102 22) := (kX 102 22 (by decide))
        have t232 : X 102 23 = (I 102 23) := (kX 102 23 (by decide))
        refine Bx_229_201 hT hR ?_
        try rw [t230]
        try rw [t231]
        try rw [t232]
        have a233 : yadd 334 x1 = (334 + x1) := yadd_eq (by omega) (by omega)
        try rw [a233]
        refine ⟨by omega, by omega, ?_⟩
        intro I234 e235
        first | have n236 : ynar 1 (X 102 18) = (X 102 18) := ynar1_eq (by omega) (by omega) | skip
        try rw [n236] at e235
        have k237 : ∀ k j, ¬ ((k = 102 ∧ (j = 4 ∨ (11 ≤ j ∧ j ≤ 18))) ∨ k = 105 ∨ k = 107) → I234 k j = I k j := fun k j h => ((congrFun (congrFun e235 k) j).trans (yU_ne _ _ (v105 k j _ h))).trans (kX k j h)
        have p238 : mH I234 := by rw [e235]; exact mH_set pX_0 (by omega)
        have t239 : I234 102 3 = (I 102 3) := ((congrFun (congrFun e235 102) 3).trans (yU_ne _ _ (fun q => absurd q.1 (by decide)))).trans t230
        try rw [t239]
        have t240 : I234 102 4 = (X 102 4) := (congrFun (congrFun e235 102) 4).trans (yU_ne _ _ (fun q => absurd q.1 (by decide)))
        try rw [t240]
        have t241 : I234 102 11 = (X 102 11) := (congrFun (congrFun e235 102) 11).trans (yU_ne _ _ (fun q => absurd q.1 (by decide)))
        try rw [t241]
        have t242 : I234 102 14 = (X 102 14) := (congrFun (congrFun e235 102) 14).trans (yU_ne _ _ (fun q => absurd q.1 (by decide)))
        try rw [t242]
        have t243 : I234 102 18 = (X 102 18) := (congrFun (congrFun e235 102) 18).trans (yU_ne _ _ (fun q => absurd q.1 (by decide)))
        try rw [t243]
        have t244 : I234 102 22 = (I 102 22) := ((congrFun (congrFun e235 102) 22).trans (yU_ne _ _ (fun q => absurd q.1 (by decide)))).trans t231
        try rw [t244]
        have t245 : I234 102 23 = (I 102 23) := ((congrFun (congrFun e235 102) 23).trans (yU_ne _ _ (fun q => absurd q.1 (by decide)))).trans t232
        try rw [t245]
        have t246 : I234 105 0 = (X 105 0) := (congrFun (congrFun e235 105) 0).trans (yU_ne _ _ (by omega))
        try rw [t246]
        have t247 : I234 105 1 = (X 105 1) := (congrFun (congrFun e235 105) 1).trans (yU_ne _ _ (by omega))
        try rw [t247]
        have t248 : I234 105 2 = (X 105 2) := (congrFun (congrFun e235 105) 2).trans (yU_ne _ _ (by omega))
        try rw [t248]
        have t249 : I234 105 6 = (X 105 6) := (congrFun (congrFun e235 105) 6).trans (yU_ne _ _ (by omega))
        try rw [t249]
        have t250 : I234 105 ((326 + x1).toNat) = (X 105 ((326 + x1).toNat)) := (congrFun (congrFun e235 105) ((326 + x1).toNat)).trans (yU_ne _ _ (by omega))
        try rw [t250]
        have t251 : I234 105 ((334 + x1).toNat) = (X 102 18) := (congrFun (congrFun e235 105) ((334 + x1).toNat)).trans (yU_eq _ _ _ _)
        try rw [t251]
        refine w_182 (d := d + 2) hT hR  (by omega) (fun I252 f254 q253 => ⟨_, rfl, rfl, ?_⟩)
        have k255 : ∀ k j, ¬ ((k = 102 ∧ (j = 4 ∨ (11 ≤ j ∧ j ≤ 18))) ∨ k = 105 ∨ k = 107) → I252 k j = I k j := fun k j h => (f254 k j (u182 k j h)).trans (k237 k j h)
        have t256 : I252 102 3 = (I 102 3) := (f254 102 3 (by decide)).trans t239
        try rw [t256]
        try rw [t256] at q253
        have t257 : I252 102 18 = (X 102 18) := (f254 102 18 (by decide)).trans t243
        try rw [t257]
        try rw [t257] at q253
        have t258 : I252 102 22 = (I 102 22) := (f254 102 22 (by decide)).trans t244
        try rw [t258]
        try rw [t258] at q253
        have t259 : I252 102 23 = (I 102 23) := (f254 102 23 (by decide)).trans t245
        try rw [t259]
        try rw [t259] at q253
        have t260 : I252 105 0 = (X 105 0) := (f254 105 0 (by decide)).trans t246
        try rw [t260]
        try rw [t260] at q253
        have t261 : I252 105 1 = (X 105 1) := (f254 105 1 (by decide)).trans t247
        try rw [t261]
        try rw [t261] at q253
        have t262 : I252 105 2 = (X 105 2) := (f254 105 2 (by decide)).trans t248
        try rw [t262]
        try rw [t262] at q253
        have t263 : I252 105 6 = (X 105 6) := (f254 105 6 (by decide)).trans t249
        try rw [t263]
        try rw [t263] at q253
        have t264 : I252 105 ((326 + x1).toNat) = (X 105 ((326 + x1).toNat)) := (f254 105 ((326 + x1).toNat) (by omega)).trans t250
        try rw [t264]
        try rw [t264] at q253
        have t265 : I252 105 ((334 + x1).toNat) = (X 102 18) := (f254 105 ((334 + x1).toNat) (by omega)).trans t251
        try rw [t265]
        try rw [t265] at q253
        have p266 : mH I252 := mH_eq p238 (fun k j h => f254 k j (ymH182 k j h))
        have a267 : yadd (X 105 2) 1 = ((X 105 2) + 1) := yadd_eq (by omega) (by omega)
        try rw [a267]
        intro I268 e269
        first | have n270 : ynar 1 ((X 105 2) + 1) = ((X 105 2) + 1) := ynar1_eq (by omega) (by omega) | skip
        try rw [n270] at e269
        have k271 : ∀ k j, ¬ ((k = 102 ∧ (j = 4 ∨ (11 ≤ j ∧ j ≤ 18))) ∨ k = 105 ∨ k = 107) → I268 k j = I k j := fun k j h => ((congrFun (congrFun e269 k) j).trans (yU_ne _ _ (v105_2 k j h))).trans (k255 k j h)
        have p272 : mH I268 := by rw [e269]; rw [show X 105 2 = x1 by omega]; exact mH_chair (c := x1) p266 (by omega) (by omega) (by omega) (by omega)
        have t273 : I268 102 3 = (I 102 3) := ((congrFun (congrFun e269 102) 3).trans (yU_ne _ _ (fun q => absurd q.1 (by decide)))).trans t256
        try rw [t273]
        have t274 : I268 102 4 = (I252 102 4) := (congrFun (congrFun e269 102) 4).trans (yU_ne _ _ (fun q => absurd q.1 (by decide)))
        try rw [t274]
        have t275 : I268 102 11 = (I252 102 11) := (congrFun (congrFun e269 102) 11).trans (yU_ne _ _ (fun q => absurd q.1 (by decide)))
        try rw [t275]
        have t276 : I268 102 14 = (I252 102 14) := (congrFun (congrFun e269 102) 14).trans (yU_ne _ _ (fun q => absurd q.1 (by decide)))
        try rw [t276]
        have t277 : I268 102 18 = (X 102 18) := ((congrFun (congrFun e269 102) 18).trans (yU_ne _ _ (fun q => absurd q.1 (by decide)))).trans t257
        try rw [t277]
        have t278 : I268 102 22 = (I 102 22) := ((congrFun (congrFun e269 102) 22).trans (yU_ne _ _ (fun q => absurd q.1 (by decide)))).trans t258
        try rw [t278]
        have t279 : I268 102 23 = (I 102 23) := ((congrFun (congrFun e269 102) 23).trans (yU_ne _ _ (fun q => absurd q.1 (by decide)))).trans t259
        try rw [t279]
        have t280 : I268 105 0 = (X 105 0) := ((congrFun (congrFun e269 105) 0).trans (yU_ne _ _ (fun q => absurd q.2 (by decide)))).trans t260
        try rw [t280]
        have t281 : I268 105 1 = (X 105 1) := ((congrFun (congrFun e269 105) 1).trans (yU_ne _ _ (fun q => absurd q.2 (by decide)))).trans t261
        try rw [t281]
        have t282 : I268 105 2 = ((X 105 2) + 1) := (congrFun (congrFun e269 105) 2).trans (yU_eq _ _ _ _)
        try rw [t282]
        have t283 : I268 105 6 = (X 105 6) := ((congrFun (congrFun e269 105) 6).trans (yU_ne _ _ (fun q => absurd q.2 (by decide)))).trans t263
        try rw [t283]
        have t284 : I268 105 ((326 + x1).toNat) = (X 105 ((326 + x1).toNat)) := ((congrFun (congrFun e269 105) ((326 + x1).toNat)).trans (yU_ne _ _ (by omega))).trans t264
        try rw [t284]
        have t285 : I268 105 ((334 + x1).toNat) = (X 102 18) := ((congrFun (congrFun e269 105) ((334 + x1).toNat)).trans (yU_ne _ _ (by omega))).trans t265
        try rw [t285]
        exact hk _ _ k271 ⟨(by omega), p272⟩
  refine Bx_229_0 hT hR ?_
  refine ⟨fun c286 => ?_, fun c286 => ?_⟩
  · refine w_182 (d := d + 2) hT hR  (by omega) (fun I287 f289 q288 => ⟨_, rfl, rfl, ?_⟩)
    have k290 : ∀ k j, ¬ ((k = 102 ∧ (j = 4 ∨ (11 ≤ j ∧ j ≤ 18))) ∨ k = 105 ∨ k = 107) → I287 k j = I k j := fun k j h => (f289 k j (u182 k j h)).trans (k0 k j h)
    have t291 : I287 102 3 = (I 102 3) := (f289 102 3 (by decide))
    try rw [t291]
    try rw [t291] at q288
    have t292 : I287 102 18 = (I 102 18) := (f289 102 18 (by decide))
    try rw [t292]
    try rw [t292] at q288
    have t293 : I287 102 22 = (I 102 22) := (f289 102 22 (by decide))
    try rw [t293]
    try rw [t293] at q288
    have t294 : I287 102 23 = (I 102 23) := (f289 102 23 (by decide))
    try rw [t294]
    try rw [t294] at q288
    have t295 : I287 105 0 = (I 105 0) := (f289 105 0 (by decide))
    try rw [t295]
    try rw [t295] at q288
    have t296 : I287 105 1 = (I 105 1) := (f289 105 1 (by decide))
    try rw [t296]
    try rw [t296] at q288
    have t297 : I287 105 2 = (I 105 2) := (f289 105 2 (by decide))
    try rw [t297]
    try rw [t297] at q288
    have t298 : I287 105 6 = (I 105 6) := (f289 105 6 (by decide))
    try rw [t298]
    try rw [t298] at q288
    have p299 : mH I287 := mH_eq hP0 (fun k j h => f289 k j (ymH182 k j h))
    refine w_194 (d := d + 3) hT hR   (fun r300 q301 => ⟨_, _, rfl, rfl, ?_⟩)
    refine ⟨fun c303 => ?_, fun c303 => ?_⟩
    · refine w_180 (d := d + 3) hT hR  (by omega) (fun r304 q305 => ⟨_, _, rfl, rfl, ?_⟩)
      refine ⟨fun c307 => ?_, fun c307 => ?_⟩
      · exact (L _).1 _ _ k290 (Nat.lt_succ_self _) ⟨(by omega), p299⟩
      · refine w_159 (d := d + 3) hT hR  (by omega) (fun r308 I309 f311 q310 => ⟨_, _, rfl, rfl, ?_⟩)
        have k312 : ∀ k j, ¬ ((k = 102 ∧ (j = 4 ∨ (11 ≤ j ∧ j ≤ 18))) ∨ k = 105 ∨ k = 107) → I309 k j = I k j := fun k j h => (f311 k j (u159 k j h)).trans (k290 k j h)
        have t313 : I309 102 3 = (I 102 3) := (f311 102 3 (by decide)).trans t291
        try rw [t313]
        try rw [t313] at q310
        have t314 : I309 102 4 = (I287 102 4) := (f311 102 4 (by decide))
        try rw [t314]
        try rw [t314] at q310
        have t315 : I309 102 11 = (I287 102 11) := (f311 102 11 (by decide))
        try rw [t315]
        try rw [t315] at q310
        have t316 : I309 102 14 = (I287 102 14) := (f311 102 14 (by decide))
        try rw [t316]
        try rw [t316] at q310
        have t317 : I309 102 18 = (I 102 18) := (f311 102 18 (by decide)).trans t292
        try rw [t317]
        try rw [t317] at q310
        have t318 : I309 102 22 = (I 102 22) := (f311 102 22 (by decide)).trans t293
        try rw [t318]
        try rw [t318] at q310
        have t319 : I309 102 23 = (I 102 23) := (f311 102 23 (by decide)).trans t294
        try rw [t319]
        try rw [t319] at q310
        have t320 : I309 105 0 = (I 105 0) := (f311 105 0 (by decide)).trans t295
        try rw [t320]
        try rw [t320] at q310
        have t321 : I309 105 1 = (I 105 1) := (f311 105 1 (by decide)).trans t296
        try rw [t321]
        try rw [t321] at q310
        have t322 : I309 105 2 = (I 105 2) := (f311 105 2 (by decide)).trans t297
        try rw [t322]
        try rw [t322] at q310
        have t323 : I309 105 6 = (I 105 6) := (f311 105 6 (by decide)).trans t298
        try rw [t323]
        try rw [t323] at q310
        have p324 : mH I309 := mH_eq p299 (fun k j h => f311 k j (ymH159 k j h))
        refine ⟨by omega, ?_⟩
        exact hk _ _ k312 ⟨(by omega), p324⟩
    · refine w_159 (d := d + 3) hT hR  (by omega) (fun r325 I326 f328 q327 => ⟨_, _, rfl, rfl, ?_⟩)
      have k329 : ∀ k j, ¬ ((k = 102 ∧ (j = 4 ∨ (11 ≤ j ∧ j ≤ 18))) ∨ k = 105 ∨ k = 107) → I326 k j = I k j := fun k j h => (f328 k j (u159 k j h)).trans (k290 k j h)
      have t330 : I326 102 3 = (I 102 3) := (f328 102 3 (by decide)).trans t291
      try rw [t330]
      try rw [t330] at q327
      have t331 : I326 102 4 = (I287 102 4) := (f328 102 4 (by decide))
      try rw [t331]
      try rw [t331] at q327
      have t332 : I326 102 11 = (I287 102 11) := (f328 102 11 (by decide))
      try rw [t332]
      try rw [t332] at q327
      have t333 : I326 102 14 = (I287 102 14) := (f328 102 14 (by decide))
      try rw [t333]
      try rw [t333] at q327
      have t334 : I326 102 18 = (I 102 18) := (f328 102 18 (by decide)).trans t292
      try rw [t334]
      try rw [t334] at q327
      have t335 : I326 102 22 = (I 102 22) := (f328 102 22 (by decide)).trans t293
      try rw [t335]
      try rw [t335] at q327
      have t336 : I326 102 23 = (I 102 23) := (f328 102 23 (by decide)).trans t294
      try rw [t336]
      try rw [t336] at q327
      have t337 : I326 105 0 = (I 105 0) := (f328 105 0 (by decide)).trans t295
      try rw [t337]
      try rw [t337] at q327
      have t338 : I326 105 1 = (I 105 1) := (f328 105 1 (by decide)).trans t296
      try rw [t338]
      try rw [t338] at q327
      have t339 : I326 105 2 = (I 105 2) := (f328 105 2 (by decide)).trans t297
      try rw [t339]
      try rw [t339] at q327
      have t340 : I326 105 6 = (I 105 6) := (f328 105 6 (by decide)).trans t298
      try rw [t340]
      try rw [t340] at q327
      have p341 : mH I326 := mH_eq p299 (fun k j h => f328 k j (ymH159 k j h))
      refine ⟨by omega, ?_⟩
      exact hk _ _ k329 ⟨(by omega), p341⟩
  · refine w_159 (d := d + 3) hT hR  (by omega) (fun r342 I343 f345 q344 => ⟨_, _, rfl, rfl, ?_⟩)
    have k346 : ∀ k j, ¬ ((k = 102 ∧ (j = 4 ∨ (11 ≤ j ∧ j ≤ 18))) ∨ k = 105 ∨ k = 107) → I343 k j = I k j := fun k j h => (f345 k j (u159 k j h)).trans (k0 k j h)
    have t347 : I343 102 3 = (I 102 3) := (f345 102 3 (by decide))
    try rw [t347]
    try rw [t347] at q344
    have t348 : I343 102 4 = (I 102 4) := (f345 102 4 (by decide))
    try rw [t348]
    try rw [t348] at q344
    have t349 : I343 102 11 = (I 102 11) := (f345 102 11 (by decide))
    try rw [t349]
    try rw [t349] at q344
    have t350 : I343 102 14 = (I 102 14) := (f345 102 14 (by decide))
    try rw [t350]
    try rw [t350] at q344
    have t351 : I343 102 18 = (I 102 18) := (f345 102 18 (by decide))
    try rw [t351]
    try rw [t351] at q344
    have t352 : I343 102 22 = (I 102 22) := (f345 102 22 (by decide))
    try rw [t352]
    try rw [t352] at q344
    have t353 : I343 102 23 = (I 102 23) := (f345 102 23 (by decide))
    try rw [t353]
    try rw [t353] at q344
    have t354 : I343 105 0 = (I 105 0) := (f345 105 0 (by decide))
    try rw [t354]
    try rw [t354] at q344
    have t355 : I343 105 1 = (I 105 1) := (f345 105 1 (by decide))
    try rw [t355]
    try rw [t355] at q344
    have t356 : I343 105 2 = (I 105 2) := (f345 105 2 (by decide))
    try rw [t356]
    try rw [t356] at q344
    have t357 : I343 105 6 = (I 105 6) := (f345 105 6 (by decide))
    try rw [t357]
    try rw [t357] at q344
    have p358 : mH I343 := mH_eq hP0 (fun k j h => f345 k j (ymH159 k j h))
    refine ⟨by omega, ?_⟩
    exact hk _ _ k346 ⟨(by omega), p358⟩
end Sw
