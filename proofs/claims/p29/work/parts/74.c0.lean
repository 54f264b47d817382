/-! BLOCKS of the class, printed by wip/whole/y/gen74.py (0) -/
section Sy
variable {l : Launch} {D : va_G} {cy : Nat → ClassId} {z d bc bs N : Nat} {T : Nat → Nat × Nat} {R : Nat → Nat → Option Nat} {I : Nat → Nat → Int} {K : yKo}
/-! ChairAlley$Land.cellBeside(II)I -/
set_option maxRecDepth 20000 in
theorem B_5_0 (hT : yLT T) (hR : yLR R) {p : Nat} (hp : yAtLand T R p) {x1 x2 : Int} (F : (x2 = 0 → yW l zSS D cy zFk z d 5 bc bs K 0 0 70 [(0, yr (some p)), (3, yi (yrem x1 10)), (4, yi (yadd (ydiv x1 10) (-1)))] [] (N, T, R, I)) ∧ (¬ (x2 = 0) → (x2 = 1 → yW l zSS D cy zFk z d 5 bc bs K 0 0 70 [(0, yr (some p)), (3, yi (yadd (yrem x1 10) 1)), (4, yi (ydiv x1 10))] [] (N, T, R, I)) ∧ (¬ (x2 = 1) → (x2 = 2 → yW l zSS D cy zFk z d 5 bc bs K 0 0 70 [(0, yr (some p)), (3, yi (yrem x1 10)), (4, yi (yadd (ydiv x1 10) 1))] [] (N, T, R, I)) ∧ (¬ (x2 = 2) → (x2 = 3 → yW l zSS D cy zFk z d 5 bc bs K 0 0 70 [(0, yr (some p)), (3, yi (yadd (yrem x1 10) (-1))), (4, yi (ydiv x1 10))] [] (N, T, R, I)) ∧ (¬ (x2 = 3) → K (some (yi (-1))) (N, T, R, I)))))) :
    yW l zSS D cy zFk z d 5 bc bs K 0 0 0 [(0, yr (some p)), (1, yi x1), (2, yi x2)] [] (N, T, R, I) := by
  refine e_10 (f_5 (pc := 0) (e := (0, 10, 1, 0, 0, 0, 0, 1)) rfl) rfl ?_
  refine e_1 (f_5 (pc := 1) (e := (1, 1, 10, 0, 0, 0, 0, 3)) rfl) (v := 10) rfl ?_
  refine e_34 (f_5 (pc := 3) (e := (3, 34, 0, 0, 0, 0, 0, 4)) rfl) (by decide) ?_
  refine e_20 (f_5 (pc := 4) (e := (4, 20, 3, 0, 0, 0, 0, 5)) rfl) ?_
  refine e_10 (f_5 (pc := 5) (e := (5, 10, 1, 0, 0, 0, 0, 6)) rfl) rfl ?_
  refine e_1 (f_5 (pc := 6) (e := (6, 1, 10, 0, 0, 0, 0, 8)) rfl) (v := 10) rfl ?_
  refine e_33 (f_5 (pc := 8) (e := (8, 33, 0, 0, 0, 0, 0, 9)) rfl) (by decide) ?_
  refine e_21 (f_5 (pc := 9) (e := (9, 21, 4, 0, 0, 0, 0, 11)) rfl) ?_
  refine e_10 (f_5 (pc := 11) (e := (11, 10, 2, 0, 0, 0, 0, 12)) rfl) rfl ?_
  refine e_83 (f_5 (pc := 12) (e := (12, 83, 2147483648, 4, 0, 0, 0, 68)) rfl) (v := x2) (low := 0) rfl ?_
  by_cases c1 : x2 = 0
  · replace F := F.1 c1
    rw [show ySw 0 (yTg zGG 0) 68 x2 = 44 from by rw [c1]; rfl]
    refine e_26 (f_5 (pc := 44) (e := (44, 26, 4, 4294967295, 0, 0, 0, 47)) rfl) (w := (-1)) rfl rfl ?_
    refine e_80 (f_5 (pc := 47) (e := (47, 80, 70, 0, 0, 0, 0, 50)) rfl) ?_
    refine e_lo [0, 3, 4] rfl ?_
    exact F
  · replace F := F.2 c1
    by_cases c2 : x2 = 1
    · replace F := F.1 c2
      rw [show ySw 0 (yTg zGG 0) 68 x2 = 50 from by rw [c2]; rfl]
      refine e_26 (f_5 (pc := 50) (e := (50, 26, 3, 1, 0, 0, 0, 53)) rfl) (w := 1) rfl rfl ?_
      refine e_80 (f_5 (pc := 53) (e := (53, 80, 70, 0, 0, 0, 0, 56)) rfl) ?_
      refine e_lo [0, 3, 4] rfl ?_
      exact F
    · replace F := F.2 c2
      by_cases c3 : x2 = 2
      · replace F := F.1 c3
        rw [show ySw 0 (yTg zGG 0) 68 x2 = 56 from by rw [c3]; rfl]
        refine e_26 (f_5 (pc := 56) (e := (56, 26, 4, 1, 0, 0, 0, 59)) rfl) (w := 1) rfl rfl ?_
        refine e_80 (f_5 (pc := 59) (e := (59, 80, 70, 0, 0, 0, 0, 62)) rfl) ?_
        refine e_lo [0, 3, 4] rfl ?_
        exact F
      · replace F := F.2 c3
        by_cases c4 : x2 = 3
        · replace F := F.1 c4
          rw [show ySw 0 (yTg zGG 0) 68 x2 = 62 from by rw [c4]; rfl]
          refine e_26 (f_5 (pc := 62) (e := (62, 26, 3, 4294967295, 0, 0, 0, 65)) rfl) (w := (-1)) rfl rfl ?_
          refine e_80 (f_5 (pc := 65) (e := (65, 80, 70, 0, 0, 0, 0, 68)) rfl) ?_
          refine e_lo [0, 3, 4] rfl ?_
          exact F
        · replace F := F.2 c4
          rw [show ySw 0 (yTg zGG 0) 68 x2 = 68 from ySw_out (n := 4) rfl (by omega)]
          refine e_0 (f_5 (pc := 68) (e := (68, 0, 4294967295, 0, 0, 0, 0, 69)) rfl) (v := (-1)) rfl ?_
          exact e_120 (f_5 (pc := 69) (e := (69, 120, 0, 0, 0, 0, 0, 70)) rfl) F
set_option maxRecDepth 20000 in
theorem B_5_70 (hT : yLT T) (hR : yLR R) {p : Nat} (hp : yAtLand T R p) {x3 x4 : Int} (F : (x3 < 0 → yW l zSS D cy zFk z d 5 bc bs K 0 0 96 [] [] (N, T, R, I)) ∧ (¬ (x3 < 0) → (x4 < 0 → yW l zSS D cy zFk z d 5 bc bs K 0 0 96 [] [] (N, T, R, I)) ∧ (¬ (x4 < 0) → ((I p 0) ≤ x3 → yW l zSS D cy zFk z d 5 bc bs K 0 0 96 [] [] (N, T, R, I)) ∧ (¬ ((I p 0) ≤ x3) → (x4 < (I p 1) → K (some (yi (yadd (ymul 10 x4) x3))) (N, T, R, I)) ∧ (¬ (x4 < (I p 1)) → yW l zSS D cy zFk z d 5 bc bs K 0 0 96 [] [] (N, T, R, I)))))) :
    yW l zSS D cy zFk z d 5 bc bs K 0 0 70 [(0, yr (some p)), (3, yi x3), (4, yi x4)] [] (N, T, R, I) := by
  refine e_10 (f_5 (pc := 70) (e := (70, 10, 3, 0, 0, 0, 0, 71)) rfl) rfl ?_
  refine e_62 (f_5 (pc := 71) (e := (71, 62, 96, 0, 0, 0, 0, 74)) rfl) (fun c1 => ?_) (fun c1 => ?_)
  · replace F := F.1 c1
    refine e_lo [] rfl ?_
    exact F
  · replace F := F.2 c1
    refine e_11 (f_5 (pc := 74) (e := (74, 11, 4, 0, 0, 0, 0, 76)) rfl) rfl ?_
    refine e_62 (f_5 (pc := 76) (e := (76, 62, 96, 0, 0, 0, 0, 79)) rfl) (fun c2 => ?_) (fun c2 => ?_)
    · replace F := F.1 c2
      refine e_lo [] rfl ?_
      exact F
    · replace F := F.2 c2
      refine e_10 (f_5 (pc := 79) (e := (79, 10, 3, 0, 0, 0, 0, 80)) rfl) rfl ?_
      refine e_12 (f_5 (pc := 80) (e := (80, 12, 0, 0, 0, 0, 0, 81)) rfl) rfl ?_
      refine e_90 zA (f_5 (pc := 81) (e := (81, 90, 1, 0, 0, 47, 809, 84)) rfl) rfl (hp.1 0 rfl) rfl rfl ?_
      refine e_73 (f_5 (pc := 84) (e := (84, 73, 96, 0, 0, 0, 0, 87)) rfl) (fun c3 => ?_) (fun c3 => ?_)
      · replace F := F.1 c3
        refine e_lo [] rfl ?_
        exact F
      · replace F := F.2 c3
        refine e_11 (f_5 (pc := 87) (e := (87, 11, 4, 0, 0, 0, 0, 89)) rfl) rfl ?_
        refine e_12 (f_5 (pc := 89) (e := (89, 12, 0, 0, 0, 0, 0, 90)) rfl) rfl ?_
        refine e_90 zA (f_5 (pc := 90) (e := (90, 90, 1, 1, 0, 51, 810, 93)) rfl) rfl (hp.1 0 rfl) rfl rfl ?_
        refine e_72 (f_5 (pc := 93) (e := (93, 72, 100, 0, 0, 0, 0, 96)) rfl) (fun c4 => ?_) (fun c4 => ?_)
        · replace F := F.1 c4
          refine e_1 (f_5 (pc := 100) (e := (100, 1, 10, 0, 0, 0, 0, 102)) rfl) (v := 10) rfl ?_
          refine e_11 (f_5 (pc := 102) (e := (102, 11, 4, 0, 0, 0, 0, 104)) rfl) rfl ?_
          refine e_32 (f_5 (pc := 104) (e := (104, 32, 0, 0, 0, 0, 0, 105)) rfl) ?_
          refine e_10 (f_5 (pc := 105) (e := (105, 10, 3, 0, 0, 0, 0, 106)) rfl) rfl ?_
          refine e_30 (f_5 (pc := 106) (e := (106, 30, 0, 0, 0, 0, 0, 107)) rfl) ?_
          exact e_120 (f_5 (pc := 107) (e := (107, 120, 0, 0, 0, 0, 0, 0)) rfl) F
        · replace F := F.2 c4
          refine e_lo [] rfl ?_
          exact F
set_option maxRecDepth 20000 in
theorem B_5_96 (hT : yLT T) (hR : yLR R) {p : Nat} (hp : yAtLand T R p) (F : K (some (yi (-1))) (N, T, R, I)) :
    yW l zSS D cy zFk z d 5 bc bs K 0 0 96 [] [] (N, T, R, I) := by
  refine e_0 (f_5 (pc := 96) (e := (96, 0, 4294967295, 0, 0, 0, 0, 97)) rfl) (v := (-1)) rfl ?_
  refine e_80 (f_5 (pc := 97) (e := (97, 80, 107, 0, 0, 0, 0, 100)) rfl) ?_
  exact e_120 (f_5 (pc := 107) (e := (107, 120, 0, 0, 0, 0, 0, 0)) rfl) F

/-! ChairAlley$Land.chairNamed(J)I -/
set_option maxRecDepth 20000 in
theorem B_6_0 (hT : yLT T) (hR : yLR R) {p : Nat} (hp : yAtLand T R p) {x1 : Int} (F : yW l zSS D cy zFk z d 6 bc bs K 0 0 2 [(0, yr (some p)), (1, yj x1), (3, yi 0)] [] (N, T, R, I)) :
    yW l zSS D cy zFk z d 6 bc bs K 0 0 0 [(0, yr (some p)), (1, yj x1)] [] (N, T, R, I) := by
  refine e_0 (f_6 (pc := 0) (e := (0, 0, 0, 0, 0, 0, 0, 1)) rfl) (v := 0) rfl ?_
  refine e_20 (f_6 (pc := 1) (e := (1, 20, 3, 0, 0, 0, 0, 2)) rfl) ?_
  refine e_lo [0, 1, 3] rfl ?_
  exact F
set_option maxRecDepth 20000 in
theorem B_6_2 (hT : yLT T) (hR : yLR R) {p : Nat} (hp : yAtLand T R p) {x1 x3 : Int} (F : ((I p 5) ≤ x3 → K (some (yi (-1))) (N, T, R, I)) ∧ (¬ ((I p 5) ≤ x3) → (8 ≤ x3 → K (some (yi (-1))) (N, T, R, I)) ∧ (¬ (8 ≤ x3) → 0 ≤ x3 ∧ x3 < 8 ∧ (((ylcmp (I (p + 4) x3.toNat) x1) ≠ 0 → yW l zSS D cy zFk z d 6 bc bs K 0 0 2 [(0, yr (some p)), (1, yj x1), (3, yi (yadd x3 1))] [] (N, T, R, I)) ∧ (¬ ((ylcmp (I (p + 4) x3.toNat) x1) ≠ 0) → K (some (yi x3)) (N, T, R, I)))))) :
    yW l zSS D cy zFk z d 6 bc bs K 0 0 2 [(0, yr (some p)), (1, yj x1), (3, yi x3)] [] (N, T, R, I) := by
  refine e_10 (f_6 (pc := 2) (e := (2, 10, 3, 0, 0, 0, 0, 3)) rfl) rfl ?_
  refine e_12 (f_6 (pc := 3) (e := (3, 12, 0, 0, 0, 0, 0, 4)) rfl) rfl ?_
  refine e_90 zA (f_6 (pc := 4) (e := (4, 90, 1, 5, 0, 54, 811, 7)) rfl) rfl (hp.1 0 rfl) rfl rfl ?_
  refine e_73 (f_6 (pc := 7) (e := (7, 73, 35, 0, 0, 0, 0, 10)) rfl) (fun c1 => ?_) (fun c1 => ?_)
  · replace F := F.1 c1
    refine e_0 (f_6 (pc := 35) (e := (35, 0, 4294967295, 0, 0, 0, 0, 36)) rfl) (v := (-1)) rfl ?_
    exact e_120 (f_6 (pc := 36) (e := (36, 120, 0, 0, 0, 0, 0, 0)) rfl) F
  · replace F := F.2 c1
    refine e_10 (f_6 (pc := 10) (e := (10, 10, 3, 0, 0, 0, 0, 11)) rfl) rfl ?_
    refine e_1 (f_6 (pc := 11) (e := (11, 1, 8, 0, 0, 0, 0, 13)) rfl) (v := 8) rfl ?_
    refine e_73 (f_6 (pc := 13) (e := (13, 73, 35, 0, 0, 0, 0, 16)) rfl) (fun c2 => ?_) (fun c2 => ?_)
    · replace F := F.1 c2
      refine e_0 (f_6 (pc := 35) (e := (35, 0, 4294967295, 0, 0, 0, 0, 36)) rfl) (v := (-1)) rfl ?_
      exact e_120 (f_6 (pc := 36) (e := (36, 120, 0, 0, 0, 0, 0, 0)) rfl) F
    · replace F := F.2 c2
      refine e_12 (f_6 (pc := 16) (e := (16, 12, 0, 0, 0, 0, 0, 17)) rfl) rfl ?_
      refine e_90r zA (f_6 (pc := 17) (e := (17, 90, 1, 6, 3, 21, 801, 20)) rfl) rfl (hp.1 0 rfl) rfl rfl (hp.2 6 rfl) ?_
      refine e_10 (f_6 (pc := 20) (e := (20, 10, 3, 0, 0, 0, 0, 21)) rfl) rfl ?_
      obtain ⟨b3, b4, F⟩ := F
      refine e_114 (f_6 (pc := 21) (e := (21, 114, 0, 0, 0, 0, 0, 22)) rfl) rfl (hp.1 4 rfl) b3 b4 ?_
      refine e_14 (f_6 (pc := 22) (e := (22, 14, 1, 0, 0, 0, 0, 23)) rfl) rfl ?_
      refine e_55 (f_6 (pc := 23) (e := (23, 55, 0, 0, 0, 0, 0, 24)) rfl) ?_
      refine e_61 (f_6 (pc := 24) (e := (24, 61, 29, 0, 0, 0, 0, 27)) rfl) (fun c5 => ?_) (fun c5 => ?_)
      · replace F := F.1 c5
        refine e_26 (f_6 (pc := 29) (e := (29, 26, 3, 1, 0, 0, 0, 32)) rfl) (w := 1) rfl rfl ?_
        refine e_80 (f_6 (pc := 32) (e := (32, 80, 2, 0, 0, 0, 0, 35)) rfl) ?_
        refine e_lo [0, 1, 3] rfl ?_
        exact F
      · replace F := F.2 c5
        refine e_10 (f_6 (pc := 27) (e := (27, 10, 3, 0, 0, 0, 0, 28)) rfl) rfl ?_
        exact e_120 (f_6 (pc := 28) (e := (28, 120, 0, 0, 0, 0, 0, 29)) rfl) F

/-! ChairAlley$Land.clear()V -/
set_option maxRecDepth 20000 in
theorem B_7_0 (hT : yLT T) (hR : yLR R) {p : Nat} (hp : yAtLand T R p) (F : ∀ I1, I1 = yU I p 0 0 → (∀ I2, I2 = yU I1 p 1 0 → (∀ I3, I3 = yU I2 p 5 0 → (∀ I4, I4 = yU I3 p 14 0 → (yW l zSS D cy zFk z d 7 bc bs K 0 0 22 [(0, yr (some p)), (1, yi 0)] [] (N, T, R, I4)))))) :
    yW l zSS D cy zFk z d 7 bc bs K 0 0 0 [(0, yr (some p))] [] (N, T, R, I) := by
  refine e_12 (f_7 (pc := 0) (e := (0, 12, 0, 0, 0, 0, 0, 1)) rfl) rfl ?_
  refine e_0 (f_7 (pc := 1) (e := (1, 0, 0, 0, 0, 0, 0, 2)) rfl) (v := 0) rfl ?_
  refine e_91 zA (f_7 (pc := 2) (e := (2, 91, 1, 0, 0, 47, 809, 5)) rfl) rfl (hp.1 0 rfl) rfl rfl trivial ?_
  replace F := F _ rfl
  refine e_12 (f_7 (pc := 5) (e := (5, 12, 0, 0, 0, 0, 0, 6)) rfl) rfl ?_
  refine e_0 (f_7 (pc := 6) (e := (6, 0, 0, 0, 0, 0, 0, 7)) rfl) (v := 0) rfl ?_
  refine e_91 zA (f_7 (pc := 7) (e := (7, 91, 1, 1, 0, 51, 810, 10)) rfl) rfl (hp.1 0 rfl) rfl rfl trivial ?_
  replace F := F _ rfl
  refine e_12 (f_7 (pc := 10) (e := (10, 12, 0, 0, 0, 0, 0, 11)) rfl) rfl ?_
  refine e_0 (f_7 (pc := 11) (e := (11, 0, 0, 0, 0, 0, 0, 12)) rfl) (v := 0) rfl ?_
  refine e_91 zA (f_7 (pc := 12) (e := (12, 91, 1, 5, 0, 54, 811, 15)) rfl) rfl (hp.1 0 rfl) rfl rfl trivial ?_
  replace F := F _ rfl
  refine e_12 (f_7 (pc := 15) (e := (15, 12, 0, 0, 0, 0, 0, 16)) rfl) rfl ?_
  refine e_0 (f_7 (pc := 16) (e := (16, 0, 0, 0, 0, 0, 0, 17)) rfl) (v := 0) rfl ?_
  refine e_91 zA (f_7 (pc := 17) (e := (17, 91, 1, 14, 0, 57, 812, 20)) rfl) rfl (hp.1 0 rfl) rfl rfl trivial ?_
  replace F := F _ rfl
  refine e_0 (f_7 (pc := 20) (e := (20, 0, 0, 0, 0, 0, 0, 21)) rfl) (v := 0) rfl ?_
  refine e_20 (f_7 (pc := 21) (e := (21, 20, 1, 0, 0, 0, 0, 22)) rfl) ?_
  refine e_lo [0, 1] rfl ?_
  exact F
set_option maxRecDepth 20000 in
theorem B_7_22 (hT : yLT T) (hR : yLR R) {p : Nat} (hp : yAtLand T R p) {x1 : Int} (F : (100 ≤ x1 → yW l zSS D cy zFk z d 7 bc bs K 0 0 50 [(0, yr (some p)), (1, yi 0)] [] (N, T, R, I)) ∧ (¬ (100 ≤ x1) → 0 ≤ x1 ∧ x1 < 100 ∧ (∀ I4, I4 = yU I (p + 1) x1.toNat (ynar 1 0) → (0 ≤ x1 ∧ x1 < 100 ∧ (∀ I7, I7 = yU I4 (p + 2) x1.toNat (ynar 1 (-1)) → (yW l zSS D cy zFk z d 7 bc bs K 0 0 22 [(0, yr (some p)), (1, yi (yadd x1 1))] [] (N, T, R, I7))))))) :
    yW l zSS D cy zFk z d 7 bc bs K 0 0 22 [(0, yr (some p)), (1, yi x1)] [] (N, T, R, I) := by
  refine e_10 (f_7 (pc := 22) (e := (22, 10, 1, 0, 0, 0, 0, 23)) rfl) rfl ?_
  refine e_1 (f_7 (pc := 23) (e := (23, 1, 100, 0, 0, 0, 0, 25)) rfl) (v := 100) rfl ?_
  refine e_73 (f_7 (pc := 25) (e := (25, 73, 48, 0, 0, 0, 0, 28)) rfl) (fun c1 => ?_) (fun c1 => ?_)
  · replace F := F.1 c1
    refine e_0 (f_7 (pc := 48) (e := (48, 0, 0, 0, 0, 0, 0, 49)) rfl) (v := 0) rfl ?_
    refine e_20 (f_7 (pc := 49) (e := (49, 20, 1, 0, 0, 0, 0, 50)) rfl) ?_
    refine e_lo [0, 1] rfl ?_
    exact F
  · replace F := F.2 c1
    refine e_12 (f_7 (pc := 28) (e := (28, 12, 0, 0, 0, 0, 0, 29)) rfl) rfl ?_
    refine e_90r zA (f_7 (pc := 29) (e := (29, 90, 1, 2, 3, 9, 798, 32)) rfl) rfl (hp.1 0 rfl) rfl rfl (hp.2 2 rfl) ?_
    refine e_10 (f_7 (pc := 32) (e := (32, 10, 1, 0, 0, 0, 0, 33)) rfl) rfl ?_
    refine e_0 (f_7 (pc := 33) (e := (33, 0, 0, 0, 0, 0, 0, 34)) rfl) (v := 0) rfl ?_
    obtain ⟨b2, b3, F⟩ := F
    refine e_111 (f_7 (pc := 34) (e := (34, 111, 0, 0, 0, 0, 0, 35)) rfl) rfl (hp.1 1 rfl) b2 b3 ?_
    replace F := F _ rfl
    refine e_12 (f_7 (pc := 35) (e := (35, 12, 0, 0, 0, 0, 0, 36)) rfl) rfl ?_
    refine e_90r zA (f_7 (pc := 36) (e := (36, 90, 1, 3, 3, 15, 799, 39)) rfl) rfl (hp.1 0 rfl) rfl rfl (hp.2 3 rfl) ?_
    refine e_10 (f_7 (pc := 39) (e := (39, 10, 1, 0, 0, 0, 0, 40)) rfl) rfl ?_
    refine e_0 (f_7 (pc := 40) (e := (40, 0, 4294967295, 0, 0, 0, 0, 41)) rfl) (v := (-1)) rfl ?_
    obtain ⟨b5, b6, F⟩ := F
    refine e_111 (f_7 (pc := 41) (e := (41, 111, 0, 0, 0, 0, 0, 42)) rfl) rfl (hp.1 2 rfl) b5 b6 ?_
    replace F := F _ rfl
    refine e_26 (f_7 (pc := 42) (e := (42, 26, 1, 1, 0, 0, 0, 45)) rfl) (w := 1) rfl rfl ?_
    refine e_80 (f_7 (pc := 45) (e := (45, 80, 22, 0, 0, 0, 0, 48)) rfl) ?_
    refine e_lo [0, 1] rfl ?_
    exact F
set_option maxRecDepth 20000 in
theorem B_7_50 (hT : yLT T) (hR : yLR R) {p : Nat} (hp : yAtLand T R p) {x1 : Int} (F : (5 ≤ x1 → yW l zSS D cy zFk z d 7 bc bs K 0 0 74 [(0, yr (some p)), (1, yi 0)] [] (N, T, R, I)) ∧ (¬ (5 ≤ x1) → 0 ≤ x1 ∧ x1 < 5 ∧ (∀ I4, I4 = yU I (p + 3) x1.toNat (ynar 1 0) → (yW l zSS D cy zFk z d 7 bc bs K 0 0 50 [(0, yr (some p)), (1, yi (yadd x1 1))] [] (N, T, R, I4))))) :
    yW l zSS D cy zFk z d 7 bc bs K 0 0 50 [(0, yr (some p)), (1, yi x1)] [] (N, T, R, I) := by
  refine e_10 (f_7 (pc := 50) (e := (50, 10, 1, 0, 0, 0, 0, 51)) rfl) rfl ?_
  refine e_12 (f_7 (pc := 51) (e := (51, 12, 0, 0, 0, 0, 0, 52)) rfl) rfl ?_
  refine e_90r zA (f_7 (pc := 52) (e := (52, 90, 1, 4, 3, 18, 800, 55)) rfl) rfl (hp.1 0 rfl) rfl rfl (hp.2 4 rfl) ?_
  refine e_103 (f_7 (pc := 55) (e := (55, 103, 0, 0, 0, 0, 0, 56)) rfl) rfl (hp.1 3 rfl) (by decide) (by decide) ?_
  refine e_73 (f_7 (pc := 56) (e := (56, 73, 72, 0, 0, 0, 0, 59)) rfl) (fun c1 => ?_) (fun c1 => ?_)
  · replace F := F.1 c1
    refine e_0 (f_7 (pc := 72) (e := (72, 0, 0, 0, 0, 0, 0, 73)) rfl) (v := 0) rfl ?_
    refine e_20 (f_7 (pc := 73) (e := (73, 20, 1, 0, 0, 0, 0, 74)) rfl) ?_
    refine e_lo [0, 1] rfl ?_
    exact F
  · replace F := F.2 c1
    refine e_12 (f_7 (pc := 59) (e := (59, 12, 0, 0, 0, 0, 0, 60)) rfl) rfl ?_
    refine e_90r zA (f_7 (pc := 60) (e := (60, 90, 1, 4, 3, 18, 800, 63)) rfl) rfl (hp.1 0 rfl) rfl rfl (hp.2 4 rfl) ?_
    refine e_10 (f_7 (pc := 63) (e := (63, 10, 1, 0, 0, 0, 0, 64)) rfl) rfl ?_
    refine e_0 (f_7 (pc := 64) (e := (64, 0, 0, 0, 0, 0, 0, 65)) rfl) (v := 0) rfl ?_
    obtain ⟨b2, b3, F⟩ := F
    refine e_111 (f_7 (pc := 65) (e := (65, 111, 0, 0, 0, 0, 0, 66)) rfl) rfl (hp.1 3 rfl) b2 b3 ?_
    replace F := F _ rfl
    refine e_26 (f_7 (pc := 66) (e := (66, 26, 1, 1, 0, 0, 0, 69)) rfl) (w := 1) rfl rfl ?_
    refine e_80 (f_7 (pc := 69) (e := (69, 80, 50, 0, 0, 0, 0, 72)) rfl) ?_
    refine e_lo [0, 1] rfl ?_
    exact F
set_option maxRecDepth 20000 in
theorem B_7_74 (hT : yLT T) (hR : yLR R) {p : Nat} (hp : yAtLand T R p) {x1 : Int} (F : (8 ≤ x1 → K none (N, T, R, I)) ∧ (¬ (8 ≤ x1) → 0 ≤ x1 ∧ x1 < 8 ∧ (∀ I4, I4 = yU I (p + 9) x1.toNat (ynar 1 (-1)) → (0 ≤ x1 ∧ x1 < 8 ∧ (∀ I7, I7 = yU I4 (p + 10) x1.toNat (ynar 3 0) → (yW l zSS D cy zFk z d 7 bc bs K 0 0 74 [(0, yr (some p)), (1, yi (yadd x1 1))] [] (N, T, R, I7))))))) :
    yW l zSS D cy zFk z d 7 bc bs K 0 0 74 [(0, yr (some p)), (1, yi x1)] [] (N, T, R, I) := by
  refine e_10 (f_7 (pc := 74) (e := (74, 10, 1, 0, 0, 0, 0, 75)) rfl) rfl ?_
  refine e_1 (f_7 (pc := 75) (e := (75, 1, 8, 0, 0, 0, 0, 77)) rfl) (v := 8) rfl ?_
  refine e_73 (f_7 (pc := 77) (e := (77, 73, 100, 0, 0, 0, 0, 80)) rfl) (fun c1 => ?_) (fun c1 => ?_)
  · replace F := F.1 c1
    exact e_122 (f_7 (pc := 100) (e := (100, 122, 0, 0, 0, 0, 0, 0)) rfl) F
  · replace F := F.2 c1
    refine e_12 (f_7 (pc := 80) (e := (80, 12, 0, 0, 0, 0, 0, 81)) rfl) rfl ?_
    refine e_90r zA (f_7 (pc := 81) (e := (81, 90, 1, 11, 3, 37, 806, 84)) rfl) rfl (hp.1 0 rfl) rfl rfl (hp.2 11 rfl) ?_
    refine e_10 (f_7 (pc := 84) (e := (84, 10, 1, 0, 0, 0, 0, 85)) rfl) rfl ?_
    refine e_0 (f_7 (pc := 85) (e := (85, 0, 4294967295, 0, 0, 0, 0, 86)) rfl) (v := (-1)) rfl ?_
    obtain ⟨b2, b3, F⟩ := F
    refine e_111 (f_7 (pc := 86) (e := (86, 111, 0, 0, 0, 0, 0, 87)) rfl) rfl (hp.1 9 rfl) b2 b3 ?_
    replace F := F _ rfl
    refine e_12 (f_7 (pc := 87) (e := (87, 12, 0, 0, 0, 0, 0, 88)) rfl) rfl ?_
    refine e_90r zA (f_7 (pc := 88) (e := (88, 90, 1, 12, 3, 40, 807, 91)) rfl) rfl (hp.1 0 rfl) rfl rfl (hp.2 12 rfl) ?_
    refine e_10 (f_7 (pc := 91) (e := (91, 10, 1, 0, 0, 0, 0, 92)) rfl) rfl ?_
    refine e_0 (f_7 (pc := 92) (e := (92, 0, 0, 0, 0, 0, 0, 93)) rfl) (v := 0) rfl ?_
    obtain ⟨b5, b6, F⟩ := F
    refine e_113 (f_7 (pc := 93) (e := (93, 113, 0, 0, 0, 0, 0, 94)) rfl) rfl (hp.1 10 rfl) b5 b6 (.inr rfl) ?_
    replace F := F _ rfl
    refine e_26 (f_7 (pc := 94) (e := (94, 26, 1, 1, 0, 0, 0, 97)) rfl) (w := 1) rfl rfl ?_
    refine e_80 (f_7 (pc := 97) (e := (97, 80, 74, 0, 0, 0, 0, 100)) rfl) ?_
    refine e_lo [0, 1] rfl ?_
    exact F

/-! ChairAlley$Land.copyFrom(LChairAlley$Land;)V -/
set_option maxRecDepth 20000 in
theorem B_8_0 (hT : yLT T) (hR : yLR R) {p : Nat} (hp : yAtLand T R p) {q : Nat} (hq : yAtLand T R q) (F : ∀ I1, I1 = yU I p 0 (I q 0) → (∀ I2, I2 = yU I1 p 1 (I1 q 1) → (∀ I3, I3 = yU I2 p 5 (I2 q 5) → (∀ I4, I4 = yU I3 p 14 (I3 q 14) → (∀ I5, I5 = yC I4 (q + 1) (p + 1) 100 → (∀ I6, I6 = yC I5 (q + 2) (p + 2) 100 → (∀ I7, I7 = yC I6 (q + 3) (p + 3) 5 → (∀ I8, I8 = yC I7 (q + 11) (p + 11) 3 → (yW l zSS D cy zFk z (d + 1) 8 bc bs K 0 0 92 [(0, yr (some p)), (1, yr (some q)), (2, yi 0)] [] (N, T, R, I8)))))))))) :
    yW l zSS D cy zFk z (d + 1) 8 bc bs K 0 0 0 [(0, yr (some p)), (1, yr (some q))] [] (N, T, R, I) := by
  refine e_12 (f_8 (pc := 0) (e := (0, 12, 0, 0, 0, 0, 0, 1)) rfl) rfl ?_
  refine e_12 (f_8 (pc := 1) (e := (1, 12, 1, 0, 0, 0, 0, 2)) rfl) rfl ?_
  refine e_90 zA (f_8 (pc := 2) (e := (2, 90, 1, 0, 0, 47, 809, 5)) rfl) rfl (hq.1 0 rfl) rfl rfl ?_
  refine e_91 zA (f_8 (pc := 5) (e := (5, 91, 1, 0, 0, 47, 809, 8)) rfl) rfl (hp.1 0 rfl) rfl rfl trivial ?_
  replace F := F _ rfl
  refine e_12 (f_8 (pc := 8) (e := (8, 12, 0, 0, 0, 0, 0, 9)) rfl) rfl ?_
  refine e_12 (f_8 (pc := 9) (e := (9, 12, 1, 0, 0, 0, 0, 10)) rfl) rfl ?_
  refine e_90 zA (f_8 (pc := 10) (e := (10, 90, 1, 1, 0, 51, 810, 13)) rfl) rfl (hq.1 0 rfl) rfl rfl ?_
  refine e_91 zA (f_8 (pc := 13) (e := (13, 91, 1, 1, 0, 51, 810, 16)) rfl) rfl (hp.1 0 rfl) rfl rfl trivial ?_
  replace F := F _ rfl
  refine e_12 (f_8 (pc := 16) (e := (16, 12, 0, 0, 0, 0, 0, 17)) rfl) rfl ?_
  refine e_12 (f_8 (pc := 17) (e := (17, 12, 1, 0, 0, 0, 0, 18)) rfl) rfl ?_
  refine e_90 zA (f_8 (pc := 18) (e := (18, 90, 1, 5, 0, 54, 811, 21)) rfl) rfl (hq.1 0 rfl) rfl rfl ?_
  refine e_91 zA (f_8 (pc := 21) (e := (21, 91, 1, 5, 0, 54, 811, 24)) rfl) rfl (hp.1 0 rfl) rfl rfl trivial ?_
  replace F := F _ rfl
  refine e_12 (f_8 (pc := 24) (e := (24, 12, 0, 0, 0, 0, 0, 25)) rfl) rfl ?_
  refine e_12 (f_8 (pc := 25) (e := (25, 12, 1, 0, 0, 0, 0, 26)) rfl) rfl ?_
  refine e_90 zA (f_8 (pc := 26) (e := (26, 90, 1, 14, 0, 57, 812, 29)) rfl) rfl (hq.1 0 rfl) rfl rfl ?_
  refine e_91 zA (f_8 (pc := 29) (e := (29, 91, 1, 14, 0, 57, 812, 32)) rfl) rfl (hp.1 0 rfl) rfl rfl trivial ?_
  replace F := F _ rfl
  refine e_12 (f_8 (pc := 32) (e := (32, 12, 1, 0, 0, 0, 0, 33)) rfl) rfl ?_
  refine e_90r zA (f_8 (pc := 33) (e := (33, 90, 1, 2, 3, 9, 798, 36)) rfl) rfl (hq.1 0 rfl) rfl rfl (hq.2 2 rfl) ?_
  refine e_0 (f_8 (pc := 36) (e := (36, 0, 0, 0, 0, 0, 0, 37)) rfl) (v := 0) rfl ?_
  refine e_12 (f_8 (pc := 37) (e := (37, 12, 0, 0, 0, 0, 0, 38)) rfl) rfl ?_
  refine e_90r zA (f_8 (pc := 38) (e := (38, 90, 1, 2, 3, 9, 798, 41)) rfl) rfl (hp.1 0 rfl) rfl rfl (hp.2 2 rfl) ?_
  refine e_0 (f_8 (pc := 41) (e := (41, 0, 0, 0, 0, 0, 0, 42)) rfl) (v := 0) rfl ?_
  refine e_1 (f_8 (pc := 42) (e := (42, 1, 100, 0, 0, 0, 0, 44)) rfl) (v := 100) rfl ?_
  refine e_135 (f_8 (pc := 44) (e := (44, 135, 0, 0, 0, 60, 813, 47)) rfl) zA rfl rfl (hp.1 1 rfl) (hq.1 1 rfl) rfl rfl rfl (by decide) (Nat.succ_pos _) (Nat.le_of_ble_eq_true rfl) ?_
  replace F := F _ rfl
  refine e_12 (f_8 (pc := 47) (e := (47, 12, 1, 0, 0, 0, 0, 48)) rfl) rfl ?_
  refine e_90r zA (f_8 (pc := 48) (e := (48, 90, 1, 3, 3, 15, 799, 51)) rfl) rfl (hq.1 0 rfl) rfl rfl (hq.2 3 rfl) ?_
  refine e_0 (f_8 (pc := 51) (e := (51, 0, 0, 0, 0, 0, 0, 52)) rfl) (v := 0) rfl ?_
  refine e_12 (f_8 (pc := 52) (e := (52, 12, 0, 0, 0, 0, 0, 53)) rfl) rfl ?_
  refine e_90r zA (f_8 (pc := 53) (e := (53, 90, 1, 3, 3, 15, 799, 56)) rfl) rfl (hp.1 0 rfl) rfl rfl (hp.2 3 rfl) ?_
  refine e_0 (f_8 (pc := 56) (e := (56, 0, 0, 0, 0, 0, 0, 57)) rfl) (v := 0) rfl ?_
  refine e_1 (f_8 (pc := 57) (e := (57, 1, 100, 0, 0, 0, 0, 59)) rfl) (v := 100) rfl ?_
  refine e_135 (f_8 (pc := 59) (e := (59, 135, 0, 0, 0, 60, 813, 62)) rfl) zA rfl rfl (hp.1 2 rfl) (hq.1 2 rfl) rfl rfl rfl (by decide) (Nat.succ_pos _) (Nat.le_of_ble_eq_true rfl) ?_
  replace F := F _ rfl
  refine e_12 (f_8 (pc := 62) (e := (62, 12, 1, 0, 0, 0, 0, 63)) rfl) rfl ?_
  refine e_90r zA (f_8 (pc := 63) (e := (63, 90, 1, 4, 3, 18, 800, 66)) rfl) rfl (hq.1 0 rfl) rfl rfl (hq.2 4 rfl) ?_
  refine e_0 (f_8 (pc := 66) (e := (66, 0, 0, 0, 0, 0, 0, 67)) rfl) (v := 0) rfl ?_
  refine e_12 (f_8 (pc := 67) (e := (67, 12, 0, 0, 0, 0, 0, 68)) rfl) rfl ?_
  refine e_90r zA (f_8 (pc := 68) (e := (68, 90, 1, 4, 3, 18, 800, 71)) rfl) rfl (hp.1 0 rfl) rfl rfl (hp.2 4 rfl) ?_
  refine e_0 (f_8 (pc := 71) (e := (71, 0, 0, 0, 0, 0, 0, 72)) rfl) (v := 0) rfl ?_
  refine e_0 (f_8 (pc := 72) (e := (72, 0, 5, 0, 0, 0, 0, 73)) rfl) (v := 5) rfl ?_
  refine e_135 (f_8 (pc := 73) (e := (73, 135, 0, 0, 0, 60, 813, 76)) rfl) zA rfl rfl (hp.1 3 rfl) (hq.1 3 rfl) rfl rfl rfl (by decide) (Nat.succ_pos _) (Nat.le_of_ble_eq_true rfl) ?_
  replace F := F _ rfl
  refine e_12 (f_8 (pc := 76) (e := (76, 12, 1, 0, 0, 0, 0, 77)) rfl) rfl ?_
  refine e_90r zA (f_8 (pc := 77) (e := (77, 90, 1, 13, 3, 44, 808, 80)) rfl) rfl (hq.1 0 rfl) rfl rfl (hq.2 13 rfl) ?_
  refine e_0 (f_8 (pc := 80) (e := (80, 0, 0, 0, 0, 0, 0, 81)) rfl) (v := 0) rfl ?_
  refine e_12 (f_8 (pc := 81) (e := (81, 12, 0, 0, 0, 0, 0, 82)) rfl) rfl ?_
  refine e_90r zA (f_8 (pc := 82) (e := (82, 90, 1, 13, 3, 44, 808, 85)) rfl) rfl (hp.1 0 rfl) rfl rfl (hp.2 13 rfl) ?_
  refine e_0 (f_8 (pc := 85) (e := (85, 0, 0, 0, 0, 0, 0, 86)) rfl) (v := 0) rfl ?_
  refine e_0 (f_8 (pc := 86) (e := (86, 0, 3, 0, 0, 0, 0, 87)) rfl) (v := 3) rfl ?_
  refine e_135 (f_8 (pc := 87) (e := (87, 135, 0, 0, 0, 60, 813, 90)) rfl) zA rfl rfl (hp.1 11 rfl) (hq.1 11 rfl) rfl rfl rfl (by decide) (Nat.succ_pos _) (Nat.le_of_ble_eq_true rfl) ?_
  replace F := F _ rfl
  refine e_0 (f_8 (pc := 90) (e := (90, 0, 0, 0, 0, 0, 0, 91)) rfl) (v := 0) rfl ?_
  refine e_20 (f_8 (pc := 91) (e := (91, 20, 2, 0, 0, 0, 0, 92)) rfl) ?_
  refine e_lo [0, 1, 2] rfl ?_
  exact F
set_option maxRecDepth 20000 in
theorem B_8_92 (hT : yLT T) (hR : yLR R) {p : Nat} (hp : yAtLand T R p) {q : Nat} (hq : yAtLand T R q) {x2 : Int} (F : (8 ≤ x2 → K none (N, T, R, I)) ∧ (¬ (8 ≤ x2) → 0 ≤ x2 ∧ x2 < 8 ∧ (0 ≤ x2 ∧ x2 < 8 ∧ (∀ I6, I6 = yU I (p + 4) x2.toNat (I (q + 4) x2.toNat) → (0 ≤ x2 ∧ x2 < 8 ∧ (0 ≤ x2 ∧ x2 < 8 ∧ (∀ I11, I11 = yU I6 (p + 5) x2.toNat (ynar 1 (I6 (q + 5) x2.toNat)) → (0 ≤ x2 ∧ x2 < 8 ∧ (0 ≤ x2 ∧ x2 < 8 ∧ (∀ I16, I16 = yU I11 (p + 6) x2.toNat (ynar 1 (I11 (q + 6) x2.toNat)) → (0 ≤ x2 ∧ x2 < 8 ∧ (0 ≤ x2 ∧ x2 < 8 ∧ (∀ I21, I21 = yU I16 (p + 7) x2.toNat (ynar 1 (I16 (q + 7) x2.toNat)) → (0 ≤ x2 ∧ x2 < 8 ∧ (0 ≤ x2 ∧ x2 < 8 ∧ (∀ I26, I26 = yU I21 (p + 8) x2.toNat (ynar 1 (I21 (q + 8) x2.toNat)) → (0 ≤ x2 ∧ x2 < 8 ∧ (0 ≤ x2 ∧ x2 < 8 ∧ (∀ I31, I31 = yU I26 (p + 9) x2.toNat (ynar 1 (I26 (q + 9) x2.toNat)) → (0 ≤ x2 ∧ x2 < 8 ∧ (0 ≤ x2 ∧ x2 < 8 ∧ (∀ I36, I36 = yU I31 (p + 10) x2.toNat (ynar 3 (I31 (q + 10) x2.toNat)) → (yW l zSS D cy zFk z d 8 bc bs K 0 0 92 [(0, yr (some p)), (1, yr (some q)), (2, yi (yadd x2 1))] [] (N, T, R, I36)))))))))))))))))))))))) :
    yW l zSS D cy zFk z d 8 bc bs K 0 0 92 [(0, yr (some p)), (1, yr (some q)), (2, yi x2)] [] (N, T, R, I) := by
  refine e_10 (f_8 (pc := 92) (e := (92, 10, 2, 0, 0, 0, 0, 93)) rfl) rfl ?_
  refine e_1 (f_8 (pc := 93) (e := (93, 1, 8, 0, 0, 0, 0, 95)) rfl) (v := 8) rfl ?_
  refine e_73 (f_8 (pc := 95) (e := (95, 73, 188, 0, 0, 0, 0, 98)) rfl) (fun c1 => ?_) (fun c1 => ?_)
  · replace F := F.1 c1
    exact e_122 (f_8 (pc := 188) (e := (188, 122, 0, 0, 0, 0, 0, 0)) rfl) F
  · replace F := F.2 c1
    refine e_12 (f_8 (pc := 98) (e := (98, 12, 0, 0, 0, 0, 0, 99)) rfl) rfl ?_
    refine e_90r zA (f_8 (pc := 99) (e := (99, 90, 1, 6, 3, 21, 801, 102)) rfl) rfl (hp.1 0 rfl) rfl rfl (hp.2 6 rfl) ?_
    refine e_10 (f_8 (pc := 102) (e := (102, 10, 2, 0, 0, 0, 0, 103)) rfl) rfl ?_
    refine e_12 (f_8 (pc := 103) (e := (103, 12, 1, 0, 0, 0, 0, 104)) rfl) rfl ?_
    refine e_90r zA (f_8 (pc := 104) (e := (104, 90, 1, 6, 3, 21, 801, 107)) rfl) rfl (hq.1 0 rfl) rfl rfl (hq.2 6 rfl) ?_
    refine e_10 (f_8 (pc := 107) (e := (107, 10, 2, 0, 0, 0, 0, 108)) rfl) rfl ?_
    obtain ⟨b2, b3, F⟩ := F
    refine e_114 (f_8 (pc := 108) (e := (108, 114, 0, 0, 0, 0, 0, 109)) rfl) rfl (hq.1 4 rfl) b2 b3 ?_
    obtain ⟨b4, b5, F⟩ := F
    refine e_115 (f_8 (pc := 109) (e := (109, 115, 0, 0, 0, 0, 0, 110)) rfl) rfl (hp.1 4 rfl) b4 b5 ?_
    replace F := F _ rfl
    refine e_12 (f_8 (pc := 110) (e := (110, 12, 0, 0, 0, 0, 0, 111)) rfl) rfl ?_
    refine e_90r zA (f_8 (pc := 111) (e := (111, 90, 1, 7, 3, 25, 802, 114)) rfl) rfl (hp.1 0 rfl) rfl rfl (hp.2 7 rfl) ?_
    refine e_10 (f_8 (pc := 114) (e := (114, 10, 2, 0, 0, 0, 0, 115)) rfl) rfl ?_
    refine e_12 (f_8 (pc := 115) (e := (115, 12, 1, 0, 0, 0, 0, 116)) rfl) rfl ?_
    refine e_90r zA (f_8 (pc := 116) (e := (116, 90, 1, 7, 3, 25, 802, 119)) rfl) rfl (hq.1 0 rfl) rfl rfl (hq.2 7 rfl) ?_
    refine e_10 (f_8 (pc := 119) (e := (119, 10, 2, 0, 0, 0, 0, 120)) rfl) rfl ?_
    obtain ⟨b7, b8, F⟩ := F
    refine e_110 (f_8 (pc := 120) (e := (120, 110, 0, 0, 0, 0, 0, 121)) rfl) rfl (hq.1 5 rfl) b7 b8 ?_
    obtain ⟨b9, b10, F⟩ := F
    refine e_111 (f_8 (pc := 121) (e := (121, 111, 0, 0, 0, 0, 0, 122)) rfl) rfl (hp.1 5 rfl) b9 b10 ?_
    replace F := F _ rfl
    refine e_12 (f_8 (pc := 122) (e := (122, 12, 0, 0, 0, 0, 0, 123)) rfl) rfl ?_
    refine e_90r zA (f_8 (pc := 123) (e := (123, 90, 1, 8, 3, 28, 803, 126)) rfl) rfl (hp.1 0 rfl) rfl rfl (hp.2 8 rfl) ?_
    refine e_10 (f_8 (pc := 126) (e := (126, 10, 2, 0, 0, 0, 0, 127)) rfl) rfl ?_
    refine e_12 (f_8 (pc := 127) (e := (127, 12, 1, 0, 0, 0, 0, 128)) rfl) rfl ?_
    refine e_90r zA (f_8 (pc := 128) (e := (128, 90, 1, 8, 3, 28, 803, 131)) rfl) rfl (hq.1 0 rfl) rfl rfl (hq.2 8 rfl) ?_
    refine e_10 (f_8 (pc := 131) (e := (131, 10, 2, 0, 0, 0, 0, 132)) rfl) rfl ?_
    obtain ⟨b12, b13, F⟩ := F
    refine e_110 (f_8 (pc := 132) (e := (132, 110, 0, 0, 0, 0, 0, 133)) rfl) rfl (hq.1 6 rfl) b12 b13 ?_
    obtain ⟨b14, b15, F⟩ := F
    refine e_111 (f_8 (pc := 133) (e := (133, 111, 0, 0, 0, 0, 0, 134)) rfl) rfl (hp.1 6 rfl) b14 b15 ?_
    replace F := F _ rfl
    refine e_12 (f_8 (pc := 134) (e := (134, 12, 0, 0, 0, 0, 0, 135)) rfl) rfl ?_
    refine e_90r zA (f_8 (pc := 135) (e := (135, 90, 1, 9, 3, 31, 804, 138)) rfl) rfl (hp.1 0 rfl) rfl rfl (hp.2 9 rfl) ?_
    refine e_10 (f_8 (pc := 138) (e := (138, 10, 2, 0, 0, 0, 0, 139)) rfl) rfl ?_
    refine e_12 (f_8 (pc := 139) (e := (139, 12, 1, 0, 0, 0, 0, 140)) rfl) rfl ?_
    refine e_90r zA (f_8 (pc := 140) (e := (140, 90, 1, 9, 3, 31, 804, 143)) rfl) rfl (hq.1 0 rfl) rfl rfl (hq.2 9 rfl) ?_
    refine e_10 (f_8 (pc := 143) (e := (143, 10, 2, 0, 0, 0, 0, 144)) rfl) rfl ?_
    obtain ⟨b17, b18, F⟩ := F
    refine e_110 (f_8 (pc := 144) (e := (144, 110, 0, 0, 0, 0, 0, 145)) rfl) rfl (hq.1 7 rfl) b17 b18 ?_
    obtain ⟨b19, b20, F⟩ := F
    refine e_111 (f_8 (pc := 145) (e := (145, 111, 0, 0, 0, 0, 0, 146)) rfl) rfl (hp.1 7 rfl) b19 b20 ?_
    replace F := F _ rfl
    refine e_12 (f_8 (pc := 146) (e := (146, 12, 0, 0, 0, 0, 0, 147)) rfl) rfl ?_
    refine e_90r zA (f_8 (pc := 147) (e := (147, 90, 1, 10, 3, 34, 805, 150)) rfl) rfl (hp.1 0 rfl) rfl rfl (hp.2 10 rfl) ?_
    refine e_10 (f_8 (pc := 150) (e := (150, 10, 2, 0, 0, 0, 0, 151)) rfl) rfl ?_
    refine e_12 (f_8 (pc := 151) (e := (151, 12, 1, 0, 0, 0, 0, 152)) rfl) rfl ?_
    refine e_90r zA (f_8 (pc := 152) (e := (152, 90, 1, 10, 3, 34, 805, 155)) rfl) rfl (hq.1 0 rfl) rfl rfl (hq.2 10 rfl) ?_
    refine e_10 (f_8 (pc := 155) (e := (155, 10, 2, 0, 0, 0, 0, 156)) rfl) rfl ?_
    obtain ⟨b22, b23, F⟩ := F
    refine e_110 (f_8 (pc := 156) (e := (156, 110, 0, 0, 0, 0, 0, 157)) rfl) rfl (hq.1 8 rfl) b22 b23 ?_
    obtain ⟨b24, b25, F⟩ := F
    refine e_111 (f_8 (pc := 157) (e := (157, 111, 0, 0, 0, 0, 0, 158)) rfl) rfl (hp.1 8 rfl) b24 b25 ?_
    replace F := F _ rfl
    refine e_12 (f_8 (pc := 158) (e := (158, 12, 0, 0, 0, 0, 0, 159)) rfl) rfl ?_
    refine e_90r zA (f_8 (pc := 159) (e := (159, 90, 1, 11, 3, 37, 806, 162)) rfl) rfl (hp.1 0 rfl) rfl rfl (hp.2 11 rfl) ?_
    refine e_10 (f_8 (pc := 162) (e := (162, 10, 2, 0, 0, 0, 0, 163)) rfl) rfl ?_
    refine e_12 (f_8 (pc := 163) (e := (163, 12, 1, 0, 0, 0, 0, 164)) rfl) rfl ?_
    refine e_90r zA (f_8 (pc := 164) (e := (164, 90, 1, 11, 3, 37, 806, 167)) rfl) rfl (hq.1 0 rfl) rfl rfl (hq.2 11 rfl) ?_
    refine e_10 (f_8 (pc := 167) (e := (167, 10, 2, 0, 0, 0, 0, 168)) rfl) rfl ?_
    obtain ⟨b27, b28, F⟩ := F
    refine e_110 (f_8 (pc := 168) (e := (168, 110, 0, 0, 0, 0, 0, 169)) rfl) rfl (hq.1 9 rfl) b27 b28 ?_
    obtain ⟨b29, b30, F⟩ := F
    refine e_111 (f_8 (pc := 169) (e := (169, 111, 0, 0, 0, 0, 0, 170)) rfl) rfl (hp.1 9 rfl) b29 b30 ?_
    replace F := F _ rfl
    refine e_12 (f_8 (pc := 170) (e := (170, 12, 0, 0, 0, 0, 0, 171)) rfl) rfl ?_
    refine e_90r zA (f_8 (pc := 171) (e := (171, 90, 1, 12, 3, 40, 807, 174)) rfl) rfl (hp.1 0 rfl) rfl rfl (hp.2 12 rfl) ?_
    refine e_10 (f_8 (pc := 174) (e := (174, 10, 2, 0, 0, 0, 0, 175)) rfl) rfl ?_
    refine e_12 (f_8 (pc := 175) (e := (175, 12, 1, 0, 0, 0, 0, 176)) rfl) rfl ?_
    refine e_90r zA (f_8 (pc := 176) (e := (176, 90, 1, 12, 3, 40, 807, 179)) rfl) rfl (hq.1 0 rfl) rfl rfl (hq.2 12 rfl) ?_
    refine e_10 (f_8 (pc := 179) (e := (179, 10, 2, 0, 0, 0, 0, 180)) rfl) rfl ?_
    obtain ⟨b32, b33, F⟩ := F
    refine e_112 (f_8 (pc := 180) (e := (180, 112, 0, 0, 0, 0, 0, 181)) rfl) rfl (hq.1 10 rfl) b32 b33 (.inr rfl) ?_
    obtain ⟨b34, b35, F⟩ := F
    refine e_113 (f_8 (pc := 181) (e := (181, 113, 0, 0, 0, 0, 0, 182)) rfl) rfl (hp.1 10 rfl) b34 b35 (.inr rfl) ?_
    replace F := F _ rfl
    refine e_26 (f_8 (pc := 182) (e := (182, 26, 2, 1, 0, 0, 0, 185)) rfl) (w := 1) rfl rfl ?_
    refine e_80 (f_8 (pc := 185) (e := (185, 80, 92, 0, 0, 0, 0, 188)) rfl) ?_
    refine e_lo [0, 1, 2] rfl ?_
    exact F

/-! ChairAlley$Land.hasWay(I)Z -/
set_option maxRecDepth 20000 in
theorem B_9_0 (hT : yLT T) (hR : yLR R) {p : Nat} (hp : yAtLand T R p) {x1 : Int} (F : yW l zSS D cy zFk z d 9 bc bs K 0 0 2 [(0, yr (some p)), (1, yi x1), (2, yi 0)] [] (N, T, R, I)) :
    yW l zSS D cy zFk z d 9 bc bs K 0 0 0 [(0, yr (some p)), (1, yi x1)] [] (N, T, R, I) := by
  refine e_0 (f_9 (pc := 0) (e := (0, 0, 0, 0, 0, 0, 0, 1)) rfl) (v := 0) rfl ?_
  refine e_20 (f_9 (pc := 1) (e := (1, 20, 2, 0, 0, 0, 0, 2)) rfl) ?_
  refine e_lo [0, 1, 2] rfl ?_
  exact F
set_option maxRecDepth 20000 in
theorem B_9_2 (hT : yLT T) (hR : yLR R) {p : Nat} (hp : yAtLand T R p) {x1 x2 : Int} (F : ((I p 14) ≤ x2 → K (some (yi 0)) (N, T, R, I)) ∧ (¬ ((I p 14) ≤ x2) → (3 ≤ x2 → K (some (yi 0)) (N, T, R, I)) ∧ (¬ (3 ≤ x2) → 0 ≤ x2 ∧ x2 < 3 ∧ (((I (p + 11) x2.toNat) ≠ x1 → yW l zSS D cy zFk z d 9 bc bs K 0 0 2 [(0, yr (some p)), (1, yi x1), (2, yi (yadd x2 1))] [] (N, T, R, I)) ∧ (¬ ((I (p + 11) x2.toNat) ≠ x1) → K (some (yi 1)) (N, T, R, I)))))) :
    yW l zSS D cy zFk z d 9 bc bs K 0 0 2 [(0, yr (some p)), (1, yi x1), (2, yi x2)] [] (N, T, R, I) := by
  refine e_10 (f_9 (pc := 2) (e := (2, 10, 2, 0, 0, 0, 0, 3)) rfl) rfl ?_
  refine e_12 (f_9 (pc := 3) (e := (3, 12, 0, 0, 0, 0, 0, 4)) rfl) rfl ?_
  refine e_90 zA (f_9 (pc := 4) (e := (4, 90, 1, 14, 0, 57, 812, 7)) rfl) rfl (hp.1 0 rfl) rfl rfl ?_
  refine e_73 (f_9 (pc := 7) (e := (7, 73, 33, 0, 0, 0, 0, 10)) rfl) (fun c1 => ?_) (fun c1 => ?_)
  · replace F := F.1 c1
    refine e_0 (f_9 (pc := 33) (e := (33, 0, 0, 0, 0, 0, 0, 34)) rfl) (v := 0) rfl ?_
    exact e_121 (f_9 (pc := 34) (e := (34, 121, 0, 0, 0, 0, 0, 0)) rfl) (.inl rfl) F
  · replace F := F.2 c1
    refine e_10 (f_9 (pc := 10) (e := (10, 10, 2, 0, 0, 0, 0, 11)) rfl) rfl ?_
    refine e_0 (f_9 (pc := 11) (e := (11, 0, 3, 0, 0, 0, 0, 12)) rfl) (v := 3) rfl ?_
    refine e_73 (f_9 (pc := 12) (e := (12, 73, 33, 0, 0, 0, 0, 15)) rfl) (fun c2 => ?_) (fun c2 => ?_)
    · replace F := F.1 c2
      refine e_0 (f_9 (pc := 33) (e := (33, 0, 0, 0, 0, 0, 0, 34)) rfl) (v := 0) rfl ?_
      exact e_121 (f_9 (pc := 34) (e := (34, 121, 0, 0, 0, 0, 0, 0)) rfl) (.inl rfl) F
    · replace F := F.2 c2
      refine e_12 (f_9 (pc := 15) (e := (15, 12, 0, 0, 0, 0, 0, 16)) rfl) rfl ?_
      refine e_90r zA (f_9 (pc := 16) (e := (16, 90, 1, 13, 3, 44, 808, 19)) rfl) rfl (hp.1 0 rfl) rfl rfl (hp.2 13 rfl) ?_
      refine e_10 (f_9 (pc := 19) (e := (19, 10, 2, 0, 0, 0, 0, 20)) rfl) rfl ?_
      obtain ⟨b3, b4, F⟩ := F
      refine e_110 (f_9 (pc := 20) (e := (20, 110, 0, 0, 0, 0, 0, 21)) rfl) rfl (hp.1 11 rfl) b3 b4 ?_
      refine e_10 (f_9 (pc := 21) (e := (21, 10, 1, 0, 0, 0, 0, 22)) rfl) rfl ?_
      refine e_71 (f_9 (pc := 22) (e := (22, 71, 27, 0, 0, 0, 0, 25)) rfl) (fun c5 => ?_) (fun c5 => ?_)
      · replace F := F.1 c5
        refine e_26 (f_9 (pc := 27) (e := (27, 26, 2, 1, 0, 0, 0, 30)) rfl) (w := 1) rfl rfl ?_
        refine e_80 (f_9 (pc := 30) (e := (30, 80, 2, 0, 0, 0, 0, 33)) rfl) ?_
        refine e_lo [0, 1, 2] rfl ?_
        exact F
      · replace F := F.2 c5
        refine e_0 (f_9 (pc := 25) (e := (25, 0, 1, 0, 0, 0, 0, 26)) rfl) (v := 1) rfl ?_
        exact e_121 (f_9 (pc := 26) (e := (26, 121, 0, 0, 0, 0, 0, 27)) rfl) (.inr rfl) F

/-! ChairAlley$Land.isCell(I)Z -/
set_option maxRecDepth 20000 in
theorem B_10_0 (hT : yLT T) (hR : yLR R) {p : Nat} (hp : yAtLand T R p) {x1 : Int} (F : (x1 < 0 → K (some (yi 0)) (N, T, R, I)) ∧ (¬ (x1 < 0) → (100 ≤ x1 → K (some (yi 0)) (N, T, R, I)) ∧ (¬ (100 ≤ x1) → ((I p 0) ≤ (yrem x1 10) → K (some (yi 0)) (N, T, R, I)) ∧ (¬ ((I p 0) ≤ (yrem x1 10)) → ((I p 1) ≤ (ydiv x1 10) → K (some (yi 0)) (N, T, R, I)) ∧ (¬ ((I p 1) ≤ (ydiv x1 10)) → K (some (yi 1)) (N, T, R, I)))))) :
    yW l zSS D cy zFk z d 10 bc bs K 0 0 0 [(0, yr (some p)), (1, yi x1)] [] (N, T, R, I) := by
  refine e_10 (f_10 (pc := 0) (e := (0, 10, 1, 0, 0, 0, 0, 1)) rfl) rfl ?_
  refine e_62 (f_10 (pc := 1) (e := (1, 62, 36, 0, 0, 0, 0, 4)) rfl) (fun c1 => ?_) (fun c1 => ?_)
  · replace F := F.1 c1
    refine e_0 (f_10 (pc := 36) (e := (36, 0, 0, 0, 0, 0, 0, 37)) rfl) (v := 0) rfl ?_
    exact e_121 (f_10 (pc := 37) (e := (37, 121, 0, 0, 0, 0, 0, 0)) rfl) (.inl rfl) F
  · replace F := F.2 c1
    refine e_10 (f_10 (pc := 4) (e := (4, 10, 1, 0, 0, 0, 0, 5)) rfl) rfl ?_
    refine e_1 (f_10 (pc := 5) (e := (5, 1, 100, 0, 0, 0, 0, 7)) rfl) (v := 100) rfl ?_
    refine e_73 (f_10 (pc := 7) (e := (7, 73, 36, 0, 0, 0, 0, 10)) rfl) (fun c2 => ?_) (fun c2 => ?_)
    · replace F := F.1 c2
      refine e_0 (f_10 (pc := 36) (e := (36, 0, 0, 0, 0, 0, 0, 37)) rfl) (v := 0) rfl ?_
      exact e_121 (f_10 (pc := 37) (e := (37, 121, 0, 0, 0, 0, 0, 0)) rfl) (.inl rfl) F
    · replace F := F.2 c2
      refine e_10 (f_10 (pc := 10) (e := (10, 10, 1, 0, 0, 0, 0, 11)) rfl) rfl ?_
      refine e_1 (f_10 (pc := 11) (e := (11, 1, 10, 0, 0, 0, 0, 13)) rfl) (v := 10) rfl ?_
      refine e_34 (f_10 (pc := 13) (e := (13, 34, 0, 0, 0, 0, 0, 14)) rfl) (by decide) ?_
      refine e_12 (f_10 (pc := 14) (e := (14, 12, 0, 0, 0, 0, 0, 15)) rfl) rfl ?_
      refine e_90 zA (f_10 (pc := 15) (e := (15, 90, 1, 0, 0, 47, 809, 18)) rfl) rfl (hp.1 0 rfl) rfl rfl ?_
      refine e_73 (f_10 (pc := 18) (e := (18, 73, 36, 0, 0, 0, 0, 21)) rfl) (fun c3 => ?_) (fun c3 => ?_)
      · replace F := F.1 c3
        refine e_0 (f_10 (pc := 36) (e := (36, 0, 0, 0, 0, 0, 0, 37)) rfl) (v := 0) rfl ?_
        exact e_121 (f_10 (pc := 37) (e := (37, 121, 0, 0, 0, 0, 0, 0)) rfl) (.inl rfl) F
      · replace F := F.2 c3
        refine e_10 (f_10 (pc := 21) (e := (21, 10, 1, 0, 0, 0, 0, 22)) rfl) rfl ?_
        refine e_1 (f_10 (pc := 22) (e := (22, 1, 10, 0, 0, 0, 0, 24)) rfl) (v := 10) rfl ?_
        refine e_33 (f_10 (pc := 24) (e := (24, 33, 0, 0, 0, 0, 0, 25)) rfl) (by decide) ?_
        refine e_12 (f_10 (pc := 25) (e := (25, 12, 0, 0, 0, 0, 0, 26)) rfl) rfl ?_
        refine e_90 zA (f_10 (pc := 26) (e := (26, 90, 1, 1, 0, 51, 810, 29)) rfl) rfl (hp.1 0 rfl) rfl rfl ?_
        refine e_73 (f_10 (pc := 29) (e := (29, 73, 36, 0, 0, 0, 0, 32)) rfl) (fun c4 => ?_) (fun c4 => ?_)
        · replace F := F.1 c4
          refine e_0 (f_10 (pc := 36) (e := (36, 0, 0, 0, 0, 0, 0, 37)) rfl) (v := 0) rfl ?_
          exact e_121 (f_10 (pc := 37) (e := (37, 121, 0, 0, 0, 0, 0, 0)) rfl) (.inl rfl) F
        · replace F := F.2 c4
          refine e_0 (f_10 (pc := 32) (e := (32, 0, 1, 0, 0, 0, 0, 33)) rfl) (v := 1) rfl ?_
          refine e_80 (f_10 (pc := 33) (e := (33, 80, 37, 0, 0, 0, 0, 36)) rfl) ?_
          exact e_121 (f_10 (pc := 37) (e := (37, 121, 0, 0, 0, 0, 0, 0)) rfl) (.inr rfl) F

/-! ChairAlley$Land.isChair(I)Z -/
set_option maxRecDepth 20000 in
theorem B_11_0 (hT : yLT T) (hR : yLR R) {p : Nat} (hp : yAtLand T R p) {x1 : Int} (F : (x1 < 0 → K (some (yi 0)) (N, T, R, I)) ∧ (¬ (x1 < 0) → ((I p 5) ≤ x1 → K (some (yi 0)) (N, T, R, I)) ∧ (¬ ((I p 5) ≤ x1) → (8 ≤ x1 → K (some (yi 0)) (N, T, R, I)) ∧ (¬ (8 ≤ x1) → K (some (yi 1)) (N, T, R, I))))) :
    yW l zSS D cy zFk z d 11 bc bs K 0 0 0 [(0, yr (some p)), (1, yi x1)] [] (N, T, R, I) := by
  refine e_10 (f_11 (pc := 0) (e := (0, 10, 1, 0, 0, 0, 0, 1)) rfl) rfl ?_
  refine e_62 (f_11 (pc := 1) (e := (1, 62, 22, 0, 0, 0, 0, 4)) rfl) (fun c1 => ?_) (fun c1 => ?_)
  · replace F := F.1 c1
    refine e_0 (f_11 (pc := 22) (e := (22, 0, 0, 0, 0, 0, 0, 23)) rfl) (v := 0) rfl ?_
    exact e_121 (f_11 (pc := 23) (e := (23, 121, 0, 0, 0, 0, 0, 0)) rfl) (.inl rfl) F
  · replace F := F.2 c1
    refine e_10 (f_11 (pc := 4) (e := (4, 10, 1, 0, 0, 0, 0, 5)) rfl) rfl ?_
    refine e_12 (f_11 (pc := 5) (e := (5, 12, 0, 0, 0, 0, 0, 6)) rfl) rfl ?_
    refine e_90 zA (f_11 (pc := 6) (e := (6, 90, 1, 5, 0, 54, 811, 9)) rfl) rfl (hp.1 0 rfl) rfl rfl ?_
    refine e_73 (f_11 (pc := 9) (e := (9, 73, 22, 0, 0, 0, 0, 12)) rfl) (fun c2 => ?_) (fun c2 => ?_)
    · replace F := F.1 c2
      refine e_0 (f_11 (pc := 22) (e := (22, 0, 0, 0, 0, 0, 0, 23)) rfl) (v := 0) rfl ?_
      exact e_121 (f_11 (pc := 23) (e := (23, 121, 0, 0, 0, 0, 0, 0)) rfl) (.inl rfl) F
    · replace F := F.2 c2
      refine e_10 (f_11 (pc := 12) (e := (12, 10, 1, 0, 0, 0, 0, 13)) rfl) rfl ?_
      refine e_1 (f_11 (pc := 13) (e := (13, 1, 8, 0, 0, 0, 0, 15)) rfl) (v := 8) rfl ?_
      refine e_73 (f_11 (pc := 15) (e := (15, 73, 22, 0, 0, 0, 0, 18)) rfl) (fun c3 => ?_) (fun c3 => ?_)
      · replace F := F.1 c3
        refine e_0 (f_11 (pc := 22) (e := (22, 0, 0, 0, 0, 0, 0, 23)) rfl) (v := 0) rfl ?_
        exact e_121 (f_11 (pc := 23) (e := (23, 121, 0, 0, 0, 0, 0, 0)) rfl) (.inl rfl) F
      · replace F := F.2 c3
        refine e_0 (f_11 (pc := 18) (e := (18, 0, 1, 0, 0, 0, 0, 19)) rfl) (v := 1) rfl ?_
        refine e_80 (f_11 (pc := 19) (e := (19, 80, 23, 0, 0, 0, 0, 22)) rfl) ?_
        exact e_121 (f_11 (pc := 23) (e := (23, 121, 0, 0, 0, 0, 0, 0)) rfl) (.inr rfl) F

/-! ChairAlley$Land.isMarked(II)Z -/
set_option maxRecDepth 20000 in
theorem B_12_0 (hT : yLT T) (hR : yLR R) {p : Nat} (hp : yAtLand T R p) {x1 x2 : Int} (F : (x1 < 0 → K (some (yi 0)) (N, T, R, I)) ∧ (¬ (x1 < 0) → (100 ≤ x1 → K (some (yi 0)) (N, T, R, I)) ∧ (¬ (100 ≤ x1) → 0 ≤ x1 ∧ x1 < 100 ∧ (((yand (yshr (I (p + 1) x1.toNat) x2) 1) = 0 → K (some (yi 0)) (N, T, R, I)) ∧ (¬ ((yand (yshr (I (p + 1) x1.toNat) x2) 1) = 0) → K (some (yi 1)) (N, T, R, I)))))) :
    yW l zSS D cy zFk z d 12 bc bs K 0 0 0 [(0, yr (some p)), (1, yi x1), (2, yi x2)] [] (N, T, R, I) := by
  refine e_10 (f_12 (pc := 0) (e := (0, 10, 1, 0, 0, 0, 0, 1)) rfl) rfl ?_
  refine e_62 (f_12 (pc := 1) (e := (1, 62, 27, 0, 0, 0, 0, 4)) rfl) (fun c1 => ?_) (fun c1 => ?_)
  · replace F := F.1 c1
    refine e_0 (f_12 (pc := 27) (e := (27, 0, 0, 0, 0, 0, 0, 28)) rfl) (v := 0) rfl ?_
    exact e_121 (f_12 (pc := 28) (e := (28, 121, 0, 0, 0, 0, 0, 0)) rfl) (.inl rfl) F
  · replace F := F.2 c1
    refine e_10 (f_12 (pc := 4) (e := (4, 10, 1, 0, 0, 0, 0, 5)) rfl) rfl ?_
    refine e_1 (f_12 (pc := 5) (e := (5, 1, 100, 0, 0, 0, 0, 7)) rfl) (v := 100) rfl ?_
    refine e_73 (f_12 (pc := 7) (e := (7, 73, 27, 0, 0, 0, 0, 10)) rfl) (fun c2 => ?_) (fun c2 => ?_)
    · replace F := F.1 c2
      refine e_0 (f_12 (pc := 27) (e := (27, 0, 0, 0, 0, 0, 0, 28)) rfl) (v := 0) rfl ?_
      exact e_121 (f_12 (pc := 28) (e := (28, 121, 0, 0, 0, 0, 0, 0)) rfl) (.inl rfl) F
    · replace F := F.2 c2
      refine e_12 (f_12 (pc := 10) (e := (10, 12, 0, 0, 0, 0, 0, 11)) rfl) rfl ?_
      refine e_90r zA (f_12 (pc := 11) (e := (11, 90, 1, 2, 3, 9, 798, 14)) rfl) rfl (hp.1 0 rfl) rfl rfl (hp.2 2 rfl) ?_
      refine e_10 (f_12 (pc := 14) (e := (14, 10, 1, 0, 0, 0, 0, 15)) rfl) rfl ?_
      obtain ⟨b3, b4, F⟩ := F
      refine e_110 (f_12 (pc := 15) (e := (15, 110, 0, 0, 0, 0, 0, 16)) rfl) rfl (hp.1 1 rfl) b3 b4 ?_
      refine e_10 (f_12 (pc := 16) (e := (16, 10, 2, 0, 0, 0, 0, 17)) rfl) rfl ?_
      refine e_39 (f_12 (pc := 17) (e := (17, 39, 0, 0, 0, 0, 0, 18)) rfl) ?_
      refine e_0 (f_12 (pc := 18) (e := (18, 0, 1, 0, 0, 0, 0, 19)) rfl) (v := 1) rfl ?_
      refine e_35 (f_12 (pc := 19) (e := (19, 35, 0, 0, 0, 0, 0, 20)) rfl) ?_
      refine e_60 (f_12 (pc := 20) (e := (20, 60, 27, 0, 0, 0, 0, 23)) rfl) (fun c5 => ?_) (fun c5 => ?_)
      · replace F := F.1 c5
        refine e_0 (f_12 (pc := 27) (e := (27, 0, 0, 0, 0, 0, 0, 28)) rfl) (v := 0) rfl ?_
        exact e_121 (f_12 (pc := 28) (e := (28, 121, 0, 0, 0, 0, 0, 0)) rfl) (.inl rfl) F
      · replace F := F.2 c5
        refine e_0 (f_12 (pc := 23) (e := (23, 0, 1, 0, 0, 0, 0, 24)) rfl) (v := 1) rfl ?_
        refine e_80 (f_12 (pc := 24) (e := (24, 80, 28, 0, 0, 0, 0, 27)) rfl) ?_
        exact e_121 (f_12 (pc := 28) (e := (28, 121, 0, 0, 0, 0, 0, 0)) rfl) (.inr rfl) F

/-! ChairAlley$Land.passOpen(LChairAlley$Reader;I)Z -/
set_option maxRecDepth 20000 in
theorem B_13_0 (hT : yLT T) (hR : yLR R) {p : Nat} (hp : yAtLand T R p) {x2 : Int} (F : (x2 ≠ (-1) → yW l zSS D cy zFk z d 12 0 0 (fun r h' => ∃ r3 I2, r = some (yi r3) ∧ h' = (N, T, R, I2) ∧ ((r3 = 0 → yW l zSS D cy zFk z d 31 0 0 (fun r h' => ∃ I5, r = none ∧ h' = (N, T, R, I5) ∧ (K (some (yi 1)) (N, T, R, I5))) 0 0 0 [(0, yr (some 1))] [] (N, T, R, I2)) ∧ (¬ (r3 = 0) → yW l zSS D cy zFk z d 34 0 0 (fun r h' => ∃ r7 I6, r = some (yi r7) ∧ h' = (N, T, R, I6) ∧ ((r7 = 0 ∨ r7 = 1) ∧ K (some (yi r7)) (N, T, R, I6))) 0 0 0 [(0, yr (some 1)), (1, yi 5)] [] (N, T, R, I2)))) 0 0 0 [(0, yr (some p)), (1, yi x2), (2, yi 1)] [] (N, T, R, I)) ∧ (¬ (x2 ≠ (-1)) → K (some (yi 0)) (N, T, R, I))) :
    yW l zSS D cy zFk z (d + 1) 13 bc bs K 0 0 0 [(0, yr (some p)), (1, yr (some 1)), (2, yi x2)] [] (N, T, R, I) := by
  refine e_10 (f_13 (pc := 0) (e := (0, 10, 2, 0, 0, 0, 0, 1)) rfl) rfl ?_
  refine e_0 (f_13 (pc := 1) (e := (1, 0, 4294967295, 0, 0, 0, 0, 2)) rfl) (v := (-1)) rfl ?_
  refine e_71 (f_13 (pc := 2) (e := (2, 71, 7, 0, 0, 0, 0, 5)) rfl) (fun c1 => ?_) (fun c1 => ?_)
  · replace F := F.1 c1
    refine e_12 (f_13 (pc := 7) (e := (7, 12, 0, 0, 0, 0, 0, 8)) rfl) rfl ?_
    refine e_10 (f_13 (pc := 8) (e := (8, 10, 2, 0, 0, 0, 0, 9)) rfl) rfl ?_
    refine e_0 (f_13 (pc := 9) (e := (9, 0, 1, 0, 0, 0, 0, 10)) rfl) (v := 1) rfl ?_
    refine e_130 (f_13 (pc := 10) (e := (10, 130, 12, 0, 1, 74, 814, 13)) rfl) zA (as := [yr (some p), yi x2, yi 1]) (rest := []) rfl rfl rfl rfl (Nat.le_of_ble_eq_true rfl) (Nat.le_of_ble_eq_true rfl) ⟨_, _, _, rfl, (hp.1 0 rfl)⟩ (mc := 0) (ms := 0) (Nat.zero_le _) (Nat.zero_le _) ?_
    refine e_K ?_ F
    rintro r h' ⟨r3, I2, rfl, rfl, F⟩
    refine e_60 (f_13 (pc := 13) (e := (13, 60, 22, 0, 0, 0, 0, 16)) rfl) (fun c4 => ?_) (fun c4 => ?_)
    · replace F := F.1 c4
      refine e_12 (f_13 (pc := 22) (e := (22, 12, 1, 0, 0, 0, 0, 23)) rfl) rfl ?_
      refine e_130 (f_13 (pc := 23) (e := (23, 130, 31, 0, 3, 126, 816, 26)) rfl) zA (as := [yr (some 1)]) (rest := []) rfl rfl rfl rfl (Nat.le_of_ble_eq_true rfl) (Nat.le_of_ble_eq_true rfl) ⟨_, _, _, rfl, (hT 1 rfl)⟩ (mc := 0) (ms := 0) (Nat.zero_le _) (Nat.zero_le _) ?_
      refine e_K ?_ F
      rintro r h' ⟨I5, rfl, rfl, F⟩
      refine e_0 (f_13 (pc := 26) (e := (26, 0, 1, 0, 0, 0, 0, 27)) rfl) (v := 1) rfl ?_
      exact e_121 (f_13 (pc := 27) (e := (27, 121, 0, 0, 0, 0, 0, 0)) rfl) (.inr rfl) F
    · replace F := F.2 c4
      refine e_12 (f_13 (pc := 16) (e := (16, 12, 1, 0, 0, 0, 0, 17)) rfl) rfl ?_
      refine e_0 (f_13 (pc := 17) (e := (17, 0, 5, 0, 0, 0, 0, 18)) rfl) (v := 5) rfl ?_
      refine e_130 (f_13 (pc := 18) (e := (18, 130, 34, 0, 3, 98, 815, 21)) rfl) zA (as := [yr (some 1), yi 5]) (rest := []) rfl rfl rfl rfl (Nat.le_of_ble_eq_true rfl) (Nat.le_of_ble_eq_true rfl) ⟨_, _, _, rfl, (hT 1 rfl)⟩ (mc := 0) (ms := 0) (Nat.zero_le _) (Nat.zero_le _) ?_
      refine e_K ?_ F
      rintro r h' ⟨r7, I6, rfl, rfl, F⟩
      exact e_121 (f_13 (pc := 21) (e := (21, 121, 0, 0, 0, 0, 0, 22)) rfl) F.1 F.2
  · replace F := F.2 c1
    refine e_0 (f_13 (pc := 5) (e := (5, 0, 0, 0, 0, 0, 0, 6)) rfl) (v := 0) rfl ?_
    exact e_121 (f_13 (pc := 6) (e := (6, 121, 0, 0, 0, 0, 0, 7)) rfl) (.inl rfl) F

/-! ChairAlley$Land.read(LChairAlley$Reader;)I -/
set_option maxRecDepth 20000 in
theorem B_14_0 (hT : yLT T) (hR : yLR R) {p : Nat} (hp : yAtLand T R p) (F : yW l zSS D cy zFk z d 7 0 0 (fun r h' => ∃ I1, r = none ∧ h' = (N, T, R, I1) ∧ (yW l zSS D cy zFk z (d + 1) 14 bc bs K 0 0 6 [(0, yr (some p)), (1, yr (some 1)), (2, yi 0)] [] (N, T, R, I1))) 0 0 0 [(0, yr (some p))] [] (N, T, R, I)) :
    yW l zSS D cy zFk z (d + 1) 14 bc bs K 0 0 0 [(0, yr (some p)), (1, yr (some 1))] [] (N, T, R, I) := by
  refine e_12 (f_14 (pc := 0) (e := (0, 12, 0, 0, 0, 0, 0, 1)) rfl) rfl ?_
  refine e_130 (f_14 (pc := 1) (e := (1, 130, 7, 0, 1, 78, 817, 4)) rfl) zA (as := [yr (some p)]) (rest := []) rfl rfl rfl rfl (Nat.le_of_ble_eq_true rfl) (Nat.le_of_ble_eq_true rfl) ⟨_, _, _, rfl, (hp.1 0 rfl)⟩ (mc := 0) (ms := 0) (Nat.zero_le _) (Nat.zero_le _) ?_
  refine e_K ?_ F
  rintro r h' ⟨I1, rfl, rfl, F⟩
  refine e_0 (f_14 (pc := 4) (e := (4, 0, 0, 0, 0, 0, 0, 5)) rfl) (v := 0) rfl ?_
  refine e_20 (f_14 (pc := 5) (e := (5, 20, 2, 0, 0, 0, 0, 6)) rfl) ?_
  refine e_lo [0, 1, 2] rfl ?_
  exact F
set_option maxRecDepth 20000 in
theorem B_14_6 (hT : yLT T) (hR : yLR R) {p : Nat} (hp : yAtLand T R p) {x2 : Int} (F : ((I 1 5) = 0 → yW l zSS D cy zFk z d 33 0 0 (fun r h' => ∃ r3 I2, r = some (yi r3) ∧ h' = (N, T, R, I2) ∧ ((r3 = 0 → K (some (yi (-1))) (N, T, R, I2)) ∧ (¬ (r3 = 0) → K (some (yi x2)) (N, T, R, I2)))) 0 0 0 [(0, yr (some 1))] [] (N, T, R, I)) ∧ (¬ ((I 1 5) = 0) → (940 ≤ x2 → yW l zSS D cy zFk z d 33 0 0 (fun r h' => ∃ r7 I6, r = some (yi r7) ∧ h' = (N, T, R, I6) ∧ ((r7 = 0 → K (some (yi (-1))) (N, T, R, I6)) ∧ (¬ (r7 = 0) → K (some (yi x2)) (N, T, R, I6)))) 0 0 0 [(0, yr (some 1))] [] (N, T, R, I)) ∧ (¬ (940 ≤ x2) → yW l zSS D cy zFk z d 19 0 0 (fun r h' => ∃ r10 I9, r = some (yi r10) ∧ h' = (N, T, R, I9) ∧ ((r10 = 0 → K (some (yi (-1))) (N, T, R, I9)) ∧ (¬ (r10 = 0) → yW l zSS D cy zFk z d 43 0 0 (fun r h' => ∃ r13 I12, r = some (yi r13) ∧ h' = (N, T, R, I12) ∧ ((r13 ≠ 0 → yW l zSS D cy zFk z (d + 1) 14 bc bs K 0 0 6 [(0, yr (some p)), (1, yr (some 1)), (2, yi (yadd x2 1))] [] (N, T, R, I12)) ∧ (¬ (r13 ≠ 0) → K (some (yi (-1))) (N, T, R, I12)))) 0 0 0 [(0, yr (some 1)), (1, yi 59)] [] (N, T, R, I9)))) 0 0 0 [(0, yr (some p)), (1, yr (some 1))] [] (N, T, R, I)))) :
    yW l zSS D cy zFk z (d + 1) 14 bc bs K 0 0 6 [(0, yr (some p)), (1, yr (some 1)), (2, yi x2)] [] (N, T, R, I) := by
  refine e_12 (f_14 (pc := 6) (e := (6, 12, 1, 0, 0, 0, 0, 7)) rfl) rfl ?_
  refine e_90 zA (f_14 (pc := 7) (e := (7, 90, 3, 5, 0, 81, 818, 10)) rfl) rfl (hT 1 rfl) rfl rfl ?_
  refine e_60 (f_14 (pc := 10) (e := (10, 60, 45, 0, 0, 0, 0, 13)) rfl) (fun c1 => ?_) (fun c1 => ?_)
  · replace F := F.1 c1
    refine e_12 (f_14 (pc := 45) (e := (45, 12, 1, 0, 0, 0, 0, 46)) rfl) rfl ?_
    refine e_130 (f_14 (pc := 46) (e := (46, 130, 33, 0, 3, 94, 821, 49)) rfl) zA (as := [yr (some 1)]) (rest := []) rfl rfl rfl rfl (Nat.le_of_ble_eq_true rfl) (Nat.le_of_ble_eq_true rfl) ⟨_, _, _, rfl, (hT 1 rfl)⟩ (mc := 0) (ms := 0) (Nat.zero_le _) (Nat.zero_le _) ?_
    refine e_K ?_ F
    rintro r h' ⟨r3, I2, rfl, rfl, F⟩
    refine e_60 (f_14 (pc := 49) (e := (49, 60, 56, 0, 0, 0, 0, 52)) rfl) (fun c4 => ?_) (fun c4 => ?_)
    · replace F := F.1 c4
      refine e_0 (f_14 (pc := 56) (e := (56, 0, 4294967295, 0, 0, 0, 0, 57)) rfl) (v := (-1)) rfl ?_
      exact e_120 (f_14 (pc := 57) (e := (57, 120, 0, 0, 0, 0, 0, 0)) rfl) F
    · replace F := F.2 c4
      refine e_10 (f_14 (pc := 52) (e := (52, 10, 2, 0, 0, 0, 0, 53)) rfl) rfl ?_
      refine e_80 (f_14 (pc := 53) (e := (53, 80, 57, 0, 0, 0, 0, 56)) rfl) ?_
      exact e_120 (f_14 (pc := 57) (e := (57, 120, 0, 0, 0, 0, 0, 0)) rfl) F
  · replace F := F.2 c1
    refine e_10 (f_14 (pc := 13) (e := (13, 10, 2, 0, 0, 0, 0, 14)) rfl) rfl ?_
    refine e_2 (f_14 (pc := 14) (e := (14, 2, 940, 0, 0, 0, 0, 17)) rfl) (v := 940) rfl ?_
    refine e_73 (f_14 (pc := 17) (e := (17, 73, 45, 0, 0, 0, 0, 20)) rfl) (fun c5 => ?_) (fun c5 => ?_)
    · replace F := F.1 c5
      refine e_12 (f_14 (pc := 45) (e := (45, 12, 1, 0, 0, 0, 0, 46)) rfl) rfl ?_
      refine e_130 (f_14 (pc := 46) (e := (46, 130, 33, 0, 3, 94, 821, 49)) rfl) zA (as := [yr (some 1)]) (rest := []) rfl rfl rfl rfl (Nat.le_of_ble_eq_true rfl) (Nat.le_of_ble_eq_true rfl) ⟨_, _, _, rfl, (hT 1 rfl)⟩ (mc := 0) (ms := 0) (Nat.zero_le _) (Nat.zero_le _) ?_
      refine e_K ?_ F
      rintro r h' ⟨r7, I6, rfl, rfl, F⟩
      refine e_60 (f_14 (pc := 49) (e := (49, 60, 56, 0, 0, 0, 0, 52)) rfl) (fun c8 => ?_) (fun c8 => ?_)
      · replace F := F.1 c8
        refine e_0 (f_14 (pc := 56) (e := (56, 0, 4294967295, 0, 0, 0, 0, 57)) rfl) (v := (-1)) rfl ?_
        exact e_120 (f_14 (pc := 57) (e := (57, 120, 0, 0, 0, 0, 0, 0)) rfl) F
      · replace F := F.2 c8
        refine e_10 (f_14 (pc := 52) (e := (52, 10, 2, 0, 0, 0, 0, 53)) rfl) rfl ?_
        refine e_80 (f_14 (pc := 53) (e := (53, 80, 57, 0, 0, 0, 0, 56)) rfl) ?_
        exact e_120 (f_14 (pc := 57) (e := (57, 120, 0, 0, 0, 0, 0, 0)) rfl) F
    · replace F := F.2 c5
      refine e_12 (f_14 (pc := 20) (e := (20, 12, 0, 0, 0, 0, 0, 21)) rfl) rfl ?_
      refine e_12 (f_14 (pc := 21) (e := (21, 12, 1, 0, 0, 0, 0, 22)) rfl) rfl ?_
      refine e_130 (f_14 (pc := 22) (e := (22, 130, 19, 0, 1, 86, 819, 25)) rfl) zA (as := [yr (some p), yr (some 1)]) (rest := []) rfl rfl rfl rfl (Nat.le_of_ble_eq_true rfl) (Nat.le_of_ble_eq_true rfl) ⟨_, _, _, rfl, (hp.1 0 rfl)⟩ (mc := 0) (ms := 0) (Nat.zero_le _) (Nat.zero_le _) ?_
      refine e_K ?_ F
      rintro r h' ⟨r10, I9, rfl, rfl, F⟩
      refine e_60 (f_14 (pc := 25) (e := (25, 60, 37, 0, 0, 0, 0, 28)) rfl) (fun c11 => ?_) (fun c11 => ?_)
      · replace F := F.1 c11
        refine e_0 (f_14 (pc := 37) (e := (37, 0, 4294967295, 0, 0, 0, 0, 38)) rfl) (v := (-1)) rfl ?_
        exact e_120 (f_14 (pc := 38) (e := (38, 120, 0, 0, 0, 0, 0, 39)) rfl) F
      · replace F := F.2 c11
        refine e_12 (f_14 (pc := 28) (e := (28, 12, 1, 0, 0, 0, 0, 29)) rfl) rfl ?_
        refine e_1 (f_14 (pc := 29) (e := (29, 1, 59, 0, 0, 0, 0, 31)) rfl) (v := 59) rfl ?_
        refine e_130 (f_14 (pc := 31) (e := (31, 130, 43, 0, 3, 90, 820, 34)) rfl) zA (as := [yr (some 1), yi 59]) (rest := []) rfl rfl rfl rfl (Nat.le_of_ble_eq_true rfl) (Nat.le_of_ble_eq_true rfl) ⟨_, _, _, rfl, (hT 1 rfl)⟩ (mc := 0) (ms := 0) (Nat.zero_le _) (Nat.zero_le _) ?_
        refine e_K ?_ F
        rintro r h' ⟨r13, I12, rfl, rfl, F⟩
        refine e_61 (f_14 (pc := 34) (e := (34, 61, 39, 0, 0, 0, 0, 37)) rfl) (fun c14 => ?_) (fun c14 => ?_)
        · replace F := F.1 c14
          refine e_26 (f_14 (pc := 39) (e := (39, 26, 2, 1, 0, 0, 0, 42)) rfl) (w := 1) rfl rfl ?_
          refine e_80 (f_14 (pc := 42) (e := (42, 80, 6, 0, 0, 0, 0, 45)) rfl) ?_
          refine e_lo [0, 1, 2] rfl ?_
          exact F
        · replace F := F.2 c14
          refine e_0 (f_14 (pc := 37) (e := (37, 0, 4294967295, 0, 0, 0, 0, 38)) rfl) (v := (-1)) rfl ?_
          exact e_120 (f_14 (pc := 38) (e := (38, 120, 0, 0, 0, 0, 0, 39)) rfl) F

/-! ChairAlley$Land.readCell(LChairAlley$Reader;)I -/
set_option maxRecDepth 20000 in
theorem B_15_0 (hT : yLT T) (hR : yLR R) {p : Nat} (hp : yAtLand T R p) (F : yW l zSS D cy zFk z d 42 0 0 (fun r h' => ∃ r2 I1, r = some (yi r2) ∧ h' = (N, T, R, I1) ∧ ((r2 = (-1) → K (some (yi (-1))) (N, T, R, I1)) ∧ (¬ (r2 = (-1)) → yW l zSS D cy zFk z d 37 0 0 (fun r h' => ∃ r5 I4, r = some (yi r5) ∧ h' = (N, T, R, I4) ∧ ((r5 ≠ 0 → yW l zSS D cy zFk z d 10 0 0 (fun r h' => ∃ r8 I7, r = some (yi r8) ∧ h' = (N, T, R, I7) ∧ ((r8 = 0 → K (some (yi (-1))) (N, T, R, I7)) ∧ (¬ (r8 = 0) → K (some (yi (yadd (ymul 10 (I4 1 8)) r2))) (N, T, R, I7)))) 0 0 0 [(0, yr (some p)), (1, yi (yadd (ymul 10 (I4 1 8)) r2))] [] (N, T, R, I4)) ∧ (¬ (r5 ≠ 0) → K (some (yi (-1))) (N, T, R, I4)))) 0 0 0 [(0, yr (some 1)), (1, yi 0), (2, yi (ysub (I1 p 1) 1))] [] (N, T, R, I1)))) 0 0 0 [(0, yr (some 1)), (1, yi 0), (2, yi (ysub (I p 0) 1))] [] (N, T, R, I)) :
    yW l zSS D cy zFk z (d + 1) 15 bc bs K 0 0 0 [(0, yr (some p)), (1, yr (some 1))] [] (N, T, R, I) := by
  refine e_12 (f_15 (pc := 0) (e := (0, 12, 1, 0, 0, 0, 0, 1)) rfl) rfl ?_
  refine e_0 (f_15 (pc := 1) (e := (1, 0, 0, 0, 0, 0, 0, 2)) rfl) (v := 0) rfl ?_
  refine e_12 (f_15 (pc := 2) (e := (2, 12, 0, 0, 0, 0, 0, 3)) rfl) rfl ?_
  refine e_90 zA (f_15 (pc := 3) (e := (3, 90, 1, 0, 0, 47, 809, 6)) rfl) rfl (hp.1 0 rfl) rfl rfl ?_
  refine e_0 (f_15 (pc := 6) (e := (6, 0, 1, 0, 0, 0, 0, 7)) rfl) (v := 1) rfl ?_
  refine e_31 (f_15 (pc := 7) (e := (7, 31, 0, 0, 0, 0, 0, 8)) rfl) ?_
  refine e_130 (f_15 (pc := 8) (e := (8, 130, 42, 0, 3, 129, 822, 11)) rfl) zA (as := [yr (some 1), yi 0, yi _]) (rest := []) rfl rfl rfl rfl (Nat.le_of_ble_eq_true rfl) (Nat.le_of_ble_eq_true rfl) ⟨_, _, _, rfl, (hT 1 rfl)⟩ (mc := 0) (ms := 0) (Nat.zero_le _) (Nat.zero_le _) ?_
  refine e_K ?_ F
  rintro r h' ⟨r2, I1, rfl, rfl, F⟩
  refine e_20 (f_15 (pc := 11) (e := (11, 20, 2, 0, 0, 0, 0, 12)) rfl) ?_
  refine e_10 (f_15 (pc := 12) (e := (12, 10, 2, 0, 0, 0, 0, 13)) rfl) rfl ?_
  refine e_0 (f_15 (pc := 13) (e := (13, 0, 4294967295, 0, 0, 0, 0, 14)) rfl) (v := (-1)) rfl ?_
  refine e_70 (f_15 (pc := 14) (e := (14, 70, 31, 0, 0, 0, 0, 17)) rfl) (fun c3 => ?_) (fun c3 => ?_)
  · replace F := F.1 c3
    refine e_0 (f_15 (pc := 31) (e := (31, 0, 4294967295, 0, 0, 0, 0, 32)) rfl) (v := (-1)) rfl ?_
    exact e_120 (f_15 (pc := 32) (e := (32, 120, 0, 0, 0, 0, 0, 33)) rfl) F
  · replace F := F.2 c3
    refine e_12 (f_15 (pc := 17) (e := (17, 12, 1, 0, 0, 0, 0, 18)) rfl) rfl ?_
    refine e_0 (f_15 (pc := 18) (e := (18, 0, 0, 0, 0, 0, 0, 19)) rfl) (v := 0) rfl ?_
    refine e_12 (f_15 (pc := 19) (e := (19, 12, 0, 0, 0, 0, 0, 20)) rfl) rfl ?_
    refine e_90 zA (f_15 (pc := 20) (e := (20, 90, 1, 1, 0, 51, 810, 23)) rfl) rfl (hp.1 0 rfl) rfl rfl ?_
    refine e_0 (f_15 (pc := 23) (e := (23, 0, 1, 0, 0, 0, 0, 24)) rfl) (v := 1) rfl ?_
    refine e_31 (f_15 (pc := 24) (e := (24, 31, 0, 0, 0, 0, 0, 25)) rfl) ?_
    refine e_130 (f_15 (pc := 25) (e := (25, 130, 37, 0, 3, 132, 823, 28)) rfl) zA (as := [yr (some 1), yi 0, yi _]) (rest := []) rfl rfl rfl rfl (Nat.le_of_ble_eq_true rfl) (Nat.le_of_ble_eq_true rfl) ⟨_, _, _, rfl, (hT 1 rfl)⟩ (mc := 0) (ms := 0) (Nat.zero_le _) (Nat.zero_le _) ?_
    refine e_K ?_ F
    rintro r h' ⟨r5, I4, rfl, rfl, F⟩
    refine e_61 (f_15 (pc := 28) (e := (28, 61, 33, 0, 0, 0, 0, 31)) rfl) (fun c6 => ?_) (fun c6 => ?_)
    · replace F := F.1 c6
      refine e_1 (f_15 (pc := 33) (e := (33, 1, 10, 0, 0, 0, 0, 35)) rfl) (v := 10) rfl ?_
      refine e_12 (f_15 (pc := 35) (e := (35, 12, 1, 0, 0, 0, 0, 36)) rfl) rfl ?_
      refine e_90 zA (f_15 (pc := 36) (e := (36, 90, 3, 8, 0, 135, 824, 39)) rfl) rfl (hT 1 rfl) rfl rfl ?_
      refine e_32 (f_15 (pc := 39) (e := (39, 32, 0, 0, 0, 0, 0, 40)) rfl) ?_
      refine e_10 (f_15 (pc := 40) (e := (40, 10, 2, 0, 0, 0, 0, 41)) rfl) rfl ?_
      refine e_30 (f_15 (pc := 41) (e := (41, 30, 0, 0, 0, 0, 0, 42)) rfl) ?_
      refine e_20 (f_15 (pc := 42) (e := (42, 20, 3, 0, 0, 0, 0, 43)) rfl) ?_
      refine e_12 (f_15 (pc := 43) (e := (43, 12, 0, 0, 0, 0, 0, 44)) rfl) rfl ?_
      refine e_10 (f_15 (pc := 44) (e := (44, 10, 3, 0, 0, 0, 0, 45)) rfl) rfl ?_
      refine e_130 (f_15 (pc := 45) (e := (45, 130, 10, 0, 1, 66, 825, 48)) rfl) zA (as := [yr (some p), yi _]) (rest := []) rfl rfl rfl rfl (Nat.le_of_ble_eq_true rfl) (Nat.le_of_ble_eq_true rfl) ⟨_, _, _, rfl, (hp.1 0 rfl)⟩ (mc := 0) (ms := 0) (Nat.zero_le _) (Nat.zero_le _) ?_
      refine e_K ?_ F
      rintro r h' ⟨r8, I7, rfl, rfl, F⟩
      refine e_60 (f_15 (pc := 48) (e := (48, 60, 55, 0, 0, 0, 0, 51)) rfl) (fun c9 => ?_) (fun c9 => ?_)
      · replace F := F.1 c9
        refine e_0 (f_15 (pc := 55) (e := (55, 0, 4294967295, 0, 0, 0, 0, 56)) rfl) (v := (-1)) rfl ?_
        exact e_120 (f_15 (pc := 56) (e := (56, 120, 0, 0, 0, 0, 0, 0)) rfl) F
      · replace F := F.2 c9
        refine e_10 (f_15 (pc := 51) (e := (51, 10, 3, 0, 0, 0, 0, 52)) rfl) rfl ?_
        refine e_80 (f_15 (pc := 52) (e := (52, 80, 56, 0, 0, 0, 0, 55)) rfl) ?_
        exact e_120 (f_15 (pc := 56) (e := (56, 120, 0, 0, 0, 0, 0, 0)) rfl) F
    · replace F := F.2 c6
      refine e_0 (f_15 (pc := 31) (e := (31, 0, 4294967295, 0, 0, 0, 0, 32)) rfl) (v := (-1)) rfl ?_
      exact e_120 (f_15 (pc := 32) (e := (32, 120, 0, 0, 0, 0, 0, 33)) rfl) F

/-! ChairAlley$Land.readChair(LChairAlley$Reader;)Z -/
set_option maxRecDepth 20000 in
theorem B_16_0 (hT : yLT T) (hR : yLR R) {p : Nat} (hp : yAtLand T R p) (F : ((I p 5) < 0 → yW l zSS D cy zFk z (d + 1) 16 bc bs K 0 0 15 [(1, yr (some 1))] [] (N, T, R, I)) ∧ (¬ ((I p 5) < 0) → ((I p 5) < 8 → yW l zSS D cy zFk z d 31 0 0 (fun r h' => ∃ I3, r = none ∧ h' = (N, T, R, I3) ∧ (yW l zSS D cy zFk z d 36 0 0 (fun r h' => ∃ r5 I4, r = some (yi r5) ∧ h' = (N, T, R, I4) ∧ ((r5 ≠ 0 → yW l zSS D cy zFk z d 6 0 0 (fun r h' => ∃ r8 I7, r = some (yi r8) ∧ h' = (N, T, R, I7) ∧ ((r8 = (-1) → 0 ≤ (I p 5) ∧ (I p 5) < 8 ∧ (∀ I12, I12 = yU I7 (p + 4) ((I p 5).toNat) (I7 1 7) → (yW l zSS D cy zFk z d 31 0 0 (fun r h' => ∃ I13, r = none ∧ h' = (N, T, R, I13) ∧ (yW l zSS D cy zFk z d 15 0 0 (fun r h' => ∃ r15 I14, r = some (yi r15) ∧ h' = (N, T, R, I14) ∧ (0 ≤ (I p 5) ∧ (I p 5) < 8 ∧ (∀ I18, I18 = yU I14 (p + 5) ((I p 5).toNat) (ynar 1 r15) → (0 ≤ (I p 5) ∧ (I p 5) < 8 ∧ (yW l zSS D cy zFk z d 13 0 0 (fun r h' => ∃ r22 I21, r = some (yi r22) ∧ h' = (N, T, R, I21) ∧ ((r22 ≠ 0 → yW l zSS D cy zFk z d 42 0 0 (fun r h' => ∃ r25 I24, r = some (yi r25) ∧ h' = (N, T, R, I24) ∧ (0 ≤ (I p 5) ∧ (I p 5) < 8 ∧ (∀ I28, I28 = yU I24 (p + 7) ((I p 5).toNat) (ynar 1 r25) → (0 ≤ (I p 5) ∧ (I p 5) < 8 ∧ (((I28 (p + 7) (I p 5).toNat) ≠ (-1) → yW l zSS D cy zFk z d 42 0 0 (fun r h' => ∃ r33 I32, r = some (yi r33) ∧ h' = (N, T, R, I32) ∧ (yW l zSS D cy zFk z (d + 1) 16 bc bs K 0 0 132 [(0, yr (some p)), (1, yr (some 1)), (2, yi (I p 5))] [yi r33, yi (I p 5), yr (some (p + 8))] (N, T, R, I32))) 0 0 0 [(0, yr (some 1)), (1, yi 0), (2, yi 9)] [] (N, T, R, I28)) ∧ (¬ ((I28 (p + 7) (I p 5).toNat) ≠ (-1)) → yW l zSS D cy zFk z (d + 1) 16 bc bs K 0 0 132 [(0, yr (some p)), (1, yr (some 1)), (2, yi (I p 5))] [yi (-1), yi (I p 5), yr (some (p + 8))] (N, T, R, I28))))))) 0 0 0 [(0, yr (some 1)), (1, yi 0), (2, yi 9)] [] (N, T, R, I21)) ∧ (¬ (r22 ≠ 0) → K (some (yi 0)) (N, T, R, I21)))) 0 0 0 [(0, yr (some p)), (1, yr (some 1)), (2, yi (I18 (p + 5) (I p 5).toNat))] [] (N, T, R, I18)))))) 0 0 0 [(0, yr (some p)), (1, yr (some 1))] [] (N, T, R, I13))) 0 0 0 [(0, yr (some 1))] [] (N, T, R, I12)))) ∧ (¬ (r8 = (-1)) → yW l zSS D cy zFk z d 34 0 0 (fun r h' => ∃ r35 I34, r = some (yi r35) ∧ h' = (N, T, R, I34) ∧ ((r35 = 0 ∨ r35 = 1) ∧ K (some (yi r35)) (N, T, R, I34))) 0 0 0 [(0, yr (some 1)), (1, yi 3)] [] (N, T, R, I7)))) 0 0 0 [(0, yr (some p)), (1, yj (I4 1 7))] [] (N, T, R, I4)) ∧ (¬ (r5 ≠ 0) → K (some (yi 0)) (N, T, R, I4)))) 0 0 0 [(0, yr (some 1))] [] (N, T, R, I3))) 0 0 0 [(0, yr (some 1))] [] (N, T, R, I)) ∧ (¬ ((I p 5) < 8) → yW l zSS D cy zFk z (d + 1) 16 bc bs K 0 0 15 [(1, yr (some 1))] [] (N, T, R, I)))) :
    yW l zSS D cy zFk z (d + 1) 16 bc bs K 0 0 0 [(0, yr (some p)), (1, yr (some 1))] [] (N, T, R, I) := by
  refine e_12 (f_16 (pc := 0) (e := (0, 12, 0, 0, 0, 0, 0, 1)) rfl) rfl ?_
  refine e_90 zA (f_16 (pc := 1) (e := (1, 90, 1, 5, 0, 54, 811, 4)) rfl) rfl (hp.1 0 rfl) rfl rfl ?_
  refine e_20 (f_16 (pc := 4) (e := (4, 20, 2, 0, 0, 0, 0, 5)) rfl) ?_
  refine e_10 (f_16 (pc := 5) (e := (5, 10, 2, 0, 0, 0, 0, 6)) rfl) rfl ?_
  refine e_62 (f_16 (pc := 6) (e := (6, 62, 15, 0, 0, 0, 0, 9)) rfl) (fun c1 => ?_) (fun c1 => ?_)
  · replace F := F.1 c1
    refine e_lo [1] rfl ?_
    exact F
  · replace F := F.2 c1
    refine e_10 (f_16 (pc := 9) (e := (9, 10, 2, 0, 0, 0, 0, 10)) rfl) rfl ?_
    refine e_1 (f_16 (pc := 10) (e := (10, 1, 8, 0, 0, 0, 0, 12)) rfl) (v := 8) rfl ?_
    refine e_72 (f_16 (pc := 12) (e := (12, 72, 21, 0, 0, 0, 0, 15)) rfl) (fun c2 => ?_) (fun c2 => ?_)
    · replace F := F.1 c2
      refine e_12 (f_16 (pc := 21) (e := (21, 12, 1, 0, 0, 0, 0, 22)) rfl) rfl ?_
      refine e_130 (f_16 (pc := 22) (e := (22, 130, 31, 0, 3, 126, 816, 25)) rfl) zA (as := [yr (some 1)]) (rest := []) rfl rfl rfl rfl (Nat.le_of_ble_eq_true rfl) (Nat.le_of_ble_eq_true rfl) ⟨_, _, _, rfl, (hT 1 rfl)⟩ (mc := 0) (ms := 0) (Nat.zero_le _) (Nat.zero_le _) ?_
      refine e_K ?_ F
      rintro r h' ⟨I3, rfl, rfl, F⟩
      refine e_12 (f_16 (pc := 25) (e := (25, 12, 1, 0, 0, 0, 0, 26)) rfl) rfl ?_
      refine e_130 (f_16 (pc := 26) (e := (26, 130, 36, 0, 3, 146, 826, 29)) rfl) zA (as := [yr (some 1)]) (rest := []) rfl rfl rfl rfl (Nat.le_of_ble_eq_true rfl) (Nat.le_of_ble_eq_true rfl) ⟨_, _, _, rfl, (hT 1 rfl)⟩ (mc := 0) (ms := 0) (Nat.zero_le _) (Nat.zero_le _) ?_
      refine e_K ?_ F
      rintro r h' ⟨r5, I4, rfl, rfl, F⟩
      refine e_61 (f_16 (pc := 29) (e := (29, 61, 34, 0, 0, 0, 0, 32)) rfl) (fun c6 => ?_) (fun c6 => ?_)
      · replace F := F.1 c6
        refine e_12 (f_16 (pc := 34) (e := (34, 12, 0, 0, 0, 0, 0, 35)) rfl) rfl ?_
        refine e_12 (f_16 (pc := 35) (e := (35, 12, 1, 0, 0, 0, 0, 36)) rfl) rfl ?_
        refine e_90 zA (f_16 (pc := 36) (e := (36, 90, 3, 7, 1, 149, 827, 39)) rfl) rfl (hT 1 rfl) rfl rfl ?_
        refine e_130 (f_16 (pc := 39) (e := (39, 130, 6, 0, 1, 153, 828, 42)) rfl) zA (as := [yr (some p), yj _]) (rest := []) rfl rfl rfl rfl (Nat.le_of_ble_eq_true rfl) (Nat.le_of_ble_eq_true rfl) ⟨_, _, _, rfl, (hp.1 0 rfl)⟩ (mc := 0) (ms := 0) (Nat.zero_le _) (Nat.zero_le _) ?_
        refine e_K ?_ F
        rintro r h' ⟨r8, I7, rfl, rfl, F⟩
        refine e_0 (f_16 (pc := 42) (e := (42, 0, 4294967295, 0, 0, 0, 0, 43)) rfl) (v := (-1)) rfl ?_
        refine e_70 (f_16 (pc := 43) (e := (43, 70, 52, 0, 0, 0, 0, 46)) rfl) (fun c9 => ?_) (fun c9 => ?_)
        · replace F := F.1 c9
          refine e_12 (f_16 (pc := 52) (e := (52, 12, 0, 0, 0, 0, 0, 53)) rfl) rfl ?_
          refine e_90r zA (f_16 (pc := 53) (e := (53, 90, 1, 6, 3, 21, 801, 56)) rfl) rfl (hp.1 0 rfl) rfl rfl (hp.2 6 rfl) ?_
          refine e_10 (f_16 (pc := 56) (e := (56, 10, 2, 0, 0, 0, 0, 57)) rfl) rfl ?_
          refine e_12 (f_16 (pc := 57) (e := (57, 12, 1, 0, 0, 0, 0, 58)) rfl) rfl ?_
          refine e_90 zA (f_16 (pc := 58) (e := (58, 90, 3, 7, 1, 149, 827, 61)) rfl) rfl (hT 1 rfl) rfl rfl ?_
          obtain ⟨b10, b11, F⟩ := F
          refine e_115 (f_16 (pc := 61) (e := (61, 115, 0, 0, 0, 0, 0, 62)) rfl) rfl (hp.1 4 rfl) b10 b11 ?_
          replace F := F _ rfl
          refine e_12 (f_16 (pc := 62) (e := (62, 12, 1, 0, 0, 0, 0, 63)) rfl) rfl ?_
          refine e_130 (f_16 (pc := 63) (e := (63, 130, 31, 0, 3, 126, 816, 66)) rfl) zA (as := [yr (some 1)]) (rest := []) rfl rfl rfl rfl (Nat.le_of_ble_eq_true rfl) (Nat.le_of_ble_eq_true rfl) ⟨_, _, _, rfl, (hT 1 rfl)⟩ (mc := 0) (ms := 0) (Nat.zero_le _) (Nat.zero_le _) ?_
          refine e_K ?_ F
          rintro r h' ⟨I13, rfl, rfl, F⟩
          refine e_12 (f_16 (pc := 66) (e := (66, 12, 0, 0, 0, 0, 0, 67)) rfl) rfl ?_
          refine e_90r zA (f_16 (pc := 67) (e := (67, 90, 1, 7, 3, 25, 802, 70)) rfl) rfl (hp.1 0 rfl) rfl rfl (hp.2 7 rfl) ?_
          refine e_10 (f_16 (pc := 70) (e := (70, 10, 2, 0, 0, 0, 0, 71)) rfl) rfl ?_
          refine e_12 (f_16 (pc := 71) (e := (71, 12, 0, 0, 0, 0, 0, 72)) rfl) rfl ?_
          refine e_12 (f_16 (pc := 72) (e := (72, 12, 1, 0, 0, 0, 0, 73)) rfl) rfl ?_
          refine e_130 (f_16 (pc := 73) (e := (73, 130, 15, 0, 1, 138, 829, 76)) rfl) zA (as := [yr (some p), yr (some 1)]) (rest := [yi _, yr (some (p + 5))]) rfl rfl rfl rfl (Nat.le_of_ble_eq_true rfl) (Nat.le_of_ble_eq_true rfl) ⟨_, _, _, rfl, (hp.1 0 rfl)⟩ (mc := 0) (ms := 0) (Nat.zero_le _) (Nat.zero_le _) ?_
          refine e_K ?_ F
          rintro r h' ⟨r15, I14, rfl, rfl, F⟩
          obtain ⟨b16, b17, F⟩ := F
          refine e_111 (f_16 (pc := 76) (e := (76, 111, 0, 0, 0, 0, 0, 77)) rfl) rfl (hp.1 5 rfl) b16 b17 ?_
          replace F := F _ rfl
          refine e_12 (f_16 (pc := 77) (e := (77, 12, 0, 0, 0, 0, 0, 78)) rfl) rfl ?_
          refine e_12 (f_16 (pc := 78) (e := (78, 12, 1, 0, 0, 0, 0, 79)) rfl) rfl ?_
          refine e_12 (f_16 (pc := 79) (e := (79, 12, 0, 0, 0, 0, 0, 80)) rfl) rfl ?_
          refine e_90r zA (f_16 (pc := 80) (e := (80, 90, 1, 7, 3, 25, 802, 83)) rfl) rfl (hp.1 0 rfl) rfl rfl (hp.2 7 rfl) ?_
          refine e_10 (f_16 (pc := 83) (e := (83, 10, 2, 0, 0, 0, 0, 84)) rfl) rfl ?_
          obtain ⟨b19, b20, F⟩ := F
          refine e_110 (f_16 (pc := 84) (e := (84, 110, 0, 0, 0, 0, 0, 85)) rfl) rfl (hp.1 5 rfl) b19 b20 ?_
          refine e_130 (f_16 (pc := 85) (e := (85, 130, 13, 0, 1, 157, 830, 88)) rfl) zA (as := [yr (some p), yr (some 1), yi _]) (rest := []) rfl rfl rfl rfl (Nat.le_of_ble_eq_true rfl) (Nat.le_of_ble_eq_true rfl) ⟨_, _, _, rfl, (hp.1 0 rfl)⟩ (mc := 0) (ms := 0) (Nat.zero_le _) (Nat.zero_le _) ?_
          refine e_K ?_ F
          rintro r h' ⟨r22, I21, rfl, rfl, F⟩
          refine e_61 (f_16 (pc := 88) (e := (88, 61, 93, 0, 0, 0, 0, 91)) rfl) (fun c23 => ?_) (fun c23 => ?_)
          · replace F := F.1 c23
            refine e_12 (f_16 (pc := 93) (e := (93, 12, 0, 0, 0, 0, 0, 94)) rfl) rfl ?_
            refine e_90r zA (f_16 (pc := 94) (e := (94, 90, 1, 9, 3, 31, 804, 97)) rfl) rfl (hp.1 0 rfl) rfl rfl (hp.2 9 rfl) ?_
            refine e_10 (f_16 (pc := 97) (e := (97, 10, 2, 0, 0, 0, 0, 98)) rfl) rfl ?_
            refine e_12 (f_16 (pc := 98) (e := (98, 12, 1, 0, 0, 0, 0, 99)) rfl) rfl ?_
            refine e_0 (f_16 (pc := 99) (e := (99, 0, 0, 0, 0, 0, 0, 100)) rfl) (v := 0) rfl ?_
            refine e_1 (f_16 (pc := 100) (e := (100, 1, 9, 0, 0, 0, 0, 102)) rfl) (v := 9) rfl ?_
            refine e_130 (f_16 (pc := 102) (e := (102, 130, 42, 0, 3, 129, 822, 105)) rfl) zA (as := [yr (some 1), yi 0, yi 9]) (rest := [yi _, yr (some (p + 7))]) rfl rfl rfl rfl (Nat.le_of_ble_eq_true rfl) (Nat.le_of_ble_eq_true rfl) ⟨_, _, _, rfl, (hT 1 rfl)⟩ (mc := 0) (ms := 0) (Nat.zero_le _) (Nat.zero_le _) ?_
            refine e_K ?_ F
            rintro r h' ⟨r25, I24, rfl, rfl, F⟩
            obtain ⟨b26, b27, F⟩ := F
            refine e_111 (f_16 (pc := 105) (e := (105, 111, 0, 0, 0, 0, 0, 106)) rfl) rfl (hp.1 7 rfl) b26 b27 ?_
            replace F := F _ rfl
            refine e_12 (f_16 (pc := 106) (e := (106, 12, 0, 0, 0, 0, 0, 107)) rfl) rfl ?_
            refine e_90r zA (f_16 (pc := 107) (e := (107, 90, 1, 10, 3, 34, 805, 110)) rfl) rfl (hp.1 0 rfl) rfl rfl (hp.2 10 rfl) ?_
            refine e_10 (f_16 (pc := 110) (e := (110, 10, 2, 0, 0, 0, 0, 111)) rfl) rfl ?_
            refine e_12 (f_16 (pc := 111) (e := (111, 12, 0, 0, 0, 0, 0, 112)) rfl) rfl ?_
            refine e_90r zA (f_16 (pc := 112) (e := (112, 90, 1, 9, 3, 31, 804, 115)) rfl) rfl (hp.1 0 rfl) rfl rfl (hp.2 9 rfl) ?_
            refine e_10 (f_16 (pc := 115) (e := (115, 10, 2, 0, 0, 0, 0, 116)) rfl) rfl ?_
            obtain ⟨b29, b30, F⟩ := F
            refine e_110 (f_16 (pc := 116) (e := (116, 110, 0, 0, 0, 0, 0, 117)) rfl) rfl (hp.1 7 rfl) b29 b30 ?_
            refine e_0 (f_16 (pc := 117) (e := (117, 0, 4294967295, 0, 0, 0, 0, 118)) rfl) (v := (-1)) rfl ?_
            refine e_71 (f_16 (pc := 118) (e := (118, 71, 125, 0, 0, 0, 0, 121)) rfl) (fun c31 => ?_) (fun c31 => ?_)
            · replace F := F.1 c31
              refine e_12 (f_16 (pc := 125) (e := (125, 12, 1, 0, 0, 0, 0, 126)) rfl) rfl ?_
              refine e_0 (f_16 (pc := 126) (e := (126, 0, 0, 0, 0, 0, 0, 127)) rfl) (v := 0) rfl ?_
              refine e_1 (f_16 (pc := 127) (e := (127, 1, 9, 0, 0, 0, 0, 129)) rfl) (v := 9) rfl ?_
              refine e_130 (f_16 (pc := 129) (e := (129, 130, 42, 0, 3, 129, 822, 132)) rfl) zA (as := [yr (some 1), yi 0, yi 9]) (rest := [yi _, yr (some (p + 8))]) rfl rfl rfl rfl (Nat.le_of_ble_eq_true rfl) (Nat.le_of_ble_eq_true rfl) ⟨_, _, _, rfl, (hT 1 rfl)⟩ (mc := 0) (ms := 0) (Nat.zero_le _) (Nat.zero_le _) ?_
              refine e_K ?_ F
              rintro r h' ⟨r33, I32, rfl, rfl, F⟩
              refine e_lo [0, 1, 2] rfl ?_
              exact F
            · replace F := F.2 c31
              refine e_0 (f_16 (pc := 121) (e := (121, 0, 4294967295, 0, 0, 0, 0, 122)) rfl) (v := (-1)) rfl ?_
              refine e_80 (f_16 (pc := 122) (e := (122, 80, 132, 0, 0, 0, 0, 125)) rfl) ?_
              refine e_lo [0, 1, 2] rfl ?_
              exact F
          · replace F := F.2 c23
            refine e_0 (f_16 (pc := 91) (e := (91, 0, 0, 0, 0, 0, 0, 92)) rfl) (v := 0) rfl ?_
            exact e_121 (f_16 (pc := 92) (e := (92, 121, 0, 0, 0, 0, 0, 93)) rfl) (.inl rfl) F
        · replace F := F.2 c9
          refine e_12 (f_16 (pc := 46) (e := (46, 12, 1, 0, 0, 0, 0, 47)) rfl) rfl ?_
          refine e_0 (f_16 (pc := 47) (e := (47, 0, 3, 0, 0, 0, 0, 48)) rfl) (v := 3) rfl ?_
          refine e_130 (f_16 (pc := 48) (e := (48, 130, 34, 0, 3, 98, 815, 51)) rfl) zA (as := [yr (some 1), yi 3]) (rest := []) rfl rfl rfl rfl (Nat.le_of_ble_eq_true rfl) (Nat.le_of_ble_eq_true rfl) ⟨_, _, _, rfl, (hT 1 rfl)⟩ (mc := 0) (ms := 0) (Nat.zero_le _) (Nat.zero_le _) ?_
          refine e_K ?_ F
          rintro r h' ⟨r35, I34, rfl, rfl, F⟩
          exact e_121 (f_16 (pc := 51) (e := (51, 121, 0, 0, 0, 0, 0, 52)) rfl) F.1 F.2
      · replace F := F.2 c6
        refine e_0 (f_16 (pc := 32) (e := (32, 0, 0, 0, 0, 0, 0, 33)) rfl) (v := 0) rfl ?_
        exact e_121 (f_16 (pc := 33) (e := (33, 121, 0, 0, 0, 0, 0, 34)) rfl) (.inl rfl) F
    · replace F := F.2 c2
      refine e_lo [1] rfl ?_
      exact F
set_option maxRecDepth 20000 in
theorem B_16_15 (hT : yLT T) (hR : yLR R) {p : Nat} (hp : yAtLand T R p) (F : yW l zSS D cy zFk z d 34 0 0 (fun r h' => ∃ r2 I1, r = some (yi r2) ∧ h' = (N, T, R, I1) ∧ ((r2 = 0 ∨ r2 = 1) ∧ K (some (yi r2)) (N, T, R, I1))) 0 0 0 [(0, yr (some 1)), (1, yi 4)] [] (N, T, R, I)) :
    yW l zSS D cy zFk z (d + 1) 16 bc bs K 0 0 15 [(1, yr (some 1))] [] (N, T, R, I) := by
  refine e_12 (f_16 (pc := 15) (e := (15, 12, 1, 0, 0, 0, 0, 16)) rfl) rfl ?_
  refine e_0 (f_16 (pc := 16) (e := (16, 0, 4, 0, 0, 0, 0, 17)) rfl) (v := 4) rfl ?_
  refine e_130 (f_16 (pc := 17) (e := (17, 130, 34, 0, 3, 98, 815, 20)) rfl) zA (as := [yr (some 1), yi 4]) (rest := []) rfl rfl rfl rfl (Nat.le_of_ble_eq_true rfl) (Nat.le_of_ble_eq_true rfl) ⟨_, _, _, rfl, (hT 1 rfl)⟩ (mc := 0) (ms := 0) (Nat.zero_le _) (Nat.zero_le _) ?_
  refine e_K ?_ F
  rintro r h' ⟨r2, I1, rfl, rfl, F⟩
  exact e_121 (f_16 (pc := 20) (e := (20, 121, 0, 0, 0, 0, 0, 21)) rfl) F.1 F.2
set_option maxRecDepth 20000 in
theorem B_16_132 (hT : yLT T) (hR : yLR R) {p : Nat} (hp : yAtLand T R p) {x2 t0 t1 : Int} (F : 0 ≤ t1 ∧ t1 < 8 ∧ (∀ I3, I3 = yU I (p + 8) t1.toNat (ynar 1 t0) → (0 ≤ x2 ∧ x2 < 8 ∧ (((I3 (p + 8) x2.toNat) ≠ (-1) → yW l zSS D cy zFk z d 15 0 0 (fun r h' => ∃ r8 I7, r = some (yi r8) ∧ h' = (N, T, R, I7) ∧ (yW l zSS D cy zFk z (d + 1) 16 bc bs K 0 0 157 [(0, yr (some p)), (1, yr (some 1)), (2, yi x2)] [yi r8, yi x2, yr (some (p + 6))] (N, T, R, I7))) 0 0 0 [(0, yr (some p)), (1, yr (some 1))] [] (N, T, R, I3)) ∧ (¬ ((I3 (p + 8) x2.toNat) ≠ (-1)) → yW l zSS D cy zFk z (d + 1) 16 bc bs K 0 0 157 [(0, yr (some p)), (1, yr (some 1)), (2, yi x2)] [yi (-1), yi x2, yr (some (p + 6))] (N, T, R, I3)))))) :
    yW l zSS D cy zFk z (d + 1) 16 bc bs K 0 0 132 [(0, yr (some p)), (1, yr (some 1)), (2, yi x2)] [yi t0, yi t1, yr (some (p + 8))] (N, T, R, I) := by
  obtain ⟨b1, b2, F⟩ := F
  refine e_111 (f_16 (pc := 132) (e := (132, 111, 0, 0, 0, 0, 0, 133)) rfl) rfl (hp.1 8 rfl) b1 b2 ?_
  replace F := F _ rfl
  refine e_12 (f_16 (pc := 133) (e := (133, 12, 0, 0, 0, 0, 0, 134)) rfl) rfl ?_
  refine e_90r zA (f_16 (pc := 134) (e := (134, 90, 1, 8, 3, 28, 803, 137)) rfl) rfl (hp.1 0 rfl) rfl rfl (hp.2 8 rfl) ?_
  refine e_10 (f_16 (pc := 137) (e := (137, 10, 2, 0, 0, 0, 0, 138)) rfl) rfl ?_
  refine e_12 (f_16 (pc := 138) (e := (138, 12, 0, 0, 0, 0, 0, 139)) rfl) rfl ?_
  refine e_90r zA (f_16 (pc := 139) (e := (139, 90, 1, 10, 3, 34, 805, 142)) rfl) rfl (hp.1 0 rfl) rfl rfl (hp.2 10 rfl) ?_
  refine e_10 (f_16 (pc := 142) (e := (142, 10, 2, 0, 0, 0, 0, 143)) rfl) rfl ?_
  obtain ⟨b4, b5, F⟩ := F
  refine e_110 (f_16 (pc := 143) (e := (143, 110, 0, 0, 0, 0, 0, 144)) rfl) rfl (hp.1 8 rfl) b4 b5 ?_
  refine e_0 (f_16 (pc := 144) (e := (144, 0, 4294967295, 0, 0, 0, 0, 145)) rfl) (v := (-1)) rfl ?_
  refine e_71 (f_16 (pc := 145) (e := (145, 71, 152, 0, 0, 0, 0, 148)) rfl) (fun c6 => ?_) (fun c6 => ?_)
  · replace F := F.1 c6
    refine e_12 (f_16 (pc := 152) (e := (152, 12, 0, 0, 0, 0, 0, 153)) rfl) rfl ?_
    refine e_12 (f_16 (pc := 153) (e := (153, 12, 1, 0, 0, 0, 0, 154)) rfl) rfl ?_
    refine e_130 (f_16 (pc := 154) (e := (154, 130, 15, 0, 1, 138, 829, 157)) rfl) zA (as := [yr (some p), yr (some 1)]) (rest := [yi x2, yr (some (p + 6))]) rfl rfl rfl rfl (Nat.le_of_ble_eq_true rfl) (Nat.le_of_ble_eq_true rfl) ⟨_, _, _, rfl, (hp.1 0 rfl)⟩ (mc := 0) (ms := 0) (Nat.zero_le _) (Nat.zero_le _) ?_
    refine e_K ?_ F
    rintro r h' ⟨r8, I7, rfl, rfl, F⟩
    refine e_lo [0, 1, 2] rfl ?_
    exact F
  · replace F := F.2 c6
    refine e_0 (f_16 (pc := 148) (e := (148, 0, 4294967295, 0, 0, 0, 0, 149)) rfl) (v := (-1)) rfl ?_
    refine e_80 (f_16 (pc := 149) (e := (149, 80, 157, 0, 0, 0, 0, 152)) rfl) ?_
    refine e_lo [0, 1, 2] rfl ?_
    exact F
set_option maxRecDepth 20000 in
theorem B_16_157 (hT : yLT T) (hR : yLR R) {p : Nat} (hp : yAtLand T R p) {x2 t0 t1 : Int} (F : 0 ≤ t1 ∧ t1 < 8 ∧ (∀ I3, I3 = yU I (p + 6) t1.toNat (ynar 1 t0) → (∀ I4, I4 = yU I3 p 5 (yadd x2 1) → (0 ≤ x2 ∧ x2 < 8 ∧ (yW l zSS D cy zFk z d 13 0 0 (fun r h' => ∃ r8 I7, r = some (yi r8) ∧ h' = (N, T, R, I7) ∧ ((r8 = 0 ∨ r8 = 1) ∧ K (some (yi r8)) (N, T, R, I7))) 0 0 0 [(0, yr (some p)), (1, yr (some 1)), (2, yi (I4 (p + 6) x2.toNat))] [] (N, T, R, I4)))))) :
    yW l zSS D cy zFk z (d + 1) 16 bc bs K 0 0 157 [(0, yr (some p)), (1, yr (some 1)), (2, yi x2)] [yi t0, yi t1, yr (some (p + 6))] (N, T, R, I) := by
  obtain ⟨b1, b2, F⟩ := F
  refine e_111 (f_16 (pc := 157) (e := (157, 111, 0, 0, 0, 0, 0, 158)) rfl) rfl (hp.1 6 rfl) b1 b2 ?_
  replace F := F _ rfl
  refine e_12 (f_16 (pc := 158) (e := (158, 12, 0, 0, 0, 0, 0, 159)) rfl) rfl ?_
  refine e_10 (f_16 (pc := 159) (e := (159, 10, 2, 0, 0, 0, 0, 160)) rfl) rfl ?_
  refine e_0 (f_16 (pc := 160) (e := (160, 0, 1, 0, 0, 0, 0, 161)) rfl) (v := 1) rfl ?_
  refine e_30 (f_16 (pc := 161) (e := (161, 30, 0, 0, 0, 0, 0, 162)) rfl) ?_
  refine e_91 zA (f_16 (pc := 162) (e := (162, 91, 1, 5, 0, 54, 811, 165)) rfl) rfl (hp.1 0 rfl) rfl rfl trivial ?_
  replace F := F _ rfl
  refine e_12 (f_16 (pc := 165) (e := (165, 12, 0, 0, 0, 0, 0, 166)) rfl) rfl ?_
  refine e_12 (f_16 (pc := 166) (e := (166, 12, 1, 0, 0, 0, 0, 167)) rfl) rfl ?_
  refine e_12 (f_16 (pc := 167) (e := (167, 12, 0, 0, 0, 0, 0, 168)) rfl) rfl ?_
  refine e_90r zA (f_16 (pc := 168) (e := (168, 90, 1, 8, 3, 28, 803, 171)) rfl) rfl (hp.1 0 rfl) rfl rfl (hp.2 8 rfl) ?_
  refine e_10 (f_16 (pc := 171) (e := (171, 10, 2, 0, 0, 0, 0, 172)) rfl) rfl ?_
  obtain ⟨b5, b6, F⟩ := F
  refine e_110 (f_16 (pc := 172) (e := (172, 110, 0, 0, 0, 0, 0, 173)) rfl) rfl (hp.1 6 rfl) b5 b6 ?_
  refine e_130 (f_16 (pc := 173) (e := (173, 130, 13, 0, 1, 157, 830, 176)) rfl) zA (as := [yr (some p), yr (some 1), yi _]) (rest := []) rfl rfl rfl rfl (Nat.le_of_ble_eq_true rfl) (Nat.le_of_ble_eq_true rfl) ⟨_, _, _, rfl, (hp.1 0 rfl)⟩ (mc := 0) (ms := 0) (Nat.zero_le _) (Nat.zero_le _) ?_
  refine e_K ?_ F
  rintro r h' ⟨r8, I7, rfl, rfl, F⟩
  exact e_121 (f_16 (pc := 176) (e := (176, 121, 0, 0, 0, 0, 0, 0)) rfl) F.1 F.2

/-! ChairAlley$Land.readLane(LChairAlley$Reader;)Z -/
set_option maxRecDepth 20000 in
theorem B_17_0 (hT : yLT T) (hR : yLR R) {p : Nat} (hp : yAtLand T R p) (F : ((I (p + 3) 4) < 20 → yW l zSS D cy zFk z d 31 0 0 (fun r h' => ∃ I2, r = none ∧ h' = (N, T, R, I2) ∧ (yW l zSS D cy zFk z d 15 0 0 (fun r h' => ∃ r4 I3, r = some (yi r4) ∧ h' = (N, T, R, I3) ∧ (yW l zSS D cy zFk z d 10 0 0 (fun r h' => ∃ r6 I5, r = some (yi r6) ∧ h' = (N, T, R, I5) ∧ ((r6 ≠ 0 → 0 ≤ r4 ∧ r4 < 100 ∧ (((I5 (p + 2) r4.toNat) = (-1) → yW l zSS D cy zFk z d 31 0 0 (fun r h' => ∃ I11, r = none ∧ h' = (N, T, R, I11) ∧ (yW l zSS D cy zFk z d 41 0 0 (fun r h' => ∃ r13 I12, r = some (yi r13) ∧ h' = (N, T, R, I12) ∧ (0 ≤ r4 ∧ r4 < 100 ∧ (∀ I16, I16 = yU I12 (p + 2) r4.toNat (ynar 1 r13) → (∀ I17, I17 = yU I16 (p + 3) 4 (ynar 1 (yadd (I16 (p + 3) 4) 1)) → (0 ≤ r4 ∧ r4 < 100 ∧ (((I17 (p + 2) r4.toNat) = (-1) → K (some (yi 0)) (N, T, R, I17)) ∧ (¬ ((I17 (p + 2) r4.toNat) = (-1)) → K (some (yi 1)) (N, T, R, I17)))))))) 0 0 0 [(0, yr (some 1))] [] (N, T, R, I11))) 0 0 0 [(0, yr (some 1))] [] (N, T, R, I5)) ∧ (¬ ((I5 (p + 2) r4.toNat) = (-1)) → yW l zSS D cy zFk z d 34 0 0 (fun r h' => ∃ r22 I21, r = some (yi r22) ∧ h' = (N, T, R, I21) ∧ ((r22 = 0 ∨ r22 = 1) ∧ K (some (yi r22)) (N, T, R, I21))) 0 0 0 [(0, yr (some 1)), (1, yi 3)] [] (N, T, R, I5)))) ∧ (¬ (r6 ≠ 0) → K (some (yi 0)) (N, T, R, I5)))) 0 0 0 [(0, yr (some p)), (1, yi r4)] [] (N, T, R, I3))) 0 0 0 [(0, yr (some p)), (1, yr (some 1))] [] (N, T, R, I2))) 0 0 0 [(0, yr (some 1))] [] (N, T, R, I)) ∧ (¬ ((I (p + 3) 4) < 20) → yW l zSS D cy zFk z d 34 0 0 (fun r h' => ∃ r24 I23, r = some (yi r24) ∧ h' = (N, T, R, I23) ∧ ((r24 = 0 ∨ r24 = 1) ∧ K (some (yi r24)) (N, T, R, I23))) 0 0 0 [(0, yr (some 1)), (1, yi 4)] [] (N, T, R, I))) :
    yW l zSS D cy zFk z (d + 1) 17 bc bs K 0 0 0 [(0, yr (some p)), (1, yr (some 1))] [] (N, T, R, I) := by
  refine e_12 (f_17 (pc := 0) (e := (0, 12, 0, 0, 0, 0, 0, 1)) rfl) rfl ?_
  refine e_90r zA (f_17 (pc := 1) (e := (1, 90, 1, 4, 3, 18, 800, 4)) rfl) rfl (hp.1 0 rfl) rfl rfl (hp.2 4 rfl) ?_
  refine e_0 (f_17 (pc := 4) (e := (4, 0, 4, 0, 0, 0, 0, 5)) rfl) (v := 4) rfl ?_
  refine e_110 (f_17 (pc := 5) (e := (5, 110, 0, 0, 0, 0, 0, 6)) rfl) rfl (hp.1 3 rfl) (by decide) (by decide) ?_
  refine e_1 (f_17 (pc := 6) (e := (6, 1, 20, 0, 0, 0, 0, 8)) rfl) (v := 20) rfl ?_
  refine e_72 (f_17 (pc := 8) (e := (8, 72, 17, 0, 0, 0, 0, 11)) rfl) (fun c1 => ?_) (fun c1 => ?_)
  · replace F := F.1 c1
    refine e_12 (f_17 (pc := 17) (e := (17, 12, 1, 0, 0, 0, 0, 18)) rfl) rfl ?_
    refine e_130 (f_17 (pc := 18) (e := (18, 130, 31, 0, 3, 126, 816, 21)) rfl) zA (as := [yr (some 1)]) (rest := []) rfl rfl rfl rfl (Nat.le_of_ble_eq_true rfl) (Nat.le_of_ble_eq_true rfl) ⟨_, _, _, rfl, (hT 1 rfl)⟩ (mc := 0) (ms := 0) (Nat.zero_le _) (Nat.zero_le _) ?_
    refine e_K ?_ F
    rintro r h' ⟨I2, rfl, rfl, F⟩
    refine e_12 (f_17 (pc := 21) (e := (21, 12, 0, 0, 0, 0, 0, 22)) rfl) rfl ?_
    refine e_12 (f_17 (pc := 22) (e := (22, 12, 1, 0, 0, 0, 0, 23)) rfl) rfl ?_
    refine e_130 (f_17 (pc := 23) (e := (23, 130, 15, 0, 1, 138, 829, 26)) rfl) zA (as := [yr (some p), yr (some 1)]) (rest := []) rfl rfl rfl rfl (Nat.le_of_ble_eq_true rfl) (Nat.le_of_ble_eq_true rfl) ⟨_, _, _, rfl, (hp.1 0 rfl)⟩ (mc := 0) (ms := 0) (Nat.zero_le _) (Nat.zero_le _) ?_
    refine e_K ?_ F
    rintro r h' ⟨r4, I3, rfl, rfl, F⟩
    refine e_20 (f_17 (pc := 26) (e := (26, 20, 2, 0, 0, 0, 0, 27)) rfl) ?_
    refine e_12 (f_17 (pc := 27) (e := (27, 12, 0, 0, 0, 0, 0, 28)) rfl) rfl ?_
    refine e_10 (f_17 (pc := 28) (e := (28, 10, 2, 0, 0, 0, 0, 29)) rfl) rfl ?_
    refine e_130 (f_17 (pc := 29) (e := (29, 130, 10, 0, 1, 66, 825, 32)) rfl) zA (as := [yr (some p), yi r4]) (rest := []) rfl rfl rfl rfl (Nat.le_of_ble_eq_true rfl) (Nat.le_of_ble_eq_true rfl) ⟨_, _, _, rfl, (hp.1 0 rfl)⟩ (mc := 0) (ms := 0) (Nat.zero_le _) (Nat.zero_le _) ?_
    refine e_K ?_ F
    rintro r h' ⟨r6, I5, rfl, rfl, F⟩
    refine e_61 (f_17 (pc := 32) (e := (32, 61, 37, 0, 0, 0, 0, 35)) rfl) (fun c7 => ?_) (fun c7 => ?_)
    · replace F := F.1 c7
      refine e_12 (f_17 (pc := 37) (e := (37, 12, 0, 0, 0, 0, 0, 38)) rfl) rfl ?_
      refine e_90r zA (f_17 (pc := 38) (e := (38, 90, 1, 3, 3, 15, 799, 41)) rfl) rfl (hp.1 0 rfl) rfl rfl (hp.2 3 rfl) ?_
      refine e_10 (f_17 (pc := 41) (e := (41, 10, 2, 0, 0, 0, 0, 42)) rfl) rfl ?_
      obtain ⟨b8, b9, F⟩ := F
      refine e_110 (f_17 (pc := 42) (e := (42, 110, 0, 0, 0, 0, 0, 43)) rfl) rfl (hp.1 2 rfl) b8 b9 ?_
      refine e_0 (f_17 (pc := 43) (e := (43, 0, 4294967295, 0, 0, 0, 0, 44)) rfl) (v := (-1)) rfl ?_
      refine e_70 (f_17 (pc := 44) (e := (44, 70, 53, 0, 0, 0, 0, 47)) rfl) (fun c10 => ?_) (fun c10 => ?_)
      · replace F := F.1 c10
        refine e_12 (f_17 (pc := 53) (e := (53, 12, 1, 0, 0, 0, 0, 54)) rfl) rfl ?_
        refine e_130 (f_17 (pc := 54) (e := (54, 130, 31, 0, 3, 126, 816, 57)) rfl) zA (as := [yr (some 1)]) (rest := []) rfl rfl rfl rfl (Nat.le_of_ble_eq_true rfl) (Nat.le_of_ble_eq_true rfl) ⟨_, _, _, rfl, (hT 1 rfl)⟩ (mc := 0) (ms := 0) (Nat.zero_le _) (Nat.zero_le _) ?_
        refine e_K ?_ F
        rintro r h' ⟨I11, rfl, rfl, F⟩
        refine e_12 (f_17 (pc := 57) (e := (57, 12, 0, 0, 0, 0, 0, 58)) rfl) rfl ?_
        refine e_90r zA (f_17 (pc := 58) (e := (58, 90, 1, 3, 3, 15, 799, 61)) rfl) rfl (hp.1 0 rfl) rfl rfl (hp.2 3 rfl) ?_
        refine e_10 (f_17 (pc := 61) (e := (61, 10, 2, 0, 0, 0, 0, 62)) rfl) rfl ?_
        refine e_12 (f_17 (pc := 62) (e := (62, 12, 1, 0, 0, 0, 0, 63)) rfl) rfl ?_
        refine e_130 (f_17 (pc := 63) (e := (63, 130, 41, 0, 3, 142, 831, 66)) rfl) zA (as := [yr (some 1)]) (rest := [yi r4, yr (some (p + 2))]) rfl rfl rfl rfl (Nat.le_of_ble_eq_true rfl) (Nat.le_of_ble_eq_true rfl) ⟨_, _, _, rfl, (hT 1 rfl)⟩ (mc := 0) (ms := 0) (Nat.zero_le _) (Nat.zero_le _) ?_
        refine e_K ?_ F
        rintro r h' ⟨r13, I12, rfl, rfl, F⟩
        obtain ⟨b14, b15, F⟩ := F
        refine e_111 (f_17 (pc := 66) (e := (66, 111, 0, 0, 0, 0, 0, 67)) rfl) rfl (hp.1 2 rfl) b14 b15 ?_
        replace F := F _ rfl
        refine e_12 (f_17 (pc := 67) (e := (67, 12, 0, 0, 0, 0, 0, 68)) rfl) rfl ?_
        refine e_90r zA (f_17 (pc := 68) (e := (68, 90, 1, 4, 3, 18, 800, 71)) rfl) rfl (hp.1 0 rfl) rfl rfl (hp.2 4 rfl) ?_
        refine e_0 (f_17 (pc := 71) (e := (71, 0, 4, 0, 0, 0, 0, 72)) rfl) (v := 4) rfl ?_
        refine e_51 (f_17 (pc := 72) (e := (72, 51, 0, 0, 0, 0, 0, 73)) rfl) rfl rfl ?_
        refine e_110 (f_17 (pc := 73) (e := (73, 110, 0, 0, 0, 0, 0, 74)) rfl) rfl (hp.1 3 rfl) (by decide) (by decide) ?_
        refine e_0 (f_17 (pc := 74) (e := (74, 0, 1, 0, 0, 0, 0, 75)) rfl) (v := 1) rfl ?_
        refine e_30 (f_17 (pc := 75) (e := (75, 30, 0, 0, 0, 0, 0, 76)) rfl) ?_
        refine e_111 (f_17 (pc := 76) (e := (76, 111, 0, 0, 0, 0, 0, 77)) rfl) rfl (hp.1 3 rfl) (by decide) (by decide) ?_
        replace F := F _ rfl
        refine e_12 (f_17 (pc := 77) (e := (77, 12, 0, 0, 0, 0, 0, 78)) rfl) rfl ?_
        refine e_90r zA (f_17 (pc := 78) (e := (78, 90, 1, 3, 3, 15, 799, 81)) rfl) rfl (hp.1 0 rfl) rfl rfl (hp.2 3 rfl) ?_
        refine e_10 (f_17 (pc := 81) (e := (81, 10, 2, 0, 0, 0, 0, 82)) rfl) rfl ?_
        obtain ⟨b18, b19, F⟩ := F
        refine e_110 (f_17 (pc := 82) (e := (82, 110, 0, 0, 0, 0, 0, 83)) rfl) rfl (hp.1 2 rfl) b18 b19 ?_
        refine e_0 (f_17 (pc := 83) (e := (83, 0, 4294967295, 0, 0, 0, 0, 84)) rfl) (v := (-1)) rfl ?_
        refine e_70 (f_17 (pc := 84) (e := (84, 70, 91, 0, 0, 0, 0, 87)) rfl) (fun c20 => ?_) (fun c20 => ?_)
        · replace F := F.1 c20
          refine e_0 (f_17 (pc := 91) (e := (91, 0, 0, 0, 0, 0, 0, 92)) rfl) (v := 0) rfl ?_
          exact e_121 (f_17 (pc := 92) (e := (92, 121, 0, 0, 0, 0, 0, 0)) rfl) (.inl rfl) F
        · replace F := F.2 c20
          refine e_0 (f_17 (pc := 87) (e := (87, 0, 1, 0, 0, 0, 0, 88)) rfl) (v := 1) rfl ?_
          refine e_80 (f_17 (pc := 88) (e := (88, 80, 92, 0, 0, 0, 0, 91)) rfl) ?_
          exact e_121 (f_17 (pc := 92) (e := (92, 121, 0, 0, 0, 0, 0, 0)) rfl) (.inr rfl) F
      · replace F := F.2 c10
        refine e_12 (f_17 (pc := 47) (e := (47, 12, 1, 0, 0, 0, 0, 48)) rfl) rfl ?_
        refine e_0 (f_17 (pc := 48) (e := (48, 0, 3, 0, 0, 0, 0, 49)) rfl) (v := 3) rfl ?_
        refine e_130 (f_17 (pc := 49) (e := (49, 130, 34, 0, 3, 98, 815, 52)) rfl) zA (as := [yr (some 1), yi 3]) (rest := []) rfl rfl rfl rfl (Nat.le_of_ble_eq_true rfl) (Nat.le_of_ble_eq_true rfl) ⟨_, _, _, rfl, (hT 1 rfl)⟩ (mc := 0) (ms := 0) (Nat.zero_le _) (Nat.zero_le _) ?_
        refine e_K ?_ F
        rintro r h' ⟨r22, I21, rfl, rfl, F⟩
        exact e_121 (f_17 (pc := 52) (e := (52, 121, 0, 0, 0, 0, 0, 53)) rfl) F.1 F.2
    · replace F := F.2 c7
      refine e_0 (f_17 (pc := 35) (e := (35, 0, 0, 0, 0, 0, 0, 36)) rfl) (v := 0) rfl ?_
      exact e_121 (f_17 (pc := 36) (e := (36, 121, 0, 0, 0, 0, 0, 37)) rfl) (.inl rfl) F
  · replace F := F.2 c1
    refine e_12 (f_17 (pc := 11) (e := (11, 12, 1, 0, 0, 0, 0, 12)) rfl) rfl ?_
    refine e_0 (f_17 (pc := 12) (e := (12, 0, 4, 0, 0, 0, 0, 13)) rfl) (v := 4) rfl ?_
    refine e_130 (f_17 (pc := 13) (e := (13, 130, 34, 0, 3, 98, 815, 16)) rfl) zA (as := [yr (some 1), yi 4]) (rest := []) rfl rfl rfl rfl (Nat.le_of_ble_eq_true rfl) (Nat.le_of_ble_eq_true rfl) ⟨_, _, _, rfl, (hT 1 rfl)⟩ (mc := 0) (ms := 0) (Nat.zero_le _) (Nat.zero_le _) ?_
    refine e_K ?_ F
    rintro r h' ⟨r24, I23, rfl, rfl, F⟩
    exact e_121 (f_17 (pc := 16) (e := (16, 121, 0, 0, 0, 0, 0, 17)) rfl) F.1 F.2

/-! ChairAlley$Land.readLaw(LChairAlley$Reader;)Z -/
set_option maxRecDepth 20000 in
theorem B_18_0 (hT : yLT T) (hR : yLR R) {p : Nat} (hp : yAtLand T R p) (F : ((I p 14) = 0 → yW l zSS D cy zFk z d 31 0 0 (fun r h' => ∃ I2, r = none ∧ h' = (N, T, R, I2) ∧ (yW l zSS D cy zFk z (d + 1) 18 bc bs K 0 0 19 [(0, yr (some p)), (1, yr (some 1)), (2, yi 0)] [] (N, T, R, I2))) 0 0 0 [(0, yr (some 1))] [] (N, T, R, I)) ∧ (¬ ((I p 14) = 0) → yW l zSS D cy zFk z d 34 0 0 (fun r h' => ∃ r4 I3, r = some (yi r4) ∧ h' = (N, T, R, I3) ∧ ((r4 = 0 ∨ r4 = 1) ∧ K (some (yi r4)) (N, T, R, I3))) 0 0 0 [(0, yr (some 1)), (1, yi 3)] [] (N, T, R, I))) :
    yW l zSS D cy zFk z (d + 1) 18 bc bs K 0 0 0 [(0, yr (some p)), (1, yr (some 1))] [] (N, T, R, I) := by
  refine e_12 (f_18 (pc := 0) (e := (0, 12, 0, 0, 0, 0, 0, 1)) rfl) rfl ?_
  refine e_90 zA (f_18 (pc := 1) (e := (1, 90, 1, 14, 0, 57, 812, 4)) rfl) rfl (hp.1 0 rfl) rfl rfl ?_
  refine e_60 (f_18 (pc := 4) (e := (4, 60, 13, 0, 0, 0, 0, 7)) rfl) (fun c1 => ?_) (fun c1 => ?_)
  · replace F := F.1 c1
    refine e_12 (f_18 (pc := 13) (e := (13, 12, 1, 0, 0, 0, 0, 14)) rfl) rfl ?_
    refine e_130 (f_18 (pc := 14) (e := (14, 130, 31, 0, 3, 126, 816, 17)) rfl) zA (as := [yr (some 1)]) (rest := []) rfl rfl rfl rfl (Nat.le_of_ble_eq_true rfl) (Nat.le_of_ble_eq_true rfl) ⟨_, _, _, rfl, (hT 1 rfl)⟩ (mc := 0) (ms := 0) (Nat.zero_le _) (Nat.zero_le _) ?_
    refine e_K ?_ F
    rintro r h' ⟨I2, rfl, rfl, F⟩
    refine e_0 (f_18 (pc := 17) (e := (17, 0, 0, 0, 0, 0, 0, 18)) rfl) (v := 0) rfl ?_
    refine e_20 (f_18 (pc := 18) (e := (18, 20, 2, 0, 0, 0, 0, 19)) rfl) ?_
    refine e_lo [0, 1, 2] rfl ?_
    exact F
  · replace F := F.2 c1
    refine e_12 (f_18 (pc := 7) (e := (7, 12, 1, 0, 0, 0, 0, 8)) rfl) rfl ?_
    refine e_0 (f_18 (pc := 8) (e := (8, 0, 3, 0, 0, 0, 0, 9)) rfl) (v := 3) rfl ?_
    refine e_130 (f_18 (pc := 9) (e := (9, 130, 34, 0, 3, 98, 815, 12)) rfl) zA (as := [yr (some 1), yi 3]) (rest := []) rfl rfl rfl rfl (Nat.le_of_ble_eq_true rfl) (Nat.le_of_ble_eq_true rfl) ⟨_, _, _, rfl, (hT 1 rfl)⟩ (mc := 0) (ms := 0) (Nat.zero_le _) (Nat.zero_le _) ?_
    refine e_K ?_ F
    rintro r h' ⟨r4, I3, rfl, rfl, F⟩
    exact e_121 (f_18 (pc := 12) (e := (12, 121, 0, 0, 0, 0, 0, 13)) rfl) F.1 F.2
set_option maxRecDepth 20000 in
theorem B_18_19 (hT : yLT T) (hR : yLR R) {p : Nat} (hp : yAtLand T R p) {x2 : Int} (F : (3 < x2 → K (some (yi 1)) (N, T, R, I)) ∧ (¬ (3 < x2) → (x2 ≤ 0 → yW l zSS D cy zFk z (d + 1) 18 bc bs K 0 0 39 [(0, yr (some p)), (1, yr (some 1)), (2, yi x2)] [] (N, T, R, I)) ∧ (¬ (x2 ≤ 0) → yW l zSS D cy zFk z d 38 0 0 (fun r h' => ∃ r4 I3, r = some (yi r4) ∧ h' = (N, T, R, I3) ∧ ((r4 = 0 → yW l zSS D cy zFk z (d + 1) 18 bc bs K 0 0 39 [(0, yr (some p)), (1, yr (some 1)), (2, yi x2)] [] (N, T, R, I3)) ∧ (¬ (r4 = 0) → K (some (yi 1)) (N, T, R, I3)))) 0 0 0 [(0, yr (some 1)), (1, yi 59)] [] (N, T, R, I)))) :
    yW l zSS D cy zFk z (d + 1) 18 bc bs K 0 0 19 [(0, yr (some p)), (1, yr (some 1)), (2, yi x2)] [] (N, T, R, I) := by
  refine e_10 (f_18 (pc := 19) (e := (19, 10, 2, 0, 0, 0, 0, 20)) rfl) rfl ?_
  refine e_0 (f_18 (pc := 20) (e := (20, 0, 3, 0, 0, 0, 0, 21)) rfl) (v := 3) rfl ?_
  refine e_74 (f_18 (pc := 21) (e := (21, 74, 105, 0, 0, 0, 0, 24)) rfl) (fun c1 => ?_) (fun c1 => ?_)
  · replace F := F.1 c1
    refine e_0 (f_18 (pc := 105) (e := (105, 0, 1, 0, 0, 0, 0, 106)) rfl) (v := 1) rfl ?_
    exact e_121 (f_18 (pc := 106) (e := (106, 121, 0, 0, 0, 0, 0, 0)) rfl) (.inr rfl) F
  · replace F := F.2 c1
    refine e_10 (f_18 (pc := 24) (e := (24, 10, 2, 0, 0, 0, 0, 25)) rfl) rfl ?_
    refine e_65 (f_18 (pc := 25) (e := (25, 65, 39, 0, 0, 0, 0, 28)) rfl) (fun c2 => ?_) (fun c2 => ?_)
    · replace F := F.1 c2
      refine e_lo [0, 1, 2] rfl ?_
      exact F
    · replace F := F.2 c2
      refine e_12 (f_18 (pc := 28) (e := (28, 12, 1, 0, 0, 0, 0, 29)) rfl) rfl ?_
      refine e_1 (f_18 (pc := 29) (e := (29, 1, 59, 0, 0, 0, 0, 31)) rfl) (v := 59) rfl ?_
      refine e_130 (f_18 (pc := 31) (e := (31, 130, 38, 0, 3, 167, 832, 34)) rfl) zA (as := [yr (some 1), yi 59]) (rest := []) rfl rfl rfl rfl (Nat.le_of_ble_eq_true rfl) (Nat.le_of_ble_eq_true rfl) ⟨_, _, _, rfl, (hT 1 rfl)⟩ (mc := 0) (ms := 0) (Nat.zero_le _) (Nat.zero_le _) ?_
      refine e_K ?_ F
      rintro r h' ⟨r4, I3, rfl, rfl, F⟩
      refine e_60 (f_18 (pc := 34) (e := (34, 60, 39, 0, 0, 0, 0, 37)) rfl) (fun c5 => ?_) (fun c5 => ?_)
      · replace F := F.1 c5
        refine e_lo [0, 1, 2] rfl ?_
        exact F
      · replace F := F.2 c5
        refine e_0 (f_18 (pc := 37) (e := (37, 0, 1, 0, 0, 0, 0, 38)) rfl) (v := 1) rfl ?_
        exact e_121 (f_18 (pc := 38) (e := (38, 121, 0, 0, 0, 0, 0, 39)) rfl) (.inr rfl) F
set_option maxRecDepth 20000 in
theorem B_18_39 (hT : yLT T) (hR : yLR R) {p : Nat} (hp : yAtLand T R p) {x2 : Int} (F : yW l zSS D cy zFk z d 39 0 0 (fun r h' => ∃ r2 I1, r = some (yi r2) ∧ h' = (N, T, R, I1) ∧ ((r2 ≠ 0 → (3 ≤ x2 → yW l zSS D cy zFk z (d + 1) 18 bc bs K 0 0 72 [(1, yr (some 1))] [] (N, T, R, I1)) ∧ (¬ (3 ≤ x2) → yW l zSS D cy zFk z d 9 0 0 (fun r h' => ∃ r6 I5, r = some (yi r6) ∧ h' = (N, T, R, I5) ∧ ((r6 = 0 → 0 ≤ x2 ∧ x2 < 3 ∧ (∀ I10, I10 = yU I5 (p + 11) x2.toNat (ynar 1 (I5 1 6)) → (∀ I11, I11 = yU I10 p 14 (yadd x2 1) → (yW l zSS D cy zFk z d 31 0 0 (fun r h' => ∃ I12, r = none ∧ h' = (N, T, R, I12) ∧ (yW l zSS D cy zFk z (d + 1) 18 bc bs K 0 0 19 [(0, yr (some p)), (1, yr (some 1)), (2, yi (yadd x2 1))] [] (N, T, R, I12))) 0 0 0 [(0, yr (some 1))] [] (N, T, R, I11))))) ∧ (¬ (r6 = 0) → yW l zSS D cy zFk z (d + 1) 18 bc bs K 0 0 72 [(1, yr (some 1))] [] (N, T, R, I5)))) 0 0 0 [(0, yr (some p)), (1, yi (I1 1 6))] [] (N, T, R, I1))) ∧ (¬ (r2 ≠ 0) → yW l zSS D cy zFk z d 34 0 0 (fun r h' => ∃ r14 I13, r = some (yi r14) ∧ h' = (N, T, R, I13) ∧ ((r14 = 0 ∨ r14 = 1) ∧ K (some (yi r14)) (N, T, R, I13))) 0 0 0 [(0, yr (some 1)), (1, yi 1)] [] (N, T, R, I1)))) 0 0 0 [(0, yr (some 1)), (1, yi 9), (2, yi 11)] [] (N, T, R, I)) :
    yW l zSS D cy zFk z (d + 1) 18 bc bs K 0 0 39 [(0, yr (some p)), (1, yr (some 1)), (2, yi x2)] [] (N, T, R, I) := by
  refine e_12 (f_18 (pc := 39) (e := (39, 12, 1, 0, 0, 0, 0, 40)) rfl) rfl ?_
  refine e_1 (f_18 (pc := 40) (e := (40, 1, 9, 0, 0, 0, 0, 42)) rfl) (v := 9) rfl ?_
  refine e_1 (f_18 (pc := 42) (e := (42, 1, 11, 0, 0, 0, 0, 44)) rfl) (v := 11) rfl ?_
  refine e_130 (f_18 (pc := 44) (e := (44, 130, 39, 0, 3, 170, 833, 47)) rfl) zA (as := [yr (some 1), yi 9, yi 11]) (rest := []) rfl rfl rfl rfl (Nat.le_of_ble_eq_true rfl) (Nat.le_of_ble_eq_true rfl) ⟨_, _, _, rfl, (hT 1 rfl)⟩ (mc := 0) (ms := 0) (Nat.zero_le _) (Nat.zero_le _) ?_
  refine e_K ?_ F
  rintro r h' ⟨r2, I1, rfl, rfl, F⟩
  refine e_61 (f_18 (pc := 47) (e := (47, 61, 56, 0, 0, 0, 0, 50)) rfl) (fun c3 => ?_) (fun c3 => ?_)
  · replace F := F.1 c3
    refine e_10 (f_18 (pc := 56) (e := (56, 10, 2, 0, 0, 0, 0, 57)) rfl) rfl ?_
    refine e_0 (f_18 (pc := 57) (e := (57, 0, 3, 0, 0, 0, 0, 58)) rfl) (v := 3) rfl ?_
    refine e_73 (f_18 (pc := 58) (e := (58, 73, 72, 0, 0, 0, 0, 61)) rfl) (fun c4 => ?_) (fun c4 => ?_)
    · replace F := F.1 c4
      refine e_lo [1] rfl ?_
      exact F
    · replace F := F.2 c4
      refine e_12 (f_18 (pc := 61) (e := (61, 12, 0, 0, 0, 0, 0, 62)) rfl) rfl ?_
      refine e_12 (f_18 (pc := 62) (e := (62, 12, 1, 0, 0, 0, 0, 63)) rfl) rfl ?_
      refine e_90 zA (f_18 (pc := 63) (e := (63, 90, 3, 6, 0, 101, 834, 66)) rfl) rfl (hT 1 rfl) rfl rfl ?_
      refine e_130 (f_18 (pc := 66) (e := (66, 130, 9, 0, 1, 173, 835, 69)) rfl) zA (as := [yr (some p), yi _]) (rest := []) rfl rfl rfl rfl (Nat.le_of_ble_eq_true rfl) (Nat.le_of_ble_eq_true rfl) ⟨_, _, _, rfl, (hp.1 0 rfl)⟩ (mc := 0) (ms := 0) (Nat.zero_le _) (Nat.zero_le _) ?_
      refine e_K ?_ F
      rintro r h' ⟨r6, I5, rfl, rfl, F⟩
      refine e_60 (f_18 (pc := 69) (e := (69, 60, 78, 0, 0, 0, 0, 72)) rfl) (fun c7 => ?_) (fun c7 => ?_)
      · replace F := F.1 c7
        refine e_12 (f_18 (pc := 78) (e := (78, 12, 0, 0, 0, 0, 0, 79)) rfl) rfl ?_
        refine e_90r zA (f_18 (pc := 79) (e := (79, 90, 1, 13, 3, 44, 808, 82)) rfl) rfl (hp.1 0 rfl) rfl rfl (hp.2 13 rfl) ?_
        refine e_10 (f_18 (pc := 82) (e := (82, 10, 2, 0, 0, 0, 0, 83)) rfl) rfl ?_
        refine e_12 (f_18 (pc := 83) (e := (83, 12, 1, 0, 0, 0, 0, 84)) rfl) rfl ?_
        refine e_90 zA (f_18 (pc := 84) (e := (84, 90, 3, 6, 0, 101, 834, 87)) rfl) rfl (hT 1 rfl) rfl rfl ?_
        obtain ⟨b8, b9, F⟩ := F
        refine e_111 (f_18 (pc := 87) (e := (87, 111, 0, 0, 0, 0, 0, 88)) rfl) rfl (hp.1 11 rfl) b8 b9 ?_
        replace F := F _ rfl
        refine e_12 (f_18 (pc := 88) (e := (88, 12, 0, 0, 0, 0, 0, 89)) rfl) rfl ?_
        refine e_10 (f_18 (pc := 89) (e := (89, 10, 2, 0, 0, 0, 0, 90)) rfl) rfl ?_
        refine e_0 (f_18 (pc := 90) (e := (90, 0, 1, 0, 0, 0, 0, 91)) rfl) (v := 1) rfl ?_
        refine e_30 (f_18 (pc := 91) (e := (91, 30, 0, 0, 0, 0, 0, 92)) rfl) ?_
        refine e_91 zA (f_18 (pc := 92) (e := (92, 91, 1, 14, 0, 57, 812, 95)) rfl) rfl (hp.1 0 rfl) rfl rfl trivial ?_
        replace F := F _ rfl
        refine e_12 (f_18 (pc := 95) (e := (95, 12, 1, 0, 0, 0, 0, 96)) rfl) rfl ?_
        refine e_130 (f_18 (pc := 96) (e := (96, 130, 31, 0, 3, 126, 816, 99)) rfl) zA (as := [yr (some 1)]) (rest := []) rfl rfl rfl rfl (Nat.le_of_ble_eq_true rfl) (Nat.le_of_ble_eq_true rfl) ⟨_, _, _, rfl, (hT 1 rfl)⟩ (mc := 0) (ms := 0) (Nat.zero_le _) (Nat.zero_le _) ?_
        refine e_K ?_ F
        rintro r h' ⟨I12, rfl, rfl, F⟩
        refine e_26 (f_18 (pc := 99) (e := (99, 26, 2, 1, 0, 0, 0, 102)) rfl) (w := 1) rfl rfl ?_
        refine e_80 (f_18 (pc := 102) (e := (102, 80, 19, 0, 0, 0, 0, 105)) rfl) ?_
        refine e_lo [0, 1, 2] rfl ?_
        exact F
      · replace F := F.2 c7
        refine e_lo [1] rfl ?_
        exact F
  · replace F := F.2 c3
    refine e_12 (f_18 (pc := 50) (e := (50, 12, 1, 0, 0, 0, 0, 51)) rfl) rfl ?_
    refine e_0 (f_18 (pc := 51) (e := (51, 0, 1, 0, 0, 0, 0, 52)) rfl) (v := 1) rfl ?_
    refine e_130 (f_18 (pc := 52) (e := (52, 130, 34, 0, 3, 98, 815, 55)) rfl) zA (as := [yr (some 1), yi 1]) (rest := []) rfl rfl rfl rfl (Nat.le_of_ble_eq_true rfl) (Nat.le_of_ble_eq_true rfl) ⟨_, _, _, rfl, (hT 1 rfl)⟩ (mc := 0) (ms := 0) (Nat.zero_le _) (Nat.zero_le _) ?_
    refine e_K ?_ F
    rintro r h' ⟨r14, I13, rfl, rfl, F⟩
    exact e_121 (f_18 (pc := 55) (e := (55, 121, 0, 0, 0, 0, 0, 56)) rfl) F.1 F.2
set_option maxRecDepth 20000 in
theorem B_18_72 (hT : yLT T) (hR : yLR R) {p : Nat} (hp : yAtLand T R p) (F : yW l zSS D cy zFk z d 34 0 0 (fun r h' => ∃ r2 I1, r = some (yi r2) ∧ h' = (N, T, R, I1) ∧ ((r2 = 0 ∨ r2 = 1) ∧ K (some (yi r2)) (N, T, R, I1))) 0 0 0 [(0, yr (some 1)), (1, yi 3)] [] (N, T, R, I)) :
    yW l zSS D cy zFk z (d + 1) 18 bc bs K 0 0 72 [(1, yr (some 1))] [] (N, T, R, I) := by
  refine e_12 (f_18 (pc := 72) (e := (72, 12, 1, 0, 0, 0, 0, 73)) rfl) rfl ?_
  refine e_0 (f_18 (pc := 73) (e := (73, 0, 3, 0, 0, 0, 0, 74)) rfl) (v := 3) rfl ?_
  refine e_130 (f_18 (pc := 74) (e := (74, 130, 34, 0, 3, 98, 815, 77)) rfl) zA (as := [yr (some 1), yi 3]) (rest := []) rfl rfl rfl rfl (Nat.le_of_ble_eq_true rfl) (Nat.le_of_ble_eq_true rfl) ⟨_, _, _, rfl, (hT 1 rfl)⟩ (mc := 0) (ms := 0) (Nat.zero_le _) (Nat.zero_le _) ?_
  refine e_K ?_ F
  rintro r h' ⟨r2, I1, rfl, rfl, F⟩
  exact e_121 (f_18 (pc := 77) (e := (77, 121, 0, 0, 0, 0, 0, 78)) rfl) F.1 F.2

/-! ChairAlley$Land.readLine(LChairAlley$Reader;)Z -/
set_option maxRecDepth 20000 in
theorem B_19_0 (hT : yLT T) (hR : yLR R) {p : Nat} (hp : yAtLand T R p) (F : ((I 1 5) = 2 → ((I 1 6) = 0 → yW l zSS D cy zFk z d 23 0 0 (fun r h' => ∃ r4 I3, r = some (yi r4) ∧ h' = (N, T, R, I3) ∧ ((r4 = 0 ∨ r4 = 1) ∧ K (some (yi r4)) (N, T, R, I3))) 0 0 0 [(0, yr (some p)), (1, yr (some 1))] [] (N, T, R, I)) ∧ (¬ ((I 1 6) = 0) → ((I 1 6) = 1 → yW l zSS D cy zFk z d 20 0 0 (fun r h' => ∃ r7 I6, r = some (yi r7) ∧ h' = (N, T, R, I6) ∧ ((r7 = 0 ∨ r7 = 1) ∧ K (some (yi r7)) (N, T, R, I6))) 0 0 0 [(0, yr (some p)), (1, yr (some 1)), (2, yi 1), (3, yi 40)] [] (N, T, R, I)) ∧ (¬ ((I 1 6) = 1) → ((I 1 6) = 2 → yW l zSS D cy zFk z d 20 0 0 (fun r h' => ∃ r10 I9, r = some (yi r10) ∧ h' = (N, T, R, I9) ∧ ((r10 = 0 ∨ r10 = 1) ∧ K (some (yi r10)) (N, T, R, I9))) 0 0 0 [(0, yr (some p)), (1, yr (some 1)), (2, yi 2), (3, yi 12)] [] (N, T, R, I)) ∧ (¬ ((I 1 6) = 2) → ((I 1 6) = 3 → yW l zSS D cy zFk z d 20 0 0 (fun r h' => ∃ r13 I12, r = some (yi r13) ∧ h' = (N, T, R, I12) ∧ ((r13 = 0 ∨ r13 = 1) ∧ K (some (yi r13)) (N, T, R, I12))) 0 0 0 [(0, yr (some p)), (1, yr (some 1)), (2, yi 3), (3, yi 12)] [] (N, T, R, I)) ∧ (¬ ((I 1 6) = 3) → ((I 1 6) = 4 → yW l zSS D cy zFk z d 17 0 0 (fun r h' => ∃ r16 I15, r = some (yi r16) ∧ h' = (N, T, R, I15) ∧ ((r16 = 0 ∨ r16 = 1) ∧ K (some (yi r16)) (N, T, R, I15))) 0 0 0 [(0, yr (some p)), (1, yr (some 1))] [] (N, T, R, I)) ∧ (¬ ((I 1 6) = 4) → ((I 1 6) = 5 → yW l zSS D cy zFk z d 16 0 0 (fun r h' => ∃ r19 I18, r = some (yi r19) ∧ h' = (N, T, R, I18) ∧ ((r19 = 0 ∨ r19 = 1) ∧ K (some (yi r19)) (N, T, R, I18))) 0 0 0 [(0, yr (some p)), (1, yr (some 1))] [] (N, T, R, I)) ∧ (¬ ((I 1 6) = 5) → ((I 1 6) = 6 → yW l zSS D cy zFk z d 24 0 0 (fun r h' => ∃ r22 I21, r = some (yi r22) ∧ h' = (N, T, R, I21) ∧ ((r22 = 0 ∨ r22 = 1) ∧ K (some (yi r22)) (N, T, R, I21))) 0 0 0 [(0, yr (some p)), (1, yr (some 1))] [] (N, T, R, I)) ∧ (¬ ((I 1 6) = 6) → ((I 1 6) = 7 → yW l zSS D cy zFk z d 22 0 0 (fun r h' => ∃ r25 I24, r = some (yi r25) ∧ h' = (N, T, R, I24) ∧ ((r25 = 0 ∨ r25 = 1) ∧ K (some (yi r25)) (N, T, R, I24))) 0 0 0 [(0, yr (some p)), (1, yr (some 1))] [] (N, T, R, I)) ∧ (¬ ((I 1 6) = 7) → ((I 1 6) = 8 → yW l zSS D cy zFk z d 18 0 0 (fun r h' => ∃ r28 I27, r = some (yi r28) ∧ h' = (N, T, R, I27) ∧ ((r28 = 0 ∨ r28 = 1) ∧ K (some (yi r28)) (N, T, R, I27))) 0 0 0 [(0, yr (some p)), (1, yr (some 1))] [] (N, T, R, I)) ∧ (¬ ((I 1 6) = 8) → yW l zSS D cy zFk z d 34 0 0 (fun r h' => ∃ r30 I29, r = some (yi r30) ∧ h' = (N, T, R, I29) ∧ ((r30 = 0 ∨ r30 = 1) ∧ K (some (yi r30)) (N, T, R, I29))) 0 0 0 [(0, yr (some 1)), (1, yi 1)] [] (N, T, R, I))))))))))) ∧ (¬ ((I 1 5) = 2) → yW l zSS D cy zFk z d 34 0 0 (fun r h' => ∃ r32 I31, r = some (yi r32) ∧ h' = (N, T, R, I31) ∧ ((r32 = 0 ∨ r32 = 1) ∧ K (some (yi r32)) (N, T, R, I31))) 0 0 0 [(0, yr (some 1)), (1, yi 1)] [] (N, T, R, I))) :
    yW l zSS D cy zFk z (d + 1) 19 bc bs K 0 0 0 [(0, yr (some p)), (1, yr (some 1))] [] (N, T, R, I) := by
  refine e_12 (f_19 (pc := 0) (e := (0, 12, 1, 0, 0, 0, 0, 1)) rfl) rfl ?_
  refine e_90 zA (f_19 (pc := 1) (e := (1, 90, 3, 5, 0, 81, 818, 4)) rfl) rfl (hT 1 rfl) rfl rfl ?_
  refine e_0 (f_19 (pc := 4) (e := (4, 0, 2, 0, 0, 0, 0, 5)) rfl) (v := 2) rfl ?_
  refine e_70 (f_19 (pc := 5) (e := (5, 70, 14, 0, 0, 0, 0, 8)) rfl) (fun c1 => ?_) (fun c1 => ?_)
  · replace F := F.1 c1
    refine e_12 (f_19 (pc := 14) (e := (14, 12, 1, 0, 0, 0, 0, 15)) rfl) rfl ?_
    refine e_90 zA (f_19 (pc := 15) (e := (15, 90, 3, 6, 0, 101, 834, 18)) rfl) rfl (hT 1 rfl) rfl rfl ?_
    refine e_83 (f_19 (pc := 18) (e := (18, 83, 2147483648, 9, 1, 0, 0, 131)) rfl) (v := (I 1 6)) (low := 0) rfl ?_
    by_cases c2 : (I 1 6) = 0
    · replace F := F.1 c2
      rw [show ySw 0 (yTg zGG 1) 131 (I 1 6) = 68 from by rw [c2]; rfl]
      refine e_12 (f_19 (pc := 68) (e := (68, 12, 0, 0, 0, 0, 0, 69)) rfl) rfl ?_
      refine e_12 (f_19 (pc := 69) (e := (69, 12, 1, 0, 0, 0, 0, 70)) rfl) rfl ?_
      refine e_130 (f_19 (pc := 70) (e := (70, 130, 23, 0, 1, 104, 836, 73)) rfl) zA (as := [yr (some p), yr (some 1)]) (rest := []) rfl rfl rfl rfl (Nat.le_of_ble_eq_true rfl) (Nat.le_of_ble_eq_true rfl) ⟨_, _, _, rfl, (hp.1 0 rfl)⟩ (mc := 0) (ms := 0) (Nat.zero_le _) (Nat.zero_le _) ?_
      refine e_K ?_ F
      rintro r h' ⟨r4, I3, rfl, rfl, F⟩
      exact e_121 (f_19 (pc := 73) (e := (73, 121, 0, 0, 0, 0, 0, 74)) rfl) F.1 F.2
    · replace F := F.2 c2
      by_cases c5 : (I 1 6) = 1
      · replace F := F.1 c5
        rw [show ySw 0 (yTg zGG 1) 131 (I 1 6) = 74 from by rw [c5]; rfl]
        refine e_12 (f_19 (pc := 74) (e := (74, 12, 0, 0, 0, 0, 0, 75)) rfl) rfl ?_
        refine e_12 (f_19 (pc := 75) (e := (75, 12, 1, 0, 0, 0, 0, 76)) rfl) rfl ?_
        refine e_0 (f_19 (pc := 76) (e := (76, 0, 1, 0, 0, 0, 0, 77)) rfl) (v := 1) rfl ?_
        refine e_1 (f_19 (pc := 77) (e := (77, 1, 40, 0, 0, 0, 0, 79)) rfl) (v := 40) rfl ?_
        refine e_130 (f_19 (pc := 79) (e := (79, 130, 20, 0, 1, 107, 837, 82)) rfl) zA (as := [yr (some p), yr (some 1), yi 1, yi 40]) (rest := []) rfl rfl rfl rfl (Nat.le_of_ble_eq_true rfl) (Nat.le_of_ble_eq_true rfl) ⟨_, _, _, rfl, (hp.1 0 rfl)⟩ (mc := 0) (ms := 0) (Nat.zero_le _) (Nat.zero_le _) ?_
        refine e_K ?_ F
        rintro r h' ⟨r7, I6, rfl, rfl, F⟩
        exact e_121 (f_19 (pc := 82) (e := (82, 121, 0, 0, 0, 0, 0, 83)) rfl) F.1 F.2
      · replace F := F.2 c5
        by_cases c8 : (I 1 6) = 2
        · replace F := F.1 c8
          rw [show ySw 0 (yTg zGG 1) 131 (I 1 6) = 83 from by rw [c8]; rfl]
          refine e_12 (f_19 (pc := 83) (e := (83, 12, 0, 0, 0, 0, 0, 84)) rfl) rfl ?_
          refine e_12 (f_19 (pc := 84) (e := (84, 12, 1, 0, 0, 0, 0, 85)) rfl) rfl ?_
          refine e_0 (f_19 (pc := 85) (e := (85, 0, 2, 0, 0, 0, 0, 86)) rfl) (v := 2) rfl ?_
          refine e_1 (f_19 (pc := 86) (e := (86, 1, 12, 0, 0, 0, 0, 88)) rfl) (v := 12) rfl ?_
          refine e_130 (f_19 (pc := 88) (e := (88, 130, 20, 0, 1, 107, 837, 91)) rfl) zA (as := [yr (some p), yr (some 1), yi 2, yi 12]) (rest := []) rfl rfl rfl rfl (Nat.le_of_ble_eq_true rfl) (Nat.le_of_ble_eq_true rfl) ⟨_, _, _, rfl, (hp.1 0 rfl)⟩ (mc := 0) (ms := 0) (Nat.zero_le _) (Nat.zero_le _) ?_
          refine e_K ?_ F
          rintro r h' ⟨r10, I9, rfl, rfl, F⟩
          exact e_121 (f_19 (pc := 91) (e := (91, 121, 0, 0, 0, 0, 0, 92)) rfl) F.1 F.2
        · replace F := F.2 c8
          by_cases c11 : (I 1 6) = 3
          · replace F := F.1 c11
            rw [show ySw 0 (yTg zGG 1) 131 (I 1 6) = 92 from by rw [c11]; rfl]
            refine e_12 (f_19 (pc := 92) (e := (92, 12, 0, 0, 0, 0, 0, 93)) rfl) rfl ?_
            refine e_12 (f_19 (pc := 93) (e := (93, 12, 1, 0, 0, 0, 0, 94)) rfl) rfl ?_
            refine e_0 (f_19 (pc := 94) (e := (94, 0, 3, 0, 0, 0, 0, 95)) rfl) (v := 3) rfl ?_
            refine e_1 (f_19 (pc := 95) (e := (95, 1, 12, 0, 0, 0, 0, 97)) rfl) (v := 12) rfl ?_
            refine e_130 (f_19 (pc := 97) (e := (97, 130, 20, 0, 1, 107, 837, 100)) rfl) zA (as := [yr (some p), yr (some 1), yi 3, yi 12]) (rest := []) rfl rfl rfl rfl (Nat.le_of_ble_eq_true rfl) (Nat.le_of_ble_eq_true rfl) ⟨_, _, _, rfl, (hp.1 0 rfl)⟩ (mc := 0) (ms := 0) (Nat.zero_le _) (Nat.zero_le _) ?_
            refine e_K ?_ F
            rintro r h' ⟨r13, I12, rfl, rfl, F⟩
            exact e_121 (f_19 (pc := 100) (e := (100, 121, 0, 0, 0, 0, 0, 101)) rfl) F.1 F.2
          · replace F := F.2 c11
            by_cases c14 : (I 1 6) = 4
            · replace F := F.1 c14
              rw [show ySw 0 (yTg zGG 1) 131 (I 1 6) = 101 from by rw [c14]; rfl]
              refine e_12 (f_19 (pc := 101) (e := (101, 12, 0, 0, 0, 0, 0, 102)) rfl) rfl ?_
              refine e_12 (f_19 (pc := 102) (e := (102, 12, 1, 0, 0, 0, 0, 103)) rfl) rfl ?_
              refine e_130 (f_19 (pc := 103) (e := (103, 130, 17, 0, 1, 111, 838, 106)) rfl) zA (as := [yr (some p), yr (some 1)]) (rest := []) rfl rfl rfl rfl (Nat.le_of_ble_eq_true rfl) (Nat.le_of_ble_eq_true rfl) ⟨_, _, _, rfl, (hp.1 0 rfl)⟩ (mc := 0) (ms := 0) (Nat.zero_le _) (Nat.zero_le _) ?_
              refine e_K ?_ F
              rintro r h' ⟨r16, I15, rfl, rfl, F⟩
              exact e_121 (f_19 (pc := 106) (e := (106, 121, 0, 0, 0, 0, 0, 107)) rfl) F.1 F.2
            · replace F := F.2 c14
              by_cases c17 : (I 1 6) = 5
              · replace F := F.1 c17
                rw [show ySw 0 (yTg zGG 1) 131 (I 1 6) = 107 from by rw [c17]; rfl]
                refine e_12 (f_19 (pc := 107) (e := (107, 12, 0, 0, 0, 0, 0, 108)) rfl) rfl ?_
                refine e_12 (f_19 (pc := 108) (e := (108, 12, 1, 0, 0, 0, 0, 109)) rfl) rfl ?_
                refine e_130 (f_19 (pc := 109) (e := (109, 130, 16, 0, 1, 114, 839, 112)) rfl) zA (as := [yr (some p), yr (some 1)]) (rest := []) rfl rfl rfl rfl (Nat.le_of_ble_eq_true rfl) (Nat.le_of_ble_eq_true rfl) ⟨_, _, _, rfl, (hp.1 0 rfl)⟩ (mc := 0) (ms := 0) (Nat.zero_le _) (Nat.zero_le _) ?_
                refine e_K ?_ F
                rintro r h' ⟨r19, I18, rfl, rfl, F⟩
                exact e_121 (f_19 (pc := 112) (e := (112, 121, 0, 0, 0, 0, 0, 113)) rfl) F.1 F.2
              · replace F := F.2 c17
                by_cases c20 : (I 1 6) = 6
                · replace F := F.1 c20
                  rw [show ySw 0 (yTg zGG 1) 131 (I 1 6) = 113 from by rw [c20]; rfl]
                  refine e_12 (f_19 (pc := 113) (e := (113, 12, 0, 0, 0, 0, 0, 114)) rfl) rfl ?_
                  refine e_12 (f_19 (pc := 114) (e := (114, 12, 1, 0, 0, 0, 0, 115)) rfl) rfl ?_
                  refine e_130 (f_19 (pc := 115) (e := (115, 130, 24, 0, 1, 117, 840, 118)) rfl) zA (as := [yr (some p), yr (some 1)]) (rest := []) rfl rfl rfl rfl (Nat.le_of_ble_eq_true rfl) (Nat.le_of_ble_eq_true rfl) ⟨_, _, _, rfl, (hp.1 0 rfl)⟩ (mc := 0) (ms := 0) (Nat.zero_le _) (Nat.zero_le _) ?_
                  refine e_K ?_ F
                  rintro r h' ⟨r22, I21, rfl, rfl, F⟩
                  exact e_121 (f_19 (pc := 118) (e := (118, 121, 0, 0, 0, 0, 0, 119)) rfl) F.1 F.2
                · replace F := F.2 c20
                  by_cases c23 : (I 1 6) = 7
                  · replace F := F.1 c23
                    rw [show ySw 0 (yTg zGG 1) 131 (I 1 6) = 119 from by rw [c23]; rfl]
                    refine e_12 (f_19 (pc := 119) (e := (119, 12, 0, 0, 0, 0, 0, 120)) rfl) rfl ?_
                    refine e_12 (f_19 (pc := 120) (e := (120, 12, 1, 0, 0, 0, 0, 121)) rfl) rfl ?_
                    refine e_130 (f_19 (pc := 121) (e := (121, 130, 22, 0, 1, 120, 841, 124)) rfl) zA (as := [yr (some p), yr (some 1)]) (rest := []) rfl rfl rfl rfl (Nat.le_of_ble_eq_true rfl) (Nat.le_of_ble_eq_true rfl) ⟨_, _, _, rfl, (hp.1 0 rfl)⟩ (mc := 0) (ms := 0) (Nat.zero_le _) (Nat.zero_le _) ?_
                    refine e_K ?_ F
                    rintro r h' ⟨r25, I24, rfl, rfl, F⟩
                    exact e_121 (f_19 (pc := 124) (e := (124, 121, 0, 0, 0, 0, 0, 125)) rfl) F.1 F.2
                  · replace F := F.2 c23
                    by_cases c26 : (I 1 6) = 8
                    · replace F := F.1 c26
                      rw [show ySw 0 (yTg zGG 1) 131 (I 1 6) = 125 from by rw [c26]; rfl]
                      refine e_12 (f_19 (pc := 125) (e := (125, 12, 0, 0, 0, 0, 0, 126)) rfl) rfl ?_
                      refine e_12 (f_19 (pc := 126) (e := (126, 12, 1, 0, 0, 0, 0, 127)) rfl) rfl ?_
                      refine e_130 (f_19 (pc := 127) (e := (127, 130, 18, 0, 1, 123, 842, 130)) rfl) zA (as := [yr (some p), yr (some 1)]) (rest := []) rfl rfl rfl rfl (Nat.le_of_ble_eq_true rfl) (Nat.le_of_ble_eq_true rfl) ⟨_, _, _, rfl, (hp.1 0 rfl)⟩ (mc := 0) (ms := 0) (Nat.zero_le _) (Nat.zero_le _) ?_
                      refine e_K ?_ F
                      rintro r h' ⟨r28, I27, rfl, rfl, F⟩
                      exact e_121 (f_19 (pc := 130) (e := (130, 121, 0, 0, 0, 0, 0, 131)) rfl) F.1 F.2
                    · replace F := F.2 c26
                      rw [show ySw 0 (yTg zGG 1) 131 (I 1 6) = 131 from ySw_out (n := 9) rfl (by omega)]
                      refine e_12 (f_19 (pc := 131) (e := (131, 12, 1, 0, 0, 0, 0, 132)) rfl) rfl ?_
                      refine e_0 (f_19 (pc := 132) (e := (132, 0, 1, 0, 0, 0, 0, 133)) rfl) (v := 1) rfl ?_
                      refine e_130 (f_19 (pc := 133) (e := (133, 130, 34, 0, 3, 98, 815, 136)) rfl) zA (as := [yr (some 1), yi 1]) (rest := []) rfl rfl rfl rfl (Nat.le_of_ble_eq_true rfl) (Nat.le_of_ble_eq_true rfl) ⟨_, _, _, rfl, (hT 1 rfl)⟩ (mc := 0) (ms := 0) (Nat.zero_le _) (Nat.zero_le _) ?_
                      refine e_K ?_ F
                      rintro r h' ⟨r30, I29, rfl, rfl, F⟩
                      exact e_121 (f_19 (pc := 136) (e := (136, 121, 0, 0, 0, 0, 0, 0)) rfl) F.1 F.2
  · replace F := F.2 c1
    refine e_12 (f_19 (pc := 8) (e := (8, 12, 1, 0, 0, 0, 0, 9)) rfl) rfl ?_
    refine e_0 (f_19 (pc := 9) (e := (9, 0, 1, 0, 0, 0, 0, 10)) rfl) (v := 1) rfl ?_
    refine e_130 (f_19 (pc := 10) (e := (10, 130, 34, 0, 3, 98, 815, 13)) rfl) zA (as := [yr (some 1), yi 1]) (rest := []) rfl rfl rfl rfl (Nat.le_of_ble_eq_true rfl) (Nat.le_of_ble_eq_true rfl) ⟨_, _, _, rfl, (hT 1 rfl)⟩ (mc := 0) (ms := 0) (Nat.zero_le _) (Nat.zero_le _) ?_
    refine e_K ?_ F
    rintro r h' ⟨r32, I31, rfl, rfl, F⟩
    exact e_121 (f_19 (pc := 13) (e := (13, 121, 0, 0, 0, 0, 0, 14)) rfl) F.1 F.2

/-! ChairAlley$Land.readMark(LChairAlley$Reader;II)Z -/
set_option maxRecDepth 20000 in
theorem B_20_0 (hT : yLT T) (hR : yLR R) {p : Nat} (hp : yAtLand T R p) {x2 x3 : Int} (F : (x2 < 0 → yW l zSS D cy zFk z d 34 0 0 (fun r h' => ∃ r3 I2, r = some (yi r3) ∧ h' = (N, T, R, I2) ∧ ((r3 = 0 ∨ r3 = 1) ∧ K (some (yi r3)) (N, T, R, I2))) 0 0 0 [(0, yr (some 1)), (1, yi 4)] [] (N, T, R, I)) ∧ (¬ (x2 < 0) → (4 < x2 → yW l zSS D cy zFk z d 34 0 0 (fun r h' => ∃ r6 I5, r = some (yi r6) ∧ h' = (N, T, R, I5) ∧ ((r6 = 0 ∨ r6 = 1) ∧ K (some (yi r6)) (N, T, R, I5))) 0 0 0 [(0, yr (some 1)), (1, yi 4)] [] (N, T, R, I)) ∧ (¬ (4 < x2) → 0 ≤ x2 ∧ x2 < 5 ∧ (((I (p + 3) x2.toNat) < x3 → yW l zSS D cy zFk z d 31 0 0 (fun r h' => ∃ I10, r = none ∧ h' = (N, T, R, I10) ∧ (yW l zSS D cy zFk z d 15 0 0 (fun r h' => ∃ r12 I11, r = some (yi r12) ∧ h' = (N, T, R, I11) ∧ (yW l zSS D cy zFk z d 10 0 0 (fun r h' => ∃ r14 I13, r = some (yi r14) ∧ h' = (N, T, R, I13) ∧ ((r14 ≠ 0 → yW l zSS D cy zFk z d 12 0 0 (fun r h' => ∃ r17 I16, r = some (yi r17) ∧ h' = (N, T, R, I16) ∧ ((r17 = 0 → yW l zSS D cy zFk z d 31 0 0 (fun r h' => ∃ I19, r = none ∧ h' = (N, T, R, I19) ∧ (0 ≤ r12 ∧ r12 < 100 ∧ (0 ≤ r12 ∧ r12 < 100 ∧ (∀ I24, I24 = yU I19 (p + 1) r12.toNat (ynar 1 (yor (I19 (p + 1) r12.toNat) (yshl 1 x2))) → (0 ≤ x2 ∧ x2 < 5 ∧ (0 ≤ x2 ∧ x2 < 5 ∧ (∀ I29, I29 = yU I24 (p + 3) x2.toNat (ynar 1 (yadd (I24 (p + 3) x2.toNat) 1)) → (K (some (yi 1)) (N, T, R, I29))))))))) 0 0 0 [(0, yr (some 1))] [] (N, T, R, I16)) ∧ (¬ (r17 = 0) → yW l zSS D cy zFk z d 34 0 0 (fun r h' => ∃ r31 I30, r = some (yi r31) ∧ h' = (N, T, R, I30) ∧ ((r31 = 0 ∨ r31 = 1) ∧ K (some (yi r31)) (N, T, R, I30))) 0 0 0 [(0, yr (some 1)), (1, yi 3)] [] (N, T, R, I16)))) 0 0 0 [(0, yr (some p)), (1, yi r12), (2, yi x2)] [] (N, T, R, I13)) ∧ (¬ (r14 ≠ 0) → K (some (yi 0)) (N, T, R, I13)))) 0 0 0 [(0, yr (some p)), (1, yi r12)] [] (N, T, R, I11))) 0 0 0 [(0, yr (some p)), (1, yr (some 1))] [] (N, T, R, I10))) 0 0 0 [(0, yr (some 1))] [] (N, T, R, I)) ∧ (¬ ((I (p + 3) x2.toNat) < x3) → yW l zSS D cy zFk z d 34 0 0 (fun r h' => ∃ r33 I32, r = some (yi r33) ∧ h' = (N, T, R, I32) ∧ ((r33 = 0 ∨ r33 = 1) ∧ K (some (yi r33)) (N, T, R, I32))) 0 0 0 [(0, yr (some 1)), (1, yi 4)] [] (N, T, R, I)))))) :
    yW l zSS D cy zFk z (d + 1) 20 bc bs K 0 0 0 [(0, yr (some p)), (1, yr (some 1)), (2, yi x2), (3, yi x3)] [] (N, T, R, I) := by
  refine e_10 (f_20 (pc := 0) (e := (0, 10, 2, 0, 0, 0, 0, 1)) rfl) rfl ?_
  refine e_62 (f_20 (pc := 1) (e := (1, 62, 19, 0, 0, 0, 0, 4)) rfl) (fun c1 => ?_) (fun c1 => ?_)
  · replace F := F.1 c1
    refine e_12 (f_20 (pc := 19) (e := (19, 12, 1, 0, 0, 0, 0, 20)) rfl) rfl ?_
    refine e_0 (f_20 (pc := 20) (e := (20, 0, 4, 0, 0, 0, 0, 21)) rfl) (v := 4) rfl ?_
    refine e_130 (f_20 (pc := 21) (e := (21, 130, 34, 0, 3, 98, 815, 24)) rfl) zA (as := [yr (some 1), yi 4]) (rest := []) rfl rfl rfl rfl (Nat.le_of_ble_eq_true rfl) (Nat.le_of_ble_eq_true rfl) ⟨_, _, _, rfl, (hT 1 rfl)⟩ (mc := 0) (ms := 0) (Nat.zero_le _) (Nat.zero_le _) ?_
    refine e_K ?_ F
    rintro r h' ⟨r3, I2, rfl, rfl, F⟩
    exact e_121 (f_20 (pc := 24) (e := (24, 121, 0, 0, 0, 0, 0, 25)) rfl) F.1 F.2
  · replace F := F.2 c1
    refine e_10 (f_20 (pc := 4) (e := (4, 10, 2, 0, 0, 0, 0, 5)) rfl) rfl ?_
    refine e_0 (f_20 (pc := 5) (e := (5, 0, 4, 0, 0, 0, 0, 6)) rfl) (v := 4) rfl ?_
    refine e_74 (f_20 (pc := 6) (e := (6, 74, 19, 0, 0, 0, 0, 9)) rfl) (fun c4 => ?_) (fun c4 => ?_)
    · replace F := F.1 c4
      refine e_12 (f_20 (pc := 19) (e := (19, 12, 1, 0, 0, 0, 0, 20)) rfl) rfl ?_
      refine e_0 (f_20 (pc := 20) (e := (20, 0, 4, 0, 0, 0, 0, 21)) rfl) (v := 4) rfl ?_
      refine e_130 (f_20 (pc := 21) (e := (21, 130, 34, 0, 3, 98, 815, 24)) rfl) zA (as := [yr (some 1), yi 4]) (rest := []) rfl rfl rfl rfl (Nat.le_of_ble_eq_true rfl) (Nat.le_of_ble_eq_true rfl) ⟨_, _, _, rfl, (hT 1 rfl)⟩ (mc := 0) (ms := 0) (Nat.zero_le _) (Nat.zero_le _) ?_
      refine e_K ?_ F
      rintro r h' ⟨r6, I5, rfl, rfl, F⟩
      exact e_121 (f_20 (pc := 24) (e := (24, 121, 0, 0, 0, 0, 0, 25)) rfl) F.1 F.2
    · replace F := F.2 c4
      refine e_12 (f_20 (pc := 9) (e := (9, 12, 0, 0, 0, 0, 0, 10)) rfl) rfl ?_
      refine e_90r zA (f_20 (pc := 10) (e := (10, 90, 1, 4, 3, 18, 800, 13)) rfl) rfl (hp.1 0 rfl) rfl rfl (hp.2 4 rfl) ?_
      refine e_10 (f_20 (pc := 13) (e := (13, 10, 2, 0, 0, 0, 0, 14)) rfl) rfl ?_
      obtain ⟨b7, b8, F⟩ := F
      refine e_110 (f_20 (pc := 14) (e := (14, 110, 0, 0, 0, 0, 0, 15)) rfl) rfl (hp.1 3 rfl) b7 b8 ?_
      refine e_10 (f_20 (pc := 15) (e := (15, 10, 3, 0, 0, 0, 0, 16)) rfl) rfl ?_
      refine e_72 (f_20 (pc := 16) (e := (16, 72, 25, 0, 0, 0, 0, 19)) rfl) (fun c9 => ?_) (fun c9 => ?_)
      · replace F := F.1 c9
        refine e_12 (f_20 (pc := 25) (e := (25, 12, 1, 0, 0, 0, 0, 26)) rfl) rfl ?_
        refine e_130 (f_20 (pc := 26) (e := (26, 130, 31, 0, 3, 126, 816, 29)) rfl) zA (as := [yr (some 1)]) (rest := []) rfl rfl rfl rfl (Nat.le_of_ble_eq_true rfl) (Nat.le_of_ble_eq_true rfl) ⟨_, _, _, rfl, (hT 1 rfl)⟩ (mc := 0) (ms := 0) (Nat.zero_le _) (Nat.zero_le _) ?_
        refine e_K ?_ F
        rintro r h' ⟨I10, rfl, rfl, F⟩
        refine e_12 (f_20 (pc := 29) (e := (29, 12, 0, 0, 0, 0, 0, 30)) rfl) rfl ?_
        refine e_12 (f_20 (pc := 30) (e := (30, 12, 1, 0, 0, 0, 0, 31)) rfl) rfl ?_
        refine e_130 (f_20 (pc := 31) (e := (31, 130, 15, 0, 1, 138, 829, 34)) rfl) zA (as := [yr (some p), yr (some 1)]) (rest := []) rfl rfl rfl rfl (Nat.le_of_ble_eq_true rfl) (Nat.le_of_ble_eq_true rfl) ⟨_, _, _, rfl, (hp.1 0 rfl)⟩ (mc := 0) (ms := 0) (Nat.zero_le _) (Nat.zero_le _) ?_
        refine e_K ?_ F
        rintro r h' ⟨r12, I11, rfl, rfl, F⟩
        refine e_21 (f_20 (pc := 34) (e := (34, 21, 4, 0, 0, 0, 0, 36)) rfl) ?_
        refine e_12 (f_20 (pc := 36) (e := (36, 12, 0, 0, 0, 0, 0, 37)) rfl) rfl ?_
        refine e_11 (f_20 (pc := 37) (e := (37, 11, 4, 0, 0, 0, 0, 39)) rfl) rfl ?_
        refine e_130 (f_20 (pc := 39) (e := (39, 130, 10, 0, 1, 66, 825, 42)) rfl) zA (as := [yr (some p), yi r12]) (rest := []) rfl rfl rfl rfl (Nat.le_of_ble_eq_true rfl) (Nat.le_of_ble_eq_true rfl) ⟨_, _, _, rfl, (hp.1 0 rfl)⟩ (mc := 0) (ms := 0) (Nat.zero_le _) (Nat.zero_le _) ?_
        refine e_K ?_ F
        rintro r h' ⟨r14, I13, rfl, rfl, F⟩
        refine e_61 (f_20 (pc := 42) (e := (42, 61, 47, 0, 0, 0, 0, 45)) rfl) (fun c15 => ?_) (fun c15 => ?_)
        · replace F := F.1 c15
          refine e_12 (f_20 (pc := 47) (e := (47, 12, 0, 0, 0, 0, 0, 48)) rfl) rfl ?_
          refine e_11 (f_20 (pc := 48) (e := (48, 11, 4, 0, 0, 0, 0, 50)) rfl) rfl ?_
          refine e_10 (f_20 (pc := 50) (e := (50, 10, 2, 0, 0, 0, 0, 51)) rfl) rfl ?_
          refine e_130 (f_20 (pc := 51) (e := (51, 130, 12, 0, 1, 74, 814, 54)) rfl) zA (as := [yr (some p), yi r12, yi x2]) (rest := []) rfl rfl rfl rfl (Nat.le_of_ble_eq_true rfl) (Nat.le_of_ble_eq_true rfl) ⟨_, _, _, rfl, (hp.1 0 rfl)⟩ (mc := 0) (ms := 0) (Nat.zero_le _) (Nat.zero_le _) ?_
          refine e_K ?_ F
          rintro r h' ⟨r17, I16, rfl, rfl, F⟩
          refine e_60 (f_20 (pc := 54) (e := (54, 60, 63, 0, 0, 0, 0, 57)) rfl) (fun c18 => ?_) (fun c18 => ?_)
          · replace F := F.1 c18
            refine e_12 (f_20 (pc := 63) (e := (63, 12, 1, 0, 0, 0, 0, 64)) rfl) rfl ?_
            refine e_130 (f_20 (pc := 64) (e := (64, 130, 31, 0, 3, 126, 816, 67)) rfl) zA (as := [yr (some 1)]) (rest := []) rfl rfl rfl rfl (Nat.le_of_ble_eq_true rfl) (Nat.le_of_ble_eq_true rfl) ⟨_, _, _, rfl, (hT 1 rfl)⟩ (mc := 0) (ms := 0) (Nat.zero_le _) (Nat.zero_le _) ?_
            refine e_K ?_ F
            rintro r h' ⟨I19, rfl, rfl, F⟩
            refine e_12 (f_20 (pc := 67) (e := (67, 12, 0, 0, 0, 0, 0, 68)) rfl) rfl ?_
            refine e_90r zA (f_20 (pc := 68) (e := (68, 90, 1, 2, 3, 9, 798, 71)) rfl) rfl (hp.1 0 rfl) rfl rfl (hp.2 2 rfl) ?_
            refine e_11 (f_20 (pc := 71) (e := (71, 11, 4, 0, 0, 0, 0, 73)) rfl) rfl ?_
            refine e_51 (f_20 (pc := 73) (e := (73, 51, 0, 0, 0, 0, 0, 74)) rfl) rfl rfl ?_
            obtain ⟨b20, b21, F⟩ := F
            refine e_110 (f_20 (pc := 74) (e := (74, 110, 0, 0, 0, 0, 0, 75)) rfl) rfl (hp.1 1 rfl) b20 b21 ?_
            refine e_0 (f_20 (pc := 75) (e := (75, 0, 1, 0, 0, 0, 0, 76)) rfl) (v := 1) rfl ?_
            refine e_10 (f_20 (pc := 76) (e := (76, 10, 2, 0, 0, 0, 0, 77)) rfl) rfl ?_
            refine e_38 (f_20 (pc := 77) (e := (77, 38, 0, 0, 0, 0, 0, 78)) rfl) ?_
            refine e_36 (f_20 (pc := 78) (e := (78, 36, 0, 0, 0, 0, 0, 79)) rfl) ?_
            obtain ⟨b22, b23, F⟩ := F
            refine e_111 (f_20 (pc := 79) (e := (79, 111, 0, 0, 0, 0, 0, 80)) rfl) rfl (hp.1 1 rfl) b22 b23 ?_
            replace F := F _ rfl
            refine e_12 (f_20 (pc := 80) (e := (80, 12, 0, 0, 0, 0, 0, 81)) rfl) rfl ?_
            refine e_90r zA (f_20 (pc := 81) (e := (81, 90, 1, 4, 3, 18, 800, 84)) rfl) rfl (hp.1 0 rfl) rfl rfl (hp.2 4 rfl) ?_
            refine e_10 (f_20 (pc := 84) (e := (84, 10, 2, 0, 0, 0, 0, 85)) rfl) rfl ?_
            refine e_51 (f_20 (pc := 85) (e := (85, 51, 0, 0, 0, 0, 0, 86)) rfl) rfl rfl ?_
            obtain ⟨b25, b26, F⟩ := F
            refine e_110 (f_20 (pc := 86) (e := (86, 110, 0, 0, 0, 0, 0, 87)) rfl) rfl (hp.1 3 rfl) b25 b26 ?_
            refine e_0 (f_20 (pc := 87) (e := (87, 0, 1, 0, 0, 0, 0, 88)) rfl) (v := 1) rfl ?_
            refine e_30 (f_20 (pc := 88) (e := (88, 30, 0, 0, 0, 0, 0, 89)) rfl) ?_
            obtain ⟨b27, b28, F⟩ := F
            refine e_111 (f_20 (pc := 89) (e := (89, 111, 0, 0, 0, 0, 0, 90)) rfl) rfl (hp.1 3 rfl) b27 b28 ?_
            replace F := F _ rfl
            refine e_0 (f_20 (pc := 90) (e := (90, 0, 1, 0, 0, 0, 0, 91)) rfl) (v := 1) rfl ?_
            exact e_121 (f_20 (pc := 91) (e := (91, 121, 0, 0, 0, 0, 0, 0)) rfl) (.inr rfl) F
          · replace F := F.2 c18
            refine e_12 (f_20 (pc := 57) (e := (57, 12, 1, 0, 0, 0, 0, 58)) rfl) rfl ?_
            refine e_0 (f_20 (pc := 58) (e := (58, 0, 3, 0, 0, 0, 0, 59)) rfl) (v := 3) rfl ?_
            refine e_130 (f_20 (pc := 59) (e := (59, 130, 34, 0, 3, 98, 815, 62)) rfl) zA (as := [yr (some 1), yi 3]) (rest := []) rfl rfl rfl rfl (Nat.le_of_ble_eq_true rfl) (Nat.le_of_ble_eq_true rfl) ⟨_, _, _, rfl, (hT 1 rfl)⟩ (mc := 0) (ms := 0) (Nat.zero_le _) (Nat.zero_le _) ?_
            refine e_K ?_ F
            rintro r h' ⟨r31, I30, rfl, rfl, F⟩
            exact e_121 (f_20 (pc := 62) (e := (62, 121, 0, 0, 0, 0, 0, 63)) rfl) F.1 F.2
        · replace F := F.2 c15
          refine e_0 (f_20 (pc := 45) (e := (45, 0, 0, 0, 0, 0, 0, 46)) rfl) (v := 0) rfl ?_
          exact e_121 (f_20 (pc := 46) (e := (46, 121, 0, 0, 0, 0, 0, 47)) rfl) (.inl rfl) F
      · replace F := F.2 c9
        refine e_12 (f_20 (pc := 19) (e := (19, 12, 1, 0, 0, 0, 0, 20)) rfl) rfl ?_
        refine e_0 (f_20 (pc := 20) (e := (20, 0, 4, 0, 0, 0, 0, 21)) rfl) (v := 4) rfl ?_
        refine e_130 (f_20 (pc := 21) (e := (21, 130, 34, 0, 3, 98, 815, 24)) rfl) zA (as := [yr (some 1), yi 4]) (rest := []) rfl rfl rfl rfl (Nat.le_of_ble_eq_true rfl) (Nat.le_of_ble_eq_true rfl) ⟨_, _, _, rfl, (hT 1 rfl)⟩ (mc := 0) (ms := 0) (Nat.zero_le _) (Nat.zero_le _) ?_
        refine e_K ?_ F
        rintro r h' ⟨r33, I32, rfl, rfl, F⟩
        exact e_121 (f_20 (pc := 24) (e := (24, 121, 0, 0, 0, 0, 0, 25)) rfl) F.1 F.2

/-! ChairAlley$Land.readName(LChairAlley$Reader;)I -/
set_option maxRecDepth 20000 in
theorem B_21_0 (hT : yLT T) (hR : yLR R) {p : Nat} (hp : yAtLand T R p) (F : yW l zSS D cy zFk z d 36 0 0 (fun r h' => ∃ r2 I1, r = some (yi r2) ∧ h' = (N, T, R, I1) ∧ ((r2 ≠ 0 → yW l zSS D cy zFk z d 6 0 0 (fun r h' => ∃ r5 I4, r = some (yi r5) ∧ h' = (N, T, R, I4) ∧ ((r5 ≠ (-1) → K (some (yi r5)) (N, T, R, I4)) ∧ (¬ (r5 ≠ (-1)) → yW l zSS D cy zFk z d 34 0 0 (fun r h' => ∃ r8 I7, r = some (yi r8) ∧ h' = (N, T, R, I7) ∧ (K (some (yi r5)) (N, T, R, I7))) 0 0 0 [(0, yr (some 1)), (1, yi 3)] [] (N, T, R, I4)))) 0 0 0 [(0, yr (some p)), (1, yj (I1 1 7))] [] (N, T, R, I1)) ∧ (¬ (r2 ≠ 0) → K (some (yi (-1))) (N, T, R, I1)))) 0 0 0 [(0, yr (some 1))] [] (N, T, R, I)) :
    yW l zSS D cy zFk z (d + 1) 21 bc bs K 0 0 0 [(0, yr (some p)), (1, yr (some 1))] [] (N, T, R, I) := by
  refine e_12 (f_21 (pc := 0) (e := (0, 12, 1, 0, 0, 0, 0, 1)) rfl) rfl ?_
  refine e_130 (f_21 (pc := 1) (e := (1, 130, 36, 0, 3, 146, 826, 4)) rfl) zA (as := [yr (some 1)]) (rest := []) rfl rfl rfl rfl (Nat.le_of_ble_eq_true rfl) (Nat.le_of_ble_eq_true rfl) ⟨_, _, _, rfl, (hT 1 rfl)⟩ (mc := 0) (ms := 0) (Nat.zero_le _) (Nat.zero_le _) ?_
  refine e_K ?_ F
  rintro r h' ⟨r2, I1, rfl, rfl, F⟩
  refine e_61 (f_21 (pc := 4) (e := (4, 61, 9, 0, 0, 0, 0, 7)) rfl) (fun c3 => ?_) (fun c3 => ?_)
  · replace F := F.1 c3
    refine e_12 (f_21 (pc := 9) (e := (9, 12, 0, 0, 0, 0, 0, 10)) rfl) rfl ?_
    refine e_12 (f_21 (pc := 10) (e := (10, 12, 1, 0, 0, 0, 0, 11)) rfl) rfl ?_
    refine e_90 zA (f_21 (pc := 11) (e := (11, 90, 3, 7, 1, 149, 827, 14)) rfl) rfl (hT 1 rfl) rfl rfl ?_
    refine e_130 (f_21 (pc := 14) (e := (14, 130, 6, 0, 1, 153, 828, 17)) rfl) zA (as := [yr (some p), yj _]) (rest := []) rfl rfl rfl rfl (Nat.le_of_ble_eq_true rfl) (Nat.le_of_ble_eq_true rfl) ⟨_, _, _, rfl, (hp.1 0 rfl)⟩ (mc := 0) (ms := 0) (Nat.zero_le _) (Nat.zero_le _) ?_
    refine e_K ?_ F
    rintro r h' ⟨r5, I4, rfl, rfl, F⟩
    refine e_20 (f_21 (pc := 17) (e := (17, 20, 2, 0, 0, 0, 0, 18)) rfl) ?_
    refine e_10 (f_21 (pc := 18) (e := (18, 10, 2, 0, 0, 0, 0, 19)) rfl) rfl ?_
    refine e_0 (f_21 (pc := 19) (e := (19, 0, 4294967295, 0, 0, 0, 0, 20)) rfl) (v := (-1)) rfl ?_
    refine e_71 (f_21 (pc := 20) (e := (20, 71, 29, 0, 0, 0, 0, 23)) rfl) (fun c6 => ?_) (fun c6 => ?_)
    · replace F := F.1 c6
      refine e_10 (f_21 (pc := 29) (e := (29, 10, 2, 0, 0, 0, 0, 30)) rfl) rfl ?_
      exact e_120 (f_21 (pc := 30) (e := (30, 120, 0, 0, 0, 0, 0, 0)) rfl) F
    · replace F := F.2 c6
      refine e_12 (f_21 (pc := 23) (e := (23, 12, 1, 0, 0, 0, 0, 24)) rfl) rfl ?_
      refine e_0 (f_21 (pc := 24) (e := (24, 0, 3, 0, 0, 0, 0, 25)) rfl) (v := 3) rfl ?_
      refine e_130 (f_21 (pc := 25) (e := (25, 130, 34, 0, 3, 98, 815, 28)) rfl) zA (as := [yr (some 1), yi 3]) (rest := []) rfl rfl rfl rfl (Nat.le_of_ble_eq_true rfl) (Nat.le_of_ble_eq_true rfl) ⟨_, _, _, rfl, (hT 1 rfl)⟩ (mc := 0) (ms := 0) (Nat.zero_le _) (Nat.zero_le _) ?_
      refine e_K ?_ F
      rintro r h' ⟨r8, I7, rfl, rfl, F⟩
      refine e_52 (f_21 (pc := 28) (e := (28, 52, 0, 0, 0, 0, 0, 29)) rfl) rfl ?_
      refine e_10 (f_21 (pc := 29) (e := (29, 10, 2, 0, 0, 0, 0, 30)) rfl) rfl ?_
      exact e_120 (f_21 (pc := 30) (e := (30, 120, 0, 0, 0, 0, 0, 0)) rfl) F
  · replace F := F.2 c3
    refine e_0 (f_21 (pc := 7) (e := (7, 0, 4294967295, 0, 0, 0, 0, 8)) rfl) (v := (-1)) rfl ?_
    exact e_120 (f_21 (pc := 8) (e := (8, 120, 0, 0, 0, 0, 0, 9)) rfl) F

/-! ChairAlley$Land.readSick(LChairAlley$Reader;)Z -/
set_option maxRecDepth 20000 in
theorem B_22_0 (hT : yLT T) (hR : yLR R) {p : Nat} (hp : yAtLand T R p) (F : yW l zSS D cy zFk z d 31 0 0 (fun r h' => ∃ I1, r = none ∧ h' = (N, T, R, I1) ∧ (yW l zSS D cy zFk z d 21 0 0 (fun r h' => ∃ r3 I2, r = some (yi r3) ∧ h' = (N, T, R, I2) ∧ (yW l zSS D cy zFk z d 11 0 0 (fun r h' => ∃ r5 I4, r = some (yi r5) ∧ h' = (N, T, R, I4) ∧ ((r5 ≠ 0 → 0 ≤ r3 ∧ r3 < 8 ∧ (((I4 (p + 10) r3.toNat) = 0 → yW l zSS D cy zFk z d 31 0 0 (fun r h' => ∃ I10, r = none ∧ h' = (N, T, R, I10) ∧ (0 ≤ r3 ∧ r3 < 8 ∧ (∀ I13, I13 = yU I10 (p + 10) r3.toNat (ynar 3 1) → (K (some (yi 1)) (N, T, R, I13))))) 0 0 0 [(0, yr (some 1))] [] (N, T, R, I4)) ∧ (¬ ((I4 (p + 10) r3.toNat) = 0) → yW l zSS D cy zFk z d 34 0 0 (fun r h' => ∃ r15 I14, r = some (yi r15) ∧ h' = (N, T, R, I14) ∧ ((r15 = 0 ∨ r15 = 1) ∧ K (some (yi r15)) (N, T, R, I14))) 0 0 0 [(0, yr (some 1)), (1, yi 3)] [] (N, T, R, I4)))) ∧ (¬ (r5 ≠ 0) → K (some (yi 0)) (N, T, R, I4)))) 0 0 0 [(0, yr (some p)), (1, yi r3)] [] (N, T, R, I2))) 0 0 0 [(0, yr (some p)), (1, yr (some 1))] [] (N, T, R, I1))) 0 0 0 [(0, yr (some 1))] [] (N, T, R, I)) :
    yW l zSS D cy zFk z (d + 1) 22 bc bs K 0 0 0 [(0, yr (some p)), (1, yr (some 1))] [] (N, T, R, I) := by
  refine e_12 (f_22 (pc := 0) (e := (0, 12, 1, 0, 0, 0, 0, 1)) rfl) rfl ?_
  refine e_130 (f_22 (pc := 1) (e := (1, 130, 31, 0, 3, 126, 816, 4)) rfl) zA (as := [yr (some 1)]) (rest := []) rfl rfl rfl rfl (Nat.le_of_ble_eq_true rfl) (Nat.le_of_ble_eq_true rfl) ⟨_, _, _, rfl, (hT 1 rfl)⟩ (mc := 0) (ms := 0) (Nat.zero_le _) (Nat.zero_le _) ?_
  refine e_K ?_ F
  rintro r h' ⟨I1, rfl, rfl, F⟩
  refine e_12 (f_22 (pc := 4) (e := (4, 12, 0, 0, 0, 0, 0, 5)) rfl) rfl ?_
  refine e_12 (f_22 (pc := 5) (e := (5, 12, 1, 0, 0, 0, 0, 6)) rfl) rfl ?_
  refine e_130 (f_22 (pc := 6) (e := (6, 130, 21, 0, 1, 161, 843, 9)) rfl) zA (as := [yr (some p), yr (some 1)]) (rest := []) rfl rfl rfl rfl (Nat.le_of_ble_eq_true rfl) (Nat.le_of_ble_eq_true rfl) ⟨_, _, _, rfl, (hp.1 0 rfl)⟩ (mc := 0) (ms := 0) (Nat.zero_le _) (Nat.zero_le _) ?_
  refine e_K ?_ F
  rintro r h' ⟨r3, I2, rfl, rfl, F⟩
  refine e_20 (f_22 (pc := 9) (e := (9, 20, 2, 0, 0, 0, 0, 10)) rfl) ?_
  refine e_12 (f_22 (pc := 10) (e := (10, 12, 0, 0, 0, 0, 0, 11)) rfl) rfl ?_
  refine e_10 (f_22 (pc := 11) (e := (11, 10, 2, 0, 0, 0, 0, 12)) rfl) rfl ?_
  refine e_130 (f_22 (pc := 12) (e := (12, 130, 11, 0, 1, 164, 844, 15)) rfl) zA (as := [yr (some p), yi r3]) (rest := []) rfl rfl rfl rfl (Nat.le_of_ble_eq_true rfl) (Nat.le_of_ble_eq_true rfl) ⟨_, _, _, rfl, (hp.1 0 rfl)⟩ (mc := 0) (ms := 0) (Nat.zero_le _) (Nat.zero_le _) ?_
  refine e_K ?_ F
  rintro r h' ⟨r5, I4, rfl, rfl, F⟩
  refine e_61 (f_22 (pc := 15) (e := (15, 61, 20, 0, 0, 0, 0, 18)) rfl) (fun c6 => ?_) (fun c6 => ?_)
  · replace F := F.1 c6
    refine e_12 (f_22 (pc := 20) (e := (20, 12, 0, 0, 0, 0, 0, 21)) rfl) rfl ?_
    refine e_90r zA (f_22 (pc := 21) (e := (21, 90, 1, 12, 3, 40, 807, 24)) rfl) rfl (hp.1 0 rfl) rfl rfl (hp.2 12 rfl) ?_
    refine e_10 (f_22 (pc := 24) (e := (24, 10, 2, 0, 0, 0, 0, 25)) rfl) rfl ?_
    obtain ⟨b7, b8, F⟩ := F
    refine e_112 (f_22 (pc := 25) (e := (25, 112, 0, 0, 0, 0, 0, 26)) rfl) rfl (hp.1 10 rfl) b7 b8 (.inr rfl) ?_
    refine e_60 (f_22 (pc := 26) (e := (26, 60, 35, 0, 0, 0, 0, 29)) rfl) (fun c9 => ?_) (fun c9 => ?_)
    · replace F := F.1 c9
      refine e_12 (f_22 (pc := 35) (e := (35, 12, 1, 0, 0, 0, 0, 36)) rfl) rfl ?_
      refine e_130 (f_22 (pc := 36) (e := (36, 130, 31, 0, 3, 126, 816, 39)) rfl) zA (as := [yr (some 1)]) (rest := []) rfl rfl rfl rfl (Nat.le_of_ble_eq_true rfl) (Nat.le_of_ble_eq_true rfl) ⟨_, _, _, rfl, (hT 1 rfl)⟩ (mc := 0) (ms := 0) (Nat.zero_le _) (Nat.zero_le _) ?_
      refine e_K ?_ F
      rintro r h' ⟨I10, rfl, rfl, F⟩
      refine e_12 (f_22 (pc := 39) (e := (39, 12, 0, 0, 0, 0, 0, 40)) rfl) rfl ?_
      refine e_90r zA (f_22 (pc := 40) (e := (40, 90, 1, 12, 3, 40, 807, 43)) rfl) rfl (hp.1 0 rfl) rfl rfl (hp.2 12 rfl) ?_
      refine e_10 (f_22 (pc := 43) (e := (43, 10, 2, 0, 0, 0, 0, 44)) rfl) rfl ?_
      refine e_0 (f_22 (pc := 44) (e := (44, 0, 1, 0, 0, 0, 0, 45)) rfl) (v := 1) rfl ?_
      obtain ⟨b11, b12, F⟩ := F
      refine e_113 (f_22 (pc := 45) (e := (45, 113, 0, 0, 0, 0, 0, 46)) rfl) rfl (hp.1 10 rfl) b11 b12 (.inr rfl) ?_
      replace F := F _ rfl
      refine e_0 (f_22 (pc := 46) (e := (46, 0, 1, 0, 0, 0, 0, 47)) rfl) (v := 1) rfl ?_
      exact e_121 (f_22 (pc := 47) (e := (47, 121, 0, 0, 0, 0, 0, 0)) rfl) (.inr rfl) F
    · replace F := F.2 c9
      refine e_12 (f_22 (pc := 29) (e := (29, 12, 1, 0, 0, 0, 0, 30)) rfl) rfl ?_
      refine e_0 (f_22 (pc := 30) (e := (30, 0, 3, 0, 0, 0, 0, 31)) rfl) (v := 3) rfl ?_
      refine e_130 (f_22 (pc := 31) (e := (31, 130, 34, 0, 3, 98, 815, 34)) rfl) zA (as := [yr (some 1), yi 3]) (rest := []) rfl rfl rfl rfl (Nat.le_of_ble_eq_true rfl) (Nat.le_of_ble_eq_true rfl) ⟨_, _, _, rfl, (hT 1 rfl)⟩ (mc := 0) (ms := 0) (Nat.zero_le _) (Nat.zero_le _) ?_
      refine e_K ?_ F
      rintro r h' ⟨r15, I14, rfl, rfl, F⟩
      exact e_121 (f_22 (pc := 34) (e := (34, 121, 0, 0, 0, 0, 0, 35)) rfl) F.1 F.2
  · replace F := F.2 c6
    refine e_0 (f_22 (pc := 18) (e := (18, 0, 0, 0, 0, 0, 0, 19)) rfl) (v := 0) rfl ?_
    exact e_121 (f_22 (pc := 19) (e := (19, 121, 0, 0, 0, 0, 0, 20)) rfl) (.inl rfl) F

/-! ChairAlley$Land.readSize(LChairAlley$Reader;)Z -/
set_option maxRecDepth 20000 in
theorem B_23_0 (hT : yLT T) (hR : yLR R) {p : Nat} (hp : yAtLand T R p) (F : ((I p 0) = 0 → yW l zSS D cy zFk z d 31 0 0 (fun r h' => ∃ I2, r = none ∧ h' = (N, T, R, I2) ∧ (yW l zSS D cy zFk z d 42 0 0 (fun r h' => ∃ r4 I3, r = some (yi r4) ∧ h' = (N, T, R, I3) ∧ ((r4 ≠ (-1) → yW l zSS D cy zFk z d 42 0 0 (fun r h' => ∃ r7 I6, r = some (yi r7) ∧ h' = (N, T, R, I6) ∧ ((r7 ≠ (-1) → ∀ I9, I9 = yU I6 p 0 r4 → (∀ I10, I10 = yU I9 p 1 r7 → (K (some (yi 1)) (N, T, R, I10)))) ∧ (¬ (r7 ≠ (-1)) → K (some (yi 0)) (N, T, R, I6)))) 0 0 0 [(0, yr (some 1)), (1, yi 2), (2, yi 10)] [] (N, T, R, I3)) ∧ (¬ (r4 ≠ (-1)) → K (some (yi 0)) (N, T, R, I3)))) 0 0 0 [(0, yr (some 1)), (1, yi 2), (2, yi 10)] [] (N, T, R, I2))) 0 0 0 [(0, yr (some 1))] [] (N, T, R, I)) ∧ (¬ ((I p 0) = 0) → yW l zSS D cy zFk z d 34 0 0 (fun r h' => ∃ r12 I11, r = some (yi r12) ∧ h' = (N, T, R, I11) ∧ ((r12 = 0 ∨ r12 = 1) ∧ K (some (yi r12)) (N, T, R, I11))) 0 0 0 [(0, yr (some 1)), (1, yi 3)] [] (N, T, R, I))) :
    yW l zSS D cy zFk z (d + 1) 23 bc bs K 0 0 0 [(0, yr (some p)), (1, yr (some 1))] [] (N, T, R, I) := by
  refine e_12 (f_23 (pc := 0) (e := (0, 12, 0, 0, 0, 0, 0, 1)) rfl) rfl ?_
  refine e_90 zA (f_23 (pc := 1) (e := (1, 90, 1, 0, 0, 47, 809, 4)) rfl) rfl (hp.1 0 rfl) rfl rfl ?_
  refine e_60 (f_23 (pc := 4) (e := (4, 60, 13, 0, 0, 0, 0, 7)) rfl) (fun c1 => ?_) (fun c1 => ?_)
  · replace F := F.1 c1
    refine e_12 (f_23 (pc := 13) (e := (13, 12, 1, 0, 0, 0, 0, 14)) rfl) rfl ?_
    refine e_130 (f_23 (pc := 14) (e := (14, 130, 31, 0, 3, 126, 816, 17)) rfl) zA (as := [yr (some 1)]) (rest := []) rfl rfl rfl rfl (Nat.le_of_ble_eq_true rfl) (Nat.le_of_ble_eq_true rfl) ⟨_, _, _, rfl, (hT 1 rfl)⟩ (mc := 0) (ms := 0) (Nat.zero_le _) (Nat.zero_le _) ?_
    refine e_K ?_ F
    rintro r h' ⟨I2, rfl, rfl, F⟩
    refine e_12 (f_23 (pc := 17) (e := (17, 12, 1, 0, 0, 0, 0, 18)) rfl) rfl ?_
    refine e_0 (f_23 (pc := 18) (e := (18, 0, 2, 0, 0, 0, 0, 19)) rfl) (v := 2) rfl ?_
    refine e_1 (f_23 (pc := 19) (e := (19, 1, 10, 0, 0, 0, 0, 21)) rfl) (v := 10) rfl ?_
    refine e_130 (f_23 (pc := 21) (e := (21, 130, 42, 0, 3, 129, 822, 24)) rfl) zA (as := [yr (some 1), yi 2, yi 10]) (rest := []) rfl rfl rfl rfl (Nat.le_of_ble_eq_true rfl) (Nat.le_of_ble_eq_true rfl) ⟨_, _, _, rfl, (hT 1 rfl)⟩ (mc := 0) (ms := 0) (Nat.zero_le _) (Nat.zero_le _) ?_
    refine e_K ?_ F
    rintro r h' ⟨r4, I3, rfl, rfl, F⟩
    refine e_20 (f_23 (pc := 24) (e := (24, 20, 2, 0, 0, 0, 0, 25)) rfl) ?_
    refine e_10 (f_23 (pc := 25) (e := (25, 10, 2, 0, 0, 0, 0, 26)) rfl) rfl ?_
    refine e_0 (f_23 (pc := 26) (e := (26, 0, 4294967295, 0, 0, 0, 0, 27)) rfl) (v := (-1)) rfl ?_
    refine e_71 (f_23 (pc := 27) (e := (27, 71, 34, 0, 0, 0, 0, 30)) rfl) (fun c5 => ?_) (fun c5 => ?_)
    · replace F := F.1 c5
      refine e_12 (f_23 (pc := 34) (e := (34, 12, 1, 0, 0, 0, 0, 35)) rfl) rfl ?_
      refine e_0 (f_23 (pc := 35) (e := (35, 0, 2, 0, 0, 0, 0, 36)) rfl) (v := 2) rfl ?_
      refine e_1 (f_23 (pc := 36) (e := (36, 1, 10, 0, 0, 0, 0, 38)) rfl) (v := 10) rfl ?_
      refine e_130 (f_23 (pc := 38) (e := (38, 130, 42, 0, 3, 129, 822, 41)) rfl) zA (as := [yr (some 1), yi 2, yi 10]) (rest := []) rfl rfl rfl rfl (Nat.le_of_ble_eq_true rfl) (Nat.le_of_ble_eq_true rfl) ⟨_, _, _, rfl, (hT 1 rfl)⟩ (mc := 0) (ms := 0) (Nat.zero_le _) (Nat.zero_le _) ?_
      refine e_K ?_ F
      rintro r h' ⟨r7, I6, rfl, rfl, F⟩
      refine e_20 (f_23 (pc := 41) (e := (41, 20, 3, 0, 0, 0, 0, 42)) rfl) ?_
      refine e_10 (f_23 (pc := 42) (e := (42, 10, 3, 0, 0, 0, 0, 43)) rfl) rfl ?_
      refine e_0 (f_23 (pc := 43) (e := (43, 0, 4294967295, 0, 0, 0, 0, 44)) rfl) (v := (-1)) rfl ?_
      refine e_71 (f_23 (pc := 44) (e := (44, 71, 49, 0, 0, 0, 0, 47)) rfl) (fun c8 => ?_) (fun c8 => ?_)
      · replace F := F.1 c8
        refine e_12 (f_23 (pc := 49) (e := (49, 12, 0, 0, 0, 0, 0, 50)) rfl) rfl ?_
        refine e_10 (f_23 (pc := 50) (e := (50, 10, 2, 0, 0, 0, 0, 51)) rfl) rfl ?_
        refine e_91 zA (f_23 (pc := 51) (e := (51, 91, 1, 0, 0, 47, 809, 54)) rfl) rfl (hp.1 0 rfl) rfl rfl trivial ?_
        replace F := F _ rfl
        refine e_12 (f_23 (pc := 54) (e := (54, 12, 0, 0, 0, 0, 0, 55)) rfl) rfl ?_
        refine e_10 (f_23 (pc := 55) (e := (55, 10, 3, 0, 0, 0, 0, 56)) rfl) rfl ?_
        refine e_91 zA (f_23 (pc := 56) (e := (56, 91, 1, 1, 0, 51, 810, 59)) rfl) rfl (hp.1 0 rfl) rfl rfl trivial ?_
        replace F := F _ rfl
        refine e_0 (f_23 (pc := 59) (e := (59, 0, 1, 0, 0, 0, 0, 60)) rfl) (v := 1) rfl ?_
        exact e_121 (f_23 (pc := 60) (e := (60, 121, 0, 0, 0, 0, 0, 0)) rfl) (.inr rfl) F
      · replace F := F.2 c8
        refine e_0 (f_23 (pc := 47) (e := (47, 0, 0, 0, 0, 0, 0, 48)) rfl) (v := 0) rfl ?_
        exact e_121 (f_23 (pc := 48) (e := (48, 121, 0, 0, 0, 0, 0, 49)) rfl) (.inl rfl) F
    · replace F := F.2 c5
      refine e_0 (f_23 (pc := 30) (e := (30, 0, 4294967295, 0, 0, 0, 0, 31)) rfl) (v := (-1)) rfl ?_
      refine e_80 (f_23 (pc := 31) (e := (31, 80, 41, 0, 0, 0, 0, 34)) rfl) ?_
      refine e_20 (f_23 (pc := 41) (e := (41, 20, 3, 0, 0, 0, 0, 42)) rfl) ?_
      refine e_10 (f_23 (pc := 42) (e := (42, 10, 3, 0, 0, 0, 0, 43)) rfl) rfl ?_
      refine e_0 (f_23 (pc := 43) (e := (43, 0, 4294967295, 0, 0, 0, 0, 44)) rfl) (v := (-1)) rfl ?_
      refine e_71 (f_23 (pc := 44) (e := (44, 71, 49, 0, 0, 0, 0, 47)) rfl) (fun g => absurd g (by decide)) (fun _ => ?_)
      refine e_0 (f_23 (pc := 47) (e := (47, 0, 0, 0, 0, 0, 0, 48)) rfl) (v := 0) rfl ?_
      exact e_121 (f_23 (pc := 48) (e := (48, 121, 0, 0, 0, 0, 0, 49)) rfl) (.inl rfl) F
  · replace F := F.2 c1
    refine e_12 (f_23 (pc := 7) (e := (7, 12, 1, 0, 0, 0, 0, 8)) rfl) rfl ?_
    refine e_0 (f_23 (pc := 8) (e := (8, 0, 3, 0, 0, 0, 0, 9)) rfl) (v := 3) rfl ?_
    refine e_130 (f_23 (pc := 9) (e := (9, 130, 34, 0, 3, 98, 815, 12)) rfl) zA (as := [yr (some 1), yi 3]) (rest := []) rfl rfl rfl rfl (Nat.le_of_ble_eq_true rfl) (Nat.le_of_ble_eq_true rfl) ⟨_, _, _, rfl, (hT 1 rfl)⟩ (mc := 0) (ms := 0) (Nat.zero_le _) (Nat.zero_le _) ?_
    refine e_K ?_ F
    rintro r h' ⟨r12, I11, rfl, rfl, F⟩
    exact e_121 (f_23 (pc := 12) (e := (12, 121, 0, 0, 0, 0, 0, 13)) rfl) F.1 F.2

/-! ChairAlley$Land.readStart(LChairAlley$Reader;)Z -/
set_option maxRecDepth 20000 in
theorem B_24_0 (hT : yLT T) (hR : yLR R) {p : Nat} (hp : yAtLand T R p) (F : yW l zSS D cy zFk z d 31 0 0 (fun r h' => ∃ I1, r = none ∧ h' = (N, T, R, I1) ∧ (yW l zSS D cy zFk z d 21 0 0 (fun r h' => ∃ r3 I2, r = some (yi r3) ∧ h' = (N, T, R, I2) ∧ (yW l zSS D cy zFk z d 11 0 0 (fun r h' => ∃ r5 I4, r = some (yi r5) ∧ h' = (N, T, R, I4) ∧ ((r5 ≠ 0 → 0 ≤ r3 ∧ r3 < 8 ∧ (((I4 (p + 9) r3.toNat) = (-1) → yW l zSS D cy zFk z d 31 0 0 (fun r h' => ∃ I10, r = none ∧ h' = (N, T, R, I10) ∧ (yW l zSS D cy zFk z d 42 0 0 (fun r h' => ∃ r12 I11, r = some (yi r12) ∧ h' = (N, T, R, I11) ∧ (0 ≤ r3 ∧ r3 < 8 ∧ (∀ I15, I15 = yU I11 (p + 9) r3.toNat (ynar 1 r12) → (0 ≤ r3 ∧ r3 < 8 ∧ (((I15 (p + 9) r3.toNat) = (-1) → K (some (yi 0)) (N, T, R, I15)) ∧ (¬ ((I15 (p + 9) r3.toNat) = (-1)) → K (some (yi 1)) (N, T, R, I15))))))) 0 0 0 [(0, yr (some 1)), (1, yi 0), (2, yi 99)] [] (N, T, R, I10))) 0 0 0 [(0, yr (some 1))] [] (N, T, R, I4)) ∧ (¬ ((I4 (p + 9) r3.toNat) = (-1)) → yW l zSS D cy zFk z d 34 0 0 (fun r h' => ∃ r20 I19, r = some (yi r20) ∧ h' = (N, T, R, I19) ∧ ((r20 = 0 ∨ r20 = 1) ∧ K (some (yi r20)) (N, T, R, I19))) 0 0 0 [(0, yr (some 1)), (1, yi 3)] [] (N, T, R, I4)))) ∧ (¬ (r5 ≠ 0) → K (some (yi 0)) (N, T, R, I4)))) 0 0 0 [(0, yr (some p)), (1, yi r3)] [] (N, T, R, I2))) 0 0 0 [(0, yr (some p)), (1, yr (some 1))] [] (N, T, R, I1))) 0 0 0 [(0, yr (some 1))] [] (N, T, R, I)) :
    yW l zSS D cy zFk z (d + 1) 24 bc bs K 0 0 0 [(0, yr (some p)), (1, yr (some 1))] [] (N, T, R, I) := by
  refine e_12 (f_24 (pc := 0) (e := (0, 12, 1, 0, 0, 0, 0, 1)) rfl) rfl ?_
  refine e_130 (f_24 (pc := 1) (e := (1, 130, 31, 0, 3, 126, 816, 4)) rfl) zA (as := [yr (some 1)]) (rest := []) rfl rfl rfl rfl (Nat.le_of_ble_eq_true rfl) (Nat.le_of_ble_eq_true rfl) ⟨_, _, _, rfl, (hT 1 rfl)⟩ (mc := 0) (ms := 0) (Nat.zero_le _) (Nat.zero_le _) ?_
  refine e_K ?_ F
  rintro r h' ⟨I1, rfl, rfl, F⟩
  refine e_12 (f_24 (pc := 4) (e := (4, 12, 0, 0, 0, 0, 0, 5)) rfl) rfl ?_
  refine e_12 (f_24 (pc := 5) (e := (5, 12, 1, 0, 0, 0, 0, 6)) rfl) rfl ?_
  refine e_130 (f_24 (pc := 6) (e := (6, 130, 21, 0, 1, 161, 843, 9)) rfl) zA (as := [yr (some p), yr (some 1)]) (rest := []) rfl rfl rfl rfl (Nat.le_of_ble_eq_true rfl) (Nat.le_of_ble_eq_true rfl) ⟨_, _, _, rfl, (hp.1 0 rfl)⟩ (mc := 0) (ms := 0) (Nat.zero_le _) (Nat.zero_le _) ?_
  refine e_K ?_ F
  rintro r h' ⟨r3, I2, rfl, rfl, F⟩
  refine e_20 (f_24 (pc := 9) (e := (9, 20, 2, 0, 0, 0, 0, 10)) rfl) ?_
  refine e_12 (f_24 (pc := 10) (e := (10, 12, 0, 0, 0, 0, 0, 11)) rfl) rfl ?_
  refine e_10 (f_24 (pc := 11) (e := (11, 10, 2, 0, 0, 0, 0, 12)) rfl) rfl ?_
  refine e_130 (f_24 (pc := 12) (e := (12, 130, 11, 0, 1, 164, 844, 15)) rfl) zA (as := [yr (some p), yi r3]) (rest := []) rfl rfl rfl rfl (Nat.le_of_ble_eq_true rfl) (Nat.le_of_ble_eq_true rfl) ⟨_, _, _, rfl, (hp.1 0 rfl)⟩ (mc := 0) (ms := 0) (Nat.zero_le _) (Nat.zero_le _) ?_
  refine e_K ?_ F
  rintro r h' ⟨r5, I4, rfl, rfl, F⟩
  refine e_61 (f_24 (pc := 15) (e := (15, 61, 20, 0, 0, 0, 0, 18)) rfl) (fun c6 => ?_) (fun c6 => ?_)
  · replace F := F.1 c6
    refine e_12 (f_24 (pc := 20) (e := (20, 12, 0, 0, 0, 0, 0, 21)) rfl) rfl ?_
    refine e_90r zA (f_24 (pc := 21) (e := (21, 90, 1, 11, 3, 37, 806, 24)) rfl) rfl (hp.1 0 rfl) rfl rfl (hp.2 11 rfl) ?_
    refine e_10 (f_24 (pc := 24) (e := (24, 10, 2, 0, 0, 0, 0, 25)) rfl) rfl ?_
    obtain ⟨b7, b8, F⟩ := F
    refine e_110 (f_24 (pc := 25) (e := (25, 110, 0, 0, 0, 0, 0, 26)) rfl) rfl (hp.1 9 rfl) b7 b8 ?_
    refine e_0 (f_24 (pc := 26) (e := (26, 0, 4294967295, 0, 0, 0, 0, 27)) rfl) (v := (-1)) rfl ?_
    refine e_70 (f_24 (pc := 27) (e := (27, 70, 36, 0, 0, 0, 0, 30)) rfl) (fun c9 => ?_) (fun c9 => ?_)
    · replace F := F.1 c9
      refine e_12 (f_24 (pc := 36) (e := (36, 12, 1, 0, 0, 0, 0, 37)) rfl) rfl ?_
      refine e_130 (f_24 (pc := 37) (e := (37, 130, 31, 0, 3, 126, 816, 40)) rfl) zA (as := [yr (some 1)]) (rest := []) rfl rfl rfl rfl (Nat.le_of_ble_eq_true rfl) (Nat.le_of_ble_eq_true rfl) ⟨_, _, _, rfl, (hT 1 rfl)⟩ (mc := 0) (ms := 0) (Nat.zero_le _) (Nat.zero_le _) ?_
      refine e_K ?_ F
      rintro r h' ⟨I10, rfl, rfl, F⟩
      refine e_12 (f_24 (pc := 40) (e := (40, 12, 0, 0, 0, 0, 0, 41)) rfl) rfl ?_
      refine e_90r zA (f_24 (pc := 41) (e := (41, 90, 1, 11, 3, 37, 806, 44)) rfl) rfl (hp.1 0 rfl) rfl rfl (hp.2 11 rfl) ?_
      refine e_10 (f_24 (pc := 44) (e := (44, 10, 2, 0, 0, 0, 0, 45)) rfl) rfl ?_
      refine e_12 (f_24 (pc := 45) (e := (45, 12, 1, 0, 0, 0, 0, 46)) rfl) rfl ?_
      refine e_0 (f_24 (pc := 46) (e := (46, 0, 0, 0, 0, 0, 0, 47)) rfl) (v := 0) rfl ?_
      refine e_1 (f_24 (pc := 47) (e := (47, 1, 99, 0, 0, 0, 0, 49)) rfl) (v := 99) rfl ?_
      refine e_130 (f_24 (pc := 49) (e := (49, 130, 42, 0, 3, 129, 822, 52)) rfl) zA (as := [yr (some 1), yi 0, yi 99]) (rest := [yi r3, yr (some (p + 9))]) rfl rfl rfl rfl (Nat.le_of_ble_eq_true rfl) (Nat.le_of_ble_eq_true rfl) ⟨_, _, _, rfl, (hT 1 rfl)⟩ (mc := 0) (ms := 0) (Nat.zero_le _) (Nat.zero_le _) ?_
      refine e_K ?_ F
      rintro r h' ⟨r12, I11, rfl, rfl, F⟩
      obtain ⟨b13, b14, F⟩ := F
      refine e_111 (f_24 (pc := 52) (e := (52, 111, 0, 0, 0, 0, 0, 53)) rfl) rfl (hp.1 9 rfl) b13 b14 ?_
      replace F := F _ rfl
      refine e_12 (f_24 (pc := 53) (e := (53, 12, 0, 0, 0, 0, 0, 54)) rfl) rfl ?_
      refine e_90r zA (f_24 (pc := 54) (e := (54, 90, 1, 11, 3, 37, 806, 57)) rfl) rfl (hp.1 0 rfl) rfl rfl (hp.2 11 rfl) ?_
      refine e_10 (f_24 (pc := 57) (e := (57, 10, 2, 0, 0, 0, 0, 58)) rfl) rfl ?_
      obtain ⟨b16, b17, F⟩ := F
      refine e_110 (f_24 (pc := 58) (e := (58, 110, 0, 0, 0, 0, 0, 59)) rfl) rfl (hp.1 9 rfl) b16 b17 ?_
      refine e_0 (f_24 (pc := 59) (e := (59, 0, 4294967295, 0, 0, 0, 0, 60)) rfl) (v := (-1)) rfl ?_
      refine e_70 (f_24 (pc := 60) (e := (60, 70, 67, 0, 0, 0, 0, 63)) rfl) (fun c18 => ?_) (fun c18 => ?_)
      · replace F := F.1 c18
        refine e_0 (f_24 (pc := 67) (e := (67, 0, 0, 0, 0, 0, 0, 68)) rfl) (v := 0) rfl ?_
        exact e_121 (f_24 (pc := 68) (e := (68, 121, 0, 0, 0, 0, 0, 0)) rfl) (.inl rfl) F
      · replace F := F.2 c18
        refine e_0 (f_24 (pc := 63) (e := (63, 0, 1, 0, 0, 0, 0, 64)) rfl) (v := 1) rfl ?_
        refine e_80 (f_24 (pc := 64) (e := (64, 80, 68, 0, 0, 0, 0, 67)) rfl) ?_
        exact e_121 (f_24 (pc := 68) (e := (68, 121, 0, 0, 0, 0, 0, 0)) rfl) (.inr rfl) F
    · replace F := F.2 c9
      refine e_12 (f_24 (pc := 30) (e := (30, 12, 1, 0, 0, 0, 0, 31)) rfl) rfl ?_
      refine e_0 (f_24 (pc := 31) (e := (31, 0, 3, 0, 0, 0, 0, 32)) rfl) (v := 3) rfl ?_
      refine e_130 (f_24 (pc := 32) (e := (32, 130, 34, 0, 3, 98, 815, 35)) rfl) zA (as := [yr (some 1), yi 3]) (rest := []) rfl rfl rfl rfl (Nat.le_of_ble_eq_true rfl) (Nat.le_of_ble_eq_true rfl) ⟨_, _, _, rfl, (hT 1 rfl)⟩ (mc := 0) (ms := 0) (Nat.zero_le _) (Nat.zero_le _) ?_
      refine e_K ?_ F
      rintro r h' ⟨r20, I19, rfl, rfl, F⟩
      exact e_121 (f_24 (pc := 35) (e := (35, 121, 0, 0, 0, 0, 0, 36)) rfl) F.1 F.2
  · replace F := F.2 c6
    refine e_0 (f_24 (pc := 18) (e := (18, 0, 0, 0, 0, 0, 0, 19)) rfl) (v := 0) rfl ?_
    exact e_121 (f_24 (pc := 19) (e := (19, 121, 0, 0, 0, 0, 0, 20)) rfl) (.inl rfl) F

/-! ChairAlley$Land.target([III)I -/
set_option maxRecDepth 20000 in
theorem B_25_0 (hT : yLT T) (hR : yLR R) {p : Nat} (hp : yAtLand T R p) {w : Nat} (hw : T w = (1, 100)) {x2 x3 : Int} (F : yW l zSS D cy zFk z d 10 0 0 (fun r h' => ∃ r2 I1, r = some (yi r2) ∧ h' = (N, T, R, I1) ∧ ((r2 = 0 → K (some (yi (-1))) (N, T, R, I1)) ∧ (¬ (r2 = 0) → (x2 < 100 → 0 ≤ x2 ∧ x2 < 100 ∧ (((I1 w x2.toNat) = (-1) → yW l zSS D cy zFk z d 5 0 0 (fun r h' => ∃ r9 I8, r = some (yi r9) ∧ h' = (N, T, R, I8) ∧ (yW l zSS D cy zFk z d 12 0 0 (fun r h' => ∃ r11 I10, r = some (yi r11) ∧ h' = (N, T, R, I10) ∧ ((r11 = 0 → K (some (yi r9)) (N, T, R, I10)) ∧ (¬ (r11 = 0) → K (some (yi (-1))) (N, T, R, I10)))) 0 0 0 [(0, yr (some p)), (1, yi r9), (2, yi 1)] [] (N, T, R, I8))) 0 0 0 [(0, yr (some p)), (1, yi x2), (2, yi x3)] [] (N, T, R, I1)) ∧ (¬ ((I1 w x2.toNat) = (-1)) → 0 ≤ x2 ∧ x2 < 100 ∧ (((I1 w x2.toNat) = x3 → yW l zSS D cy zFk z d 5 0 0 (fun r h' => ∃ r17 I16, r = some (yi r17) ∧ h' = (N, T, R, I16) ∧ (yW l zSS D cy zFk z d 12 0 0 (fun r h' => ∃ r19 I18, r = some (yi r19) ∧ h' = (N, T, R, I18) ∧ ((r19 = 0 → K (some (yi r17)) (N, T, R, I18)) ∧ (¬ (r19 = 0) → K (some (yi (-1))) (N, T, R, I18)))) 0 0 0 [(0, yr (some p)), (1, yi r17), (2, yi 1)] [] (N, T, R, I16))) 0 0 0 [(0, yr (some p)), (1, yi x2), (2, yi x3)] [] (N, T, R, I1)) ∧ (¬ ((I1 w x2.toNat) = x3) → K (some (yi (-1))) (N, T, R, I1)))))) ∧ (¬ (x2 < 100) → K (some (yi (-1))) (N, T, R, I1))))) 0 0 0 [(0, yr (some p)), (1, yi x2)] [] (N, T, R, I)) :
    yW l zSS D cy zFk z (d + 1) 25 bc bs K 0 0 0 [(0, yr (some p)), (1, yr (some w)), (2, yi x2), (3, yi x3)] [] (N, T, R, I) := by
  refine e_12 (f_25 (pc := 0) (e := (0, 12, 0, 0, 0, 0, 0, 1)) rfl) rfl ?_
  refine e_10 (f_25 (pc := 1) (e := (1, 10, 2, 0, 0, 0, 0, 2)) rfl) rfl ?_
  refine e_130 (f_25 (pc := 2) (e := (2, 130, 10, 0, 1, 66, 825, 5)) rfl) zA (as := [yr (some p), yi x2]) (rest := []) rfl rfl rfl rfl (Nat.le_of_ble_eq_true rfl) (Nat.le_of_ble_eq_true rfl) ⟨_, _, _, rfl, (hp.1 0 rfl)⟩ (mc := 0) (ms := 0) (Nat.zero_le _) (Nat.zero_le _) ?_
  refine e_K ?_ F
  rintro r h' ⟨r2, I1, rfl, rfl, F⟩
  refine e_60 (f_25 (pc := 5) (e := (5, 60, 14, 0, 0, 0, 0, 8)) rfl) (fun c3 => ?_) (fun c3 => ?_)
  · replace F := F.1 c3
    refine e_0 (f_25 (pc := 14) (e := (14, 0, 4294967295, 0, 0, 0, 0, 15)) rfl) (v := (-1)) rfl ?_
    exact e_120 (f_25 (pc := 15) (e := (15, 120, 0, 0, 0, 0, 0, 16)) rfl) F
  · replace F := F.2 c3
    refine e_10 (f_25 (pc := 8) (e := (8, 10, 2, 0, 0, 0, 0, 9)) rfl) rfl ?_
    refine e_12 (f_25 (pc := 9) (e := (9, 12, 1, 0, 0, 0, 0, 10)) rfl) rfl ?_
    refine e_103 (f_25 (pc := 10) (e := (10, 103, 0, 0, 0, 0, 0, 11)) rfl) rfl hw (by decide) (by decide) ?_
    refine e_72 (f_25 (pc := 11) (e := (11, 72, 16, 0, 0, 0, 0, 14)) rfl) (fun c4 => ?_) (fun c4 => ?_)
    · replace F := F.1 c4
      refine e_12 (f_25 (pc := 16) (e := (16, 12, 1, 0, 0, 0, 0, 17)) rfl) rfl ?_
      refine e_10 (f_25 (pc := 17) (e := (17, 10, 2, 0, 0, 0, 0, 18)) rfl) rfl ?_
      obtain ⟨b5, b6, F⟩ := F
      refine e_110 (f_25 (pc := 18) (e := (18, 110, 0, 0, 0, 0, 0, 19)) rfl) rfl hw b5 b6 ?_
      refine e_0 (f_25 (pc := 19) (e := (19, 0, 4294967295, 0, 0, 0, 0, 20)) rfl) (v := (-1)) rfl ?_
      refine e_70 (f_25 (pc := 20) (e := (20, 70, 32, 0, 0, 0, 0, 23)) rfl) (fun c7 => ?_) (fun c7 => ?_)
      · replace F := F.1 c7
        refine e_12 (f_25 (pc := 32) (e := (32, 12, 0, 0, 0, 0, 0, 33)) rfl) rfl ?_
        refine e_10 (f_25 (pc := 33) (e := (33, 10, 2, 0, 0, 0, 0, 34)) rfl) rfl ?_
        refine e_10 (f_25 (pc := 34) (e := (34, 10, 3, 0, 0, 0, 0, 35)) rfl) rfl ?_
        refine e_130 (f_25 (pc := 35) (e := (35, 130, 5, 0, 1, 70, 845, 38)) rfl) zA (as := [yr (some p), yi x2, yi x3]) (rest := []) rfl rfl rfl rfl (Nat.le_of_ble_eq_true rfl) (Nat.le_of_ble_eq_true rfl) ⟨_, _, _, rfl, (hp.1 0 rfl)⟩ (mc := 0) (ms := 0) (Nat.zero_le _) (Nat.zero_le _) ?_
        refine e_K ?_ F
        rintro r h' ⟨r9, I8, rfl, rfl, F⟩
        refine e_21 (f_25 (pc := 38) (e := (38, 21, 4, 0, 0, 0, 0, 40)) rfl) ?_
        refine e_12 (f_25 (pc := 40) (e := (40, 12, 0, 0, 0, 0, 0, 41)) rfl) rfl ?_
        refine e_11 (f_25 (pc := 41) (e := (41, 11, 4, 0, 0, 0, 0, 43)) rfl) rfl ?_
        refine e_0 (f_25 (pc := 43) (e := (43, 0, 1, 0, 0, 0, 0, 44)) rfl) (v := 1) rfl ?_
        refine e_130 (f_25 (pc := 44) (e := (44, 130, 12, 0, 1, 74, 814, 47)) rfl) zA (as := [yr (some p), yi r9, yi 1]) (rest := []) rfl rfl rfl rfl (Nat.le_of_ble_eq_true rfl) (Nat.le_of_ble_eq_true rfl) ⟨_, _, _, rfl, (hp.1 0 rfl)⟩ (mc := 0) (ms := 0) (Nat.zero_le _) (Nat.zero_le _) ?_
        refine e_K ?_ F
        rintro r h' ⟨r11, I10, rfl, rfl, F⟩
        refine e_60 (f_25 (pc := 47) (e := (47, 60, 54, 0, 0, 0, 0, 50)) rfl) (fun c12 => ?_) (fun c12 => ?_)
        · replace F := F.1 c12
          refine e_11 (f_25 (pc := 54) (e := (54, 11, 4, 0, 0, 0, 0, 56)) rfl) rfl ?_
          exact e_120 (f_25 (pc := 56) (e := (56, 120, 0, 0, 0, 0, 0, 0)) rfl) F
        · replace F := F.2 c12
          refine e_0 (f_25 (pc := 50) (e := (50, 0, 4294967295, 0, 0, 0, 0, 51)) rfl) (v := (-1)) rfl ?_
          refine e_80 (f_25 (pc := 51) (e := (51, 80, 56, 0, 0, 0, 0, 54)) rfl) ?_
          exact e_120 (f_25 (pc := 56) (e := (56, 120, 0, 0, 0, 0, 0, 0)) rfl) F
      · replace F := F.2 c7
        refine e_12 (f_25 (pc := 23) (e := (23, 12, 1, 0, 0, 0, 0, 24)) rfl) rfl ?_
        refine e_10 (f_25 (pc := 24) (e := (24, 10, 2, 0, 0, 0, 0, 25)) rfl) rfl ?_
        obtain ⟨b13, b14, F⟩ := F
        refine e_110 (f_25 (pc := 25) (e := (25, 110, 0, 0, 0, 0, 0, 26)) rfl) rfl hw b13 b14 ?_
        refine e_10 (f_25 (pc := 26) (e := (26, 10, 3, 0, 0, 0, 0, 27)) rfl) rfl ?_
        refine e_70 (f_25 (pc := 27) (e := (27, 70, 32, 0, 0, 0, 0, 30)) rfl) (fun c15 => ?_) (fun c15 => ?_)
        · replace F := F.1 c15
          refine e_12 (f_25 (pc := 32) (e := (32, 12, 0, 0, 0, 0, 0, 33)) rfl) rfl ?_
          refine e_10 (f_25 (pc := 33) (e := (33, 10, 2, 0, 0, 0, 0, 34)) rfl) rfl ?_
          refine e_10 (f_25 (pc := 34) (e := (34, 10, 3, 0, 0, 0, 0, 35)) rfl) rfl ?_
          refine e_130 (f_25 (pc := 35) (e := (35, 130, 5, 0, 1, 70, 845, 38)) rfl) zA (as := [yr (some p), yi x2, yi x3]) (rest := []) rfl rfl rfl rfl (Nat.le_of_ble_eq_true rfl) (Nat.le_of_ble_eq_true rfl) ⟨_, _, _, rfl, (hp.1 0 rfl)⟩ (mc := 0) (ms := 0) (Nat.zero_le _) (Nat.zero_le _) ?_
          refine e_K ?_ F
          rintro r h' ⟨r17, I16, rfl, rfl, F⟩
          refine e_21 (f_25 (pc := 38) (e := (38, 21, 4, 0, 0, 0, 0, 40)) rfl) ?_
          refine e_12 (f_25 (pc := 40) (e := (40, 12, 0, 0, 0, 0, 0, 41)) rfl) rfl ?_
          refine e_11 (f_25 (pc := 41) (e := (41, 11, 4, 0, 0, 0, 0, 43)) rfl) rfl ?_
          refine e_0 (f_25 (pc := 43) (e := (43, 0, 1, 0, 0, 0, 0, 44)) rfl) (v := 1) rfl ?_
          refine e_130 (f_25 (pc := 44) (e := (44, 130, 12, 0, 1, 74, 814, 47)) rfl) zA (as := [yr (some p), yi r17, yi 1]) (rest := []) rfl rfl rfl rfl (Nat.le_of_ble_eq_true rfl) (Nat.le_of_ble_eq_true rfl) ⟨_, _, _, rfl, (hp.1 0 rfl)⟩ (mc := 0) (ms := 0) (Nat.zero_le _) (Nat.zero_le _) ?_
          refine e_K ?_ F
          rintro r h' ⟨r19, I18, rfl, rfl, F⟩
          refine e_60 (f_25 (pc := 47) (e := (47, 60, 54, 0, 0, 0, 0, 50)) rfl) (fun c20 => ?_) (fun c20 => ?_)
          · replace F := F.1 c20
            refine e_11 (f_25 (pc := 54) (e := (54, 11, 4, 0, 0, 0, 0, 56)) rfl) rfl ?_
            exact e_120 (f_25 (pc := 56) (e := (56, 120, 0, 0, 0, 0, 0, 0)) rfl) F
          · replace F := F.2 c20
            refine e_0 (f_25 (pc := 50) (e := (50, 0, 4294967295, 0, 0, 0, 0, 51)) rfl) (v := (-1)) rfl ?_
            refine e_80 (f_25 (pc := 51) (e := (51, 80, 56, 0, 0, 0, 0, 54)) rfl) ?_
            exact e_120 (f_25 (pc := 56) (e := (56, 120, 0, 0, 0, 0, 0, 0)) rfl) F
        · replace F := F.2 c15
          refine e_0 (f_25 (pc := 30) (e := (30, 0, 4294967295, 0, 0, 0, 0, 31)) rfl) (v := (-1)) rfl ?_
          exact e_120 (f_25 (pc := 31) (e := (31, 120, 0, 0, 0, 0, 0, 32)) rfl) F
    · replace F := F.2 c4
      refine e_0 (f_25 (pc := 14) (e := (14, 0, 4294967295, 0, 0, 0, 0, 15)) rfl) (v := (-1)) rfl ?_
      exact e_120 (f_25 (pc := 15) (e := (15, 120, 0, 0, 0, 0, 0, 16)) rfl) F

/-! ChairAlley$Plan.copyFrom(LChairAlley$Plan;)V -/
set_option maxRecDepth 20000 in
theorem B_27_0 (hT : yLT T) (hR : yLR R) {p : Nat} (hp : yAtPlan T R p) {q : Nat} (hq : yAtPlan T R q) (F : ∀ I1, I1 = yU I p 0 (I q 0) → (∀ I2, I2 = yC I1 (q + 1) (p + 1) 40 → (K none (N, T, R, I2)))) :
    yW l zSS D cy zFk z (d + 1) 27 bc bs K 0 0 0 [(0, yr (some p)), (1, yr (some q))] [] (N, T, R, I) := by
  refine e_12 (f_27 (pc := 0) (e := (0, 12, 0, 0, 0, 0, 0, 1)) rfl) rfl ?_
  refine e_12 (f_27 (pc := 1) (e := (1, 12, 1, 0, 0, 0, 0, 2)) rfl) rfl ?_
  refine e_90 zA (f_27 (pc := 2) (e := (2, 90, 2, 0, 0, 15, 848, 5)) rfl) rfl (hq.1 0 rfl) rfl rfl ?_
  refine e_91 zA (f_27 (pc := 5) (e := (5, 91, 2, 0, 0, 15, 848, 8)) rfl) rfl (hp.1 0 rfl) rfl rfl trivial ?_
  replace F := F _ rfl
  refine e_12 (f_27 (pc := 8) (e := (8, 12, 1, 0, 0, 0, 0, 9)) rfl) rfl ?_
  refine e_90r zA (f_27 (pc := 9) (e := (9, 90, 2, 1, 3, 11, 847, 12)) rfl) rfl (hq.1 0 rfl) rfl rfl (hq.2 1 rfl) ?_
  refine e_0 (f_27 (pc := 12) (e := (12, 0, 0, 0, 0, 0, 0, 13)) rfl) (v := 0) rfl ?_
  refine e_12 (f_27 (pc := 13) (e := (13, 12, 0, 0, 0, 0, 0, 14)) rfl) rfl ?_
  refine e_90r zA (f_27 (pc := 14) (e := (14, 90, 2, 1, 3, 11, 847, 17)) rfl) rfl (hp.1 0 rfl) rfl rfl (hp.2 1 rfl) ?_
  refine e_0 (f_27 (pc := 17) (e := (17, 0, 0, 0, 0, 0, 0, 18)) rfl) (v := 0) rfl ?_
  refine e_1 (f_27 (pc := 18) (e := (18, 1, 40, 0, 0, 0, 0, 20)) rfl) (v := 40) rfl ?_
  refine e_135 (f_27 (pc := 20) (e := (20, 135, 0, 0, 0, 19, 849, 23)) rfl) zA rfl rfl (hp.1 1 rfl) (hq.1 1 rfl) rfl rfl rfl (by decide) (Nat.succ_pos _) (Nat.le_of_ble_eq_true rfl) ?_
  replace F := F _ rfl
  exact e_122 (f_27 (pc := 23) (e := (23, 122, 0, 0, 0, 0, 0, 0)) rfl) F

/-! ChairAlley$Plan.read(LChairAlley$Reader;LChairAlley$Land;)Z -/
set_option maxRecDepth 20000 in
theorem B_28_0 (hT : yLT T) (hR : yLR R) {p : Nat} (hp : yAtPlan T R p) (F : ∀ I1, I1 = yU I p 0 0 → (yW l zSS D cy zFk z d 28 bc bs K 0 0 7 [(0, yr (some p)), (1, yr (some 1)), (2, yr (some 4)), (3, yi 0)] [] (N, T, R, I1))) :
    yW l zSS D cy zFk z d 28 bc bs K 0 0 0 [(0, yr (some p)), (1, yr (some 1)), (2, yr (some 4))] [] (N, T, R, I) := by
  refine e_12 (f_28 (pc := 0) (e := (0, 12, 0, 0, 0, 0, 0, 1)) rfl) rfl ?_
  refine e_0 (f_28 (pc := 1) (e := (1, 0, 0, 0, 0, 0, 0, 2)) rfl) (v := 0) rfl ?_
  refine e_91 zA (f_28 (pc := 2) (e := (2, 91, 2, 0, 0, 15, 848, 5)) rfl) rfl (hp.1 0 rfl) rfl rfl trivial ?_
  replace F := F _ rfl
  refine e_0 (f_28 (pc := 5) (e := (5, 0, 0, 0, 0, 0, 0, 6)) rfl) (v := 0) rfl ?_
  refine e_20 (f_28 (pc := 6) (e := (6, 20, 3, 0, 0, 0, 0, 7)) rfl) ?_
  refine e_lo [0, 1, 2, 3] rfl ?_
  exact F
set_option maxRecDepth 20000 in
theorem B_28_7 (hT : yLT T) (hR : yLR R) {p : Nat} (hp : yAtPlan T R p) {x3 : Int} (F : (40 < x3 → yW l zSS D cy zFk z d 33 0 0 (fun r h' => ∃ r3 I2, r = some (yi r3) ∧ h' = (N, T, R, I2) ∧ ((r3 = 0 ∨ r3 = 1) ∧ K (some (yi r3)) (N, T, R, I2))) 0 0 0 [(0, yr (some 1))] [] (N, T, R, I)) ∧ (¬ (40 < x3) → ((I 1 5) = 0 → yW l zSS D cy zFk z d 33 0 0 (fun r h' => ∃ r6 I5, r = some (yi r6) ∧ h' = (N, T, R, I5) ∧ ((r6 = 0 ∨ r6 = 1) ∧ K (some (yi r6)) (N, T, R, I5))) 0 0 0 [(0, yr (some 1))] [] (N, T, R, I)) ∧ (¬ ((I 1 5) = 0) → yW l zSS D cy zFk z d 29 0 0 (fun r h' => ∃ r8 I7, r = some (yi r8) ∧ h' = (N, T, R, I7) ∧ ((r8 ≠ 0 → yW l zSS D cy zFk z (d + 1) 28 bc bs K 0 0 7 [(0, yr (some p)), (1, yr (some 1)), (2, yr (some 4)), (3, yi (yadd x3 1))] [] (N, T, R, I7)) ∧ (¬ (r8 ≠ 0) → K (some (yi 0)) (N, T, R, I7)))) 0 0 0 [(0, yr (some p)), (1, yr (some 1)), (2, yr (some 4))] [] (N, T, R, I)))) :
    yW l zSS D cy zFk z (d + 1) 28 bc bs K 0 0 7 [(0, yr (some p)), (1, yr (some 1)), (2, yr (some 4)), (3, yi x3)] [] (N, T, R, I) := by
  refine e_10 (f_28 (pc := 7) (e := (7, 10, 3, 0, 0, 0, 0, 8)) rfl) rfl ?_
  refine e_1 (f_28 (pc := 8) (e := (8, 1, 40, 0, 0, 0, 0, 10)) rfl) (v := 40) rfl ?_
  refine e_74 (f_28 (pc := 10) (e := (10, 74, 37, 0, 0, 0, 0, 13)) rfl) (fun c1 => ?_) (fun c1 => ?_)
  · replace F := F.1 c1
    refine e_12 (f_28 (pc := 37) (e := (37, 12, 1, 0, 0, 0, 0, 38)) rfl) rfl ?_
    refine e_130 (f_28 (pc := 38) (e := (38, 130, 33, 0, 3, 34, 852, 41)) rfl) zA (as := [yr (some 1)]) (rest := []) rfl rfl rfl rfl (Nat.le_of_ble_eq_true rfl) (Nat.le_of_ble_eq_true rfl) ⟨_, _, _, rfl, (hT 1 rfl)⟩ (mc := 0) (ms := 0) (Nat.zero_le _) (Nat.zero_le _) ?_
    refine e_K ?_ F
    rintro r h' ⟨r3, I2, rfl, rfl, F⟩
    exact e_121 (f_28 (pc := 41) (e := (41, 121, 0, 0, 0, 0, 0, 0)) rfl) F.1 F.2
  · replace F := F.2 c1
    refine e_12 (f_28 (pc := 13) (e := (13, 12, 1, 0, 0, 0, 0, 14)) rfl) rfl ?_
    refine e_90 zA (f_28 (pc := 14) (e := (14, 90, 3, 5, 0, 25, 850, 17)) rfl) rfl (hT 1 rfl) rfl rfl ?_
    refine e_60 (f_28 (pc := 17) (e := (17, 60, 37, 0, 0, 0, 0, 20)) rfl) (fun c4 => ?_) (fun c4 => ?_)
    · replace F := F.1 c4
      refine e_12 (f_28 (pc := 37) (e := (37, 12, 1, 0, 0, 0, 0, 38)) rfl) rfl ?_
      refine e_130 (f_28 (pc := 38) (e := (38, 130, 33, 0, 3, 34, 852, 41)) rfl) zA (as := [yr (some 1)]) (rest := []) rfl rfl rfl rfl (Nat.le_of_ble_eq_true rfl) (Nat.le_of_ble_eq_true rfl) ⟨_, _, _, rfl, (hT 1 rfl)⟩ (mc := 0) (ms := 0) (Nat.zero_le _) (Nat.zero_le _) ?_
      refine e_K ?_ F
      rintro r h' ⟨r6, I5, rfl, rfl, F⟩
      exact e_121 (f_28 (pc := 41) (e := (41, 121, 0, 0, 0, 0, 0, 0)) rfl) F.1 F.2
    · replace F := F.2 c4
      refine e_12 (f_28 (pc := 20) (e := (20, 12, 0, 0, 0, 0, 0, 21)) rfl) rfl ?_
      refine e_12 (f_28 (pc := 21) (e := (21, 12, 1, 0, 0, 0, 0, 22)) rfl) rfl ?_
      refine e_12 (f_28 (pc := 22) (e := (22, 12, 2, 0, 0, 0, 0, 23)) rfl) rfl ?_
      refine e_130 (f_28 (pc := 23) (e := (23, 130, 29, 0, 2, 30, 851, 26)) rfl) zA (as := [yr (some p), yr (some 1), yr (some 4)]) (rest := []) rfl rfl rfl rfl (Nat.le_of_ble_eq_true rfl) (Nat.le_of_ble_eq_true rfl) ⟨_, _, _, rfl, (hp.1 0 rfl)⟩ (mc := 0) (ms := 0) (Nat.zero_le _) (Nat.zero_le _) ?_
      refine e_K ?_ F
      rintro r h' ⟨r8, I7, rfl, rfl, F⟩
      refine e_61 (f_28 (pc := 26) (e := (26, 61, 31, 0, 0, 0, 0, 29)) rfl) (fun c9 => ?_) (fun c9 => ?_)
      · replace F := F.1 c9
        refine e_26 (f_28 (pc := 31) (e := (31, 26, 3, 1, 0, 0, 0, 34)) rfl) (w := 1) rfl rfl ?_
        refine e_80 (f_28 (pc := 34) (e := (34, 80, 7, 0, 0, 0, 0, 37)) rfl) ?_
        refine e_lo [0, 1, 2, 3] rfl ?_
        exact F
      · replace F := F.2 c9
        refine e_0 (f_28 (pc := 29) (e := (29, 0, 0, 0, 0, 0, 0, 30)) rfl) (v := 0) rfl ?_
        exact e_121 (f_28 (pc := 30) (e := (30, 121, 0, 0, 0, 0, 0, 31)) rfl) (.inl rfl) F

/-! ChairAlley$Plan.readStep(LChairAlley$Reader;LChairAlley$Land;)Z -/
set_option maxRecDepth 20000 in
theorem B_29_0 (hT : yLT T) (hR : yLR R) {p : Nat} (hp : yAtPlan T R p) (F : yW l zSS D cy zFk z d 21 0 0 (fun r h' => ∃ r2 I1, r = some (yi r2) ∧ h' = (N, T, R, I1) ∧ ((r2 ≠ (-1) → ((I1 p 0) < 0 → yW l zSS D cy zFk z d 34 0 0 (fun r h' => ∃ r6 I5, r = some (yi r6) ∧ h' = (N, T, R, I5) ∧ ((r6 = 0 ∨ r6 = 1) ∧ K (some (yi r6)) (N, T, R, I5))) 0 0 0 [(0, yr (some 1)), (1, yi 4)] [] (N, T, R, I1)) ∧ (¬ ((I1 p 0) < 0) → ((I1 p 0) < 40 → yW l zSS D cy zFk z d 31 0 0 (fun r h' => ∃ I8, r = none ∧ h' = (N, T, R, I8) ∧ (yW l zSS D cy zFk z d 41 0 0 (fun r h' => ∃ r10 I9, r = some (yi r10) ∧ h' = (N, T, R, I9) ∧ ((r10 = (-1) → K (some (yi 0)) (N, T, R, I9)) ∧ (¬ (r10 = (-1)) → yW l zSS D cy zFk z d 43 0 0 (fun r h' => ∃ r13 I12, r = some (yi r13) ∧ h' = (N, T, R, I12) ∧ ((r13 ≠ 0 → 0 ≤ (I12 p 0) ∧ (I12 p 0) < 40 ∧ (∀ I17, I17 = yU I12 (p + 1) ((I12 p 0).toNat) (ynar 1 (yadd (ymul 4 r2) r10)) → (∀ I18, I18 = yU I17 p 0 (yadd (I17 p 0) 1) → (K (some (yi 1)) (N, T, R, I18))))) ∧ (¬ (r13 ≠ 0) → K (some (yi 0)) (N, T, R, I12)))) 0 0 0 [(0, yr (some 1)), (1, yi 59)] [] (N, T, R, I9)))) 0 0 0 [(0, yr (some 1))] [] (N, T, R, I8))) 0 0 0 [(0, yr (some 1))] [] (N, T, R, I1)) ∧ (¬ ((I1 p 0) < 40) → yW l zSS D cy zFk z d 34 0 0 (fun r h' => ∃ r20 I19, r = some (yi r20) ∧ h' = (N, T, R, I19) ∧ ((r20 = 0 ∨ r20 = 1) ∧ K (some (yi r20)) (N, T, R, I19))) 0 0 0 [(0, yr (some 1)), (1, yi 4)] [] (N, T, R, I1)))) ∧ (¬ (r2 ≠ (-1)) → K (some (yi 0)) (N, T, R, I1)))) 0 0 0 [(0, yr (some 4)), (1, yr (some 1))] [] (N, T, R, I)) :
    yW l zSS D cy zFk z (d + 1) 29 bc bs K 0 0 0 [(0, yr (some p)), (1, yr (some 1)), (2, yr (some 4))] [] (N, T, R, I) := by
  refine e_12 (f_29 (pc := 0) (e := (0, 12, 2, 0, 0, 0, 0, 1)) rfl) rfl ?_
  refine e_12 (f_29 (pc := 1) (e := (1, 12, 1, 0, 0, 0, 0, 2)) rfl) rfl ?_
  refine e_130 (f_29 (pc := 2) (e := (2, 130, 21, 0, 1, 38, 853, 5)) rfl) zA (as := [yr (some 4), yr (some 1)]) (rest := []) rfl rfl rfl rfl (Nat.le_of_ble_eq_true rfl) (Nat.le_of_ble_eq_true rfl) ⟨_, _, _, rfl, (hT 4 rfl)⟩ (mc := 0) (ms := 0) (Nat.zero_le _) (Nat.zero_le _) ?_
  refine e_K ?_ F
  rintro r h' ⟨r2, I1, rfl, rfl, F⟩
  refine e_20 (f_29 (pc := 5) (e := (5, 20, 3, 0, 0, 0, 0, 6)) rfl) ?_
  refine e_10 (f_29 (pc := 6) (e := (6, 10, 3, 0, 0, 0, 0, 7)) rfl) rfl ?_
  refine e_0 (f_29 (pc := 7) (e := (7, 0, 4294967295, 0, 0, 0, 0, 8)) rfl) (v := (-1)) rfl ?_
  refine e_71 (f_29 (pc := 8) (e := (8, 71, 13, 0, 0, 0, 0, 11)) rfl) (fun c3 => ?_) (fun c3 => ?_)
  · replace F := F.1 c3
    refine e_12 (f_29 (pc := 13) (e := (13, 12, 0, 0, 0, 0, 0, 14)) rfl) rfl ?_
    refine e_90 zA (f_29 (pc := 14) (e := (14, 90, 2, 0, 0, 15, 848, 17)) rfl) rfl (hp.1 0 rfl) rfl rfl ?_
    refine e_62 (f_29 (pc := 17) (e := (17, 62, 29, 0, 0, 0, 0, 20)) rfl) (fun c4 => ?_) (fun c4 => ?_)
    · replace F := F.1 c4
      refine e_12 (f_29 (pc := 29) (e := (29, 12, 1, 0, 0, 0, 0, 30)) rfl) rfl ?_
      refine e_0 (f_29 (pc := 30) (e := (30, 0, 4, 0, 0, 0, 0, 31)) rfl) (v := 4) rfl ?_
      refine e_130 (f_29 (pc := 31) (e := (31, 130, 34, 0, 3, 44, 854, 34)) rfl) zA (as := [yr (some 1), yi 4]) (rest := []) rfl rfl rfl rfl (Nat.le_of_ble_eq_true rfl) (Nat.le_of_ble_eq_true rfl) ⟨_, _, _, rfl, (hT 1 rfl)⟩ (mc := 0) (ms := 0) (Nat.zero_le _) (Nat.zero_le _) ?_
      refine e_K ?_ F
      rintro r h' ⟨r6, I5, rfl, rfl, F⟩
      exact e_121 (f_29 (pc := 34) (e := (34, 121, 0, 0, 0, 0, 0, 35)) rfl) F.1 F.2
    · replace F := F.2 c4
      refine e_12 (f_29 (pc := 20) (e := (20, 12, 0, 0, 0, 0, 0, 21)) rfl) rfl ?_
      refine e_90 zA (f_29 (pc := 21) (e := (21, 90, 2, 0, 0, 15, 848, 24)) rfl) rfl (hp.1 0 rfl) rfl rfl ?_
      refine e_1 (f_29 (pc := 24) (e := (24, 1, 40, 0, 0, 0, 0, 26)) rfl) (v := 40) rfl ?_
      refine e_72 (f_29 (pc := 26) (e := (26, 72, 35, 0, 0, 0, 0, 29)) rfl) (fun c7 => ?_) (fun c7 => ?_)
      · replace F := F.1 c7
        refine e_12 (f_29 (pc := 35) (e := (35, 12, 1, 0, 0, 0, 0, 36)) rfl) rfl ?_
        refine e_130 (f_29 (pc := 36) (e := (36, 130, 31, 0, 3, 48, 855, 39)) rfl) zA (as := [yr (some 1)]) (rest := []) rfl rfl rfl rfl (Nat.le_of_ble_eq_true rfl) (Nat.le_of_ble_eq_true rfl) ⟨_, _, _, rfl, (hT 1 rfl)⟩ (mc := 0) (ms := 0) (Nat.zero_le _) (Nat.zero_le _) ?_
        refine e_K ?_ F
        rintro r h' ⟨I8, rfl, rfl, F⟩
        refine e_12 (f_29 (pc := 39) (e := (39, 12, 1, 0, 0, 0, 0, 40)) rfl) rfl ?_
        refine e_130 (f_29 (pc := 40) (e := (40, 130, 41, 0, 3, 51, 856, 43)) rfl) zA (as := [yr (some 1)]) (rest := []) rfl rfl rfl rfl (Nat.le_of_ble_eq_true rfl) (Nat.le_of_ble_eq_true rfl) ⟨_, _, _, rfl, (hT 1 rfl)⟩ (mc := 0) (ms := 0) (Nat.zero_le _) (Nat.zero_le _) ?_
        refine e_K ?_ F
        rintro r h' ⟨r10, I9, rfl, rfl, F⟩
        refine e_21 (f_29 (pc := 43) (e := (43, 21, 4, 0, 0, 0, 0, 45)) rfl) ?_
        refine e_11 (f_29 (pc := 45) (e := (45, 11, 4, 0, 0, 0, 0, 47)) rfl) rfl ?_
        refine e_0 (f_29 (pc := 47) (e := (47, 0, 4294967295, 0, 0, 0, 0, 48)) rfl) (v := (-1)) rfl ?_
        refine e_70 (f_29 (pc := 48) (e := (48, 70, 60, 0, 0, 0, 0, 51)) rfl) (fun c11 => ?_) (fun c11 => ?_)
        · replace F := F.1 c11
          refine e_0 (f_29 (pc := 60) (e := (60, 0, 0, 0, 0, 0, 0, 61)) rfl) (v := 0) rfl ?_
          exact e_121 (f_29 (pc := 61) (e := (61, 121, 0, 0, 0, 0, 0, 62)) rfl) (.inl rfl) F
        · replace F := F.2 c11
          refine e_12 (f_29 (pc := 51) (e := (51, 12, 1, 0, 0, 0, 0, 52)) rfl) rfl ?_
          refine e_1 (f_29 (pc := 52) (e := (52, 1, 59, 0, 0, 0, 0, 54)) rfl) (v := 59) rfl ?_
          refine e_130 (f_29 (pc := 54) (e := (54, 130, 43, 0, 3, 55, 857, 57)) rfl) zA (as := [yr (some 1), yi 59]) (rest := []) rfl rfl rfl rfl (Nat.le_of_ble_eq_true rfl) (Nat.le_of_ble_eq_true rfl) ⟨_, _, _, rfl, (hT 1 rfl)⟩ (mc := 0) (ms := 0) (Nat.zero_le _) (Nat.zero_le _) ?_
          refine e_K ?_ F
          rintro r h' ⟨r13, I12, rfl, rfl, F⟩
          refine e_61 (f_29 (pc := 57) (e := (57, 61, 62, 0, 0, 0, 0, 60)) rfl) (fun c14 => ?_) (fun c14 => ?_)
          · replace F := F.1 c14
            refine e_12 (f_29 (pc := 62) (e := (62, 12, 0, 0, 0, 0, 0, 63)) rfl) rfl ?_
            refine e_90r zA (f_29 (pc := 63) (e := (63, 90, 2, 1, 3, 11, 847, 66)) rfl) rfl (hp.1 0 rfl) rfl rfl (hp.2 1 rfl) ?_
            refine e_12 (f_29 (pc := 66) (e := (66, 12, 0, 0, 0, 0, 0, 67)) rfl) rfl ?_
            refine e_90 zA (f_29 (pc := 67) (e := (67, 90, 2, 0, 0, 15, 848, 70)) rfl) rfl (hp.1 0 rfl) rfl rfl ?_
            refine e_0 (f_29 (pc := 70) (e := (70, 0, 4, 0, 0, 0, 0, 71)) rfl) (v := 4) rfl ?_
            refine e_10 (f_29 (pc := 71) (e := (71, 10, 3, 0, 0, 0, 0, 72)) rfl) rfl ?_
            refine e_32 (f_29 (pc := 72) (e := (72, 32, 0, 0, 0, 0, 0, 73)) rfl) ?_
            refine e_11 (f_29 (pc := 73) (e := (73, 11, 4, 0, 0, 0, 0, 75)) rfl) rfl ?_
            refine e_30 (f_29 (pc := 75) (e := (75, 30, 0, 0, 0, 0, 0, 76)) rfl) ?_
            obtain ⟨b15, b16, F⟩ := F
            refine e_111 (f_29 (pc := 76) (e := (76, 111, 0, 0, 0, 0, 0, 77)) rfl) rfl (hp.1 1 rfl) b15 b16 ?_
            replace F := F _ rfl
            refine e_12 (f_29 (pc := 77) (e := (77, 12, 0, 0, 0, 0, 0, 78)) rfl) rfl ?_
            refine e_50 (f_29 (pc := 78) (e := (78, 50, 0, 0, 0, 0, 0, 79)) rfl) rfl ?_
            refine e_90 zA (f_29 (pc := 79) (e := (79, 90, 2, 0, 0, 15, 848, 82)) rfl) rfl (hp.1 0 rfl) rfl rfl ?_
            refine e_0 (f_29 (pc := 82) (e := (82, 0, 1, 0, 0, 0, 0, 83)) rfl) (v := 1) rfl ?_
            refine e_30 (f_29 (pc := 83) (e := (83, 30, 0, 0, 0, 0, 0, 84)) rfl) ?_
            refine e_91 zA (f_29 (pc := 84) (e := (84, 91, 2, 0, 0, 15, 848, 87)) rfl) rfl (hp.1 0 rfl) rfl rfl trivial ?_
            replace F := F _ rfl
            refine e_0 (f_29 (pc := 87) (e := (87, 0, 1, 0, 0, 0, 0, 88)) rfl) (v := 1) rfl ?_
            exact e_121 (f_29 (pc := 88) (e := (88, 121, 0, 0, 0, 0, 0, 0)) rfl) (.inr rfl) F
          · replace F := F.2 c14
            refine e_0 (f_29 (pc := 60) (e := (60, 0, 0, 0, 0, 0, 0, 61)) rfl) (v := 0) rfl ?_
            exact e_121 (f_29 (pc := 61) (e := (61, 121, 0, 0, 0, 0, 0, 62)) rfl) (.inl rfl) F
      · replace F := F.2 c7
        refine e_12 (f_29 (pc := 29) (e := (29, 12, 1, 0, 0, 0, 0, 30)) rfl) rfl ?_
        refine e_0 (f_29 (pc := 30) (e := (30, 0, 4, 0, 0, 0, 0, 31)) rfl) (v := 4) rfl ?_
        refine e_130 (f_29 (pc := 31) (e := (31, 130, 34, 0, 3, 44, 854, 34)) rfl) zA (as := [yr (some 1), yi 4]) (rest := []) rfl rfl rfl rfl (Nat.le_of_ble_eq_true rfl) (Nat.le_of_ble_eq_true rfl) ⟨_, _, _, rfl, (hT 1 rfl)⟩ (mc := 0) (ms := 0) (Nat.zero_le _) (Nat.zero_le _) ?_
        refine e_K ?_ F
        rintro r h' ⟨r20, I19, rfl, rfl, F⟩
        exact e_121 (f_29 (pc := 34) (e := (34, 121, 0, 0, 0, 0, 0, 35)) rfl) F.1 F.2
  · replace F := F.2 c3
    refine e_0 (f_29 (pc := 11) (e := (11, 0, 0, 0, 0, 0, 0, 12)) rfl) (v := 0) rfl ?_
    exact e_121 (f_29 (pc := 12) (e := (12, 121, 0, 0, 0, 0, 0, 13)) rfl) (.inl rfl) F

/-! ChairAlley$Reader.advance()V -/
set_option maxRecDepth 20000 in
theorem B_31_0 (hT : yLT T) (hR : yLR R) (F : yW l zSS D cy zFk z (d + 1) 31 bc bs K 0 0 12 [(0, yr (some 1)), (1, yi (ymin (I 1 1) (I 1 2)))] [] (N, T, R, I)) :
    yW l zSS D cy zFk z (d + 1) 31 bc bs K 0 0 0 [(0, yr (some 1))] [] (N, T, R, I) := by
  refine e_12 (f_31 (pc := 0) (e := (0, 12, 0, 0, 0, 0, 0, 1)) rfl) rfl ?_
  refine e_90 zA (f_31 (pc := 1) (e := (1, 90, 3, 1, 0, 15, 860, 4)) rfl) rfl (hT 1 rfl) rfl rfl ?_
  refine e_12 (f_31 (pc := 4) (e := (4, 12, 0, 0, 0, 0, 0, 5)) rfl) rfl ?_
  refine e_90 zA (f_31 (pc := 5) (e := (5, 90, 3, 2, 0, 19, 861, 8)) rfl) rfl (hT 1 rfl) rfl rfl ?_
  refine e_136 (f_31 (pc := 8) (e := (8, 136, 0, 0, 0, 34, 862, 11)) rfl) zA (Nat.succ_pos _) (Nat.le_of_ble_eq_true rfl) ?_
  refine e_20 (f_31 (pc := 11) (e := (11, 20, 1, 0, 0, 0, 0, 12)) rfl) ?_
  refine e_lo [0, 1] rfl ?_
  exact F
set_option maxRecDepth 20000 in
theorem B_31_12 (hT : yLT T) (hR : yLR R) {x1 : Int} (F : ((I 1 1) ≤ (I 1 3) → yW l zSS D cy zFk z d 31 bc bs K 0 0 76 [(0, yr (some 1)), (1, yi x1)] [] (N, T, R, I)) ∧ (¬ ((I 1 1) ≤ (I 1 3)) → (940 ≤ (I 1 3) → yW l zSS D cy zFk z d 31 bc bs K 0 0 76 [(0, yr (some 1)), (1, yi x1)] [] (N, T, R, I)) ∧ (¬ (940 ≤ (I 1 3)) → 0 ≤ (I 1 3) ∧ (I 1 3) < 940 ∧ (((I 2 (I 1 3).toNat) = 32 → yW l zSS D cy zFk z d 31 bc bs K 0 0 63 [(0, yr (some 1)), (1, yi x1)] [] (N, T, R, I)) ∧ (¬ ((I 2 (I 1 3).toNat) = 32) → 0 ≤ (I 1 3) ∧ (I 1 3) < 940 ∧ (((I 2 (I 1 3).toNat) ≠ 10 → yW l zSS D cy zFk z d 31 bc bs K 0 0 76 [(0, yr (some 1)), (1, yi x1)] [] (N, T, R, I)) ∧ (¬ ((I 2 (I 1 3).toNat) ≠ 10) → yW l zSS D cy zFk z d 31 bc bs K 0 0 63 [(0, yr (some 1)), (1, yi x1)] [] (N, T, R, I)))))))) :
    yW l zSS D cy zFk z d 31 bc bs K 0 0 12 [(0, yr (some 1)), (1, yi x1)] [] (N, T, R, I) := by
  refine e_12 (f_31 (pc := 12) (e := (12, 12, 0, 0, 0, 0, 0, 13)) rfl) rfl ?_
  refine e_90 zA (f_31 (pc := 13) (e := (13, 90, 3, 3, 0, 22, 863, 16)) rfl) rfl (hT 1 rfl) rfl rfl ?_
  refine e_12 (f_31 (pc := 16) (e := (16, 12, 0, 0, 0, 0, 0, 17)) rfl) rfl ?_
  refine e_90 zA (f_31 (pc := 17) (e := (17, 90, 3, 1, 0, 15, 860, 20)) rfl) rfl (hT 1 rfl) rfl rfl ?_
  refine e_73 (f_31 (pc := 20) (e := (20, 73, 76, 0, 0, 0, 0, 23)) rfl) (fun c1 => ?_) (fun c1 => ?_)
  · replace F := F.1 c1
    refine e_lo [0, 1] rfl ?_
    exact F
  · replace F := F.2 c1
    refine e_12 (f_31 (pc := 23) (e := (23, 12, 0, 0, 0, 0, 0, 24)) rfl) rfl ?_
    refine e_90 zA (f_31 (pc := 24) (e := (24, 90, 3, 3, 0, 22, 863, 27)) rfl) rfl (hT 1 rfl) rfl rfl ?_
    refine e_12 (f_31 (pc := 27) (e := (27, 12, 0, 0, 0, 0, 0, 28)) rfl) rfl ?_
    refine e_90r zA (f_31 (pc := 28) (e := (28, 90, 3, 0, 3, 9, 859, 31)) rfl) rfl (hT 1 rfl) rfl rfl (hR 1 0 rfl) ?_
    refine e_103 (f_31 (pc := 31) (e := (31, 103, 0, 0, 0, 0, 0, 32)) rfl) rfl (hT 2 rfl) (by decide) (by decide) ?_
    refine e_73 (f_31 (pc := 32) (e := (32, 73, 76, 0, 0, 0, 0, 35)) rfl) (fun c2 => ?_) (fun c2 => ?_)
    · replace F := F.1 c2
      refine e_lo [0, 1] rfl ?_
      exact F
    · replace F := F.2 c2
      refine e_12 (f_31 (pc := 35) (e := (35, 12, 0, 0, 0, 0, 0, 36)) rfl) rfl ?_
      refine e_90r zA (f_31 (pc := 36) (e := (36, 90, 3, 0, 3, 9, 859, 39)) rfl) rfl (hT 1 rfl) rfl rfl (hR 1 0 rfl) ?_
      refine e_12 (f_31 (pc := 39) (e := (39, 12, 0, 0, 0, 0, 0, 40)) rfl) rfl ?_
      refine e_90 zA (f_31 (pc := 40) (e := (40, 90, 3, 3, 0, 22, 863, 43)) rfl) rfl (hT 1 rfl) rfl rfl ?_
      obtain ⟨b3, b4, F⟩ := F
      refine e_112 (f_31 (pc := 43) (e := (43, 112, 0, 0, 0, 0, 0, 44)) rfl) rfl (hT 2 rfl) b3 b4 (.inl rfl) ?_
      refine e_1 (f_31 (pc := 44) (e := (44, 1, 32, 0, 0, 0, 0, 46)) rfl) (v := 32) rfl ?_
      refine e_70 (f_31 (pc := 46) (e := (46, 70, 63, 0, 0, 0, 0, 49)) rfl) (fun c5 => ?_) (fun c5 => ?_)
      · replace F := F.1 c5
        refine e_lo [0, 1] rfl ?_
        exact F
      · replace F := F.2 c5
        refine e_12 (f_31 (pc := 49) (e := (49, 12, 0, 0, 0, 0, 0, 50)) rfl) rfl ?_
        refine e_90r zA (f_31 (pc := 50) (e := (50, 90, 3, 0, 3, 9, 859, 53)) rfl) rfl (hT 1 rfl) rfl rfl (hR 1 0 rfl) ?_
        refine e_12 (f_31 (pc := 53) (e := (53, 12, 0, 0, 0, 0, 0, 54)) rfl) rfl ?_
        refine e_90 zA (f_31 (pc := 54) (e := (54, 90, 3, 3, 0, 22, 863, 57)) rfl) rfl (hT 1 rfl) rfl rfl ?_
        obtain ⟨b6, b7, F⟩ := F
        refine e_112 (f_31 (pc := 57) (e := (57, 112, 0, 0, 0, 0, 0, 58)) rfl) rfl (hT 2 rfl) b6 b7 (.inl rfl) ?_
        refine e_1 (f_31 (pc := 58) (e := (58, 1, 10, 0, 0, 0, 0, 60)) rfl) (v := 10) rfl ?_
        refine e_71 (f_31 (pc := 60) (e := (60, 71, 76, 0, 0, 0, 0, 63)) rfl) (fun c8 => ?_) (fun c8 => ?_)
        · replace F := F.1 c8
          refine e_lo [0, 1] rfl ?_
          exact F
        · replace F := F.2 c8
          refine e_lo [0, 1] rfl ?_
          exact F
set_option maxRecDepth 20000 in
theorem B_31_63 (hT : yLT T) (hR : yLR R) {x1 : Int} (F : ∀ I1, I1 = yU I 1 3 (yadd (I 1 3) 1) → (yW l zSS D cy zFk z d 31 bc bs K 0 0 12 [(0, yr (some 1)), (1, yi x1)] [] (N, T, R, I1))) :
    yW l zSS D cy zFk z d 31 bc bs K 0 0 63 [(0, yr (some 1)), (1, yi x1)] [] (N, T, R, I) := by
  refine e_12 (f_31 (pc := 63) (e := (63, 12, 0, 0, 0, 0, 0, 64)) rfl) rfl ?_
  refine e_50 (f_31 (pc := 64) (e := (64, 50, 0, 0, 0, 0, 0, 65)) rfl) rfl ?_
  refine e_90 zA (f_31 (pc := 65) (e := (65, 90, 3, 3, 0, 22, 863, 68)) rfl) rfl (hT 1 rfl) rfl rfl ?_
  refine e_0 (f_31 (pc := 68) (e := (68, 0, 1, 0, 0, 0, 0, 69)) rfl) (v := 1) rfl ?_
  refine e_30 (f_31 (pc := 69) (e := (69, 30, 0, 0, 0, 0, 0, 70)) rfl) ?_
  refine e_91 zA (f_31 (pc := 70) (e := (70, 91, 3, 3, 0, 22, 863, 73)) rfl) rfl (hT 1 rfl) rfl rfl trivial ?_
  replace F := F _ rfl
  refine e_80 (f_31 (pc := 73) (e := (73, 80, 12, 0, 0, 0, 0, 76)) rfl) ?_
  refine e_lo [0, 1] rfl ?_
  exact F
set_option maxRecDepth 20000 in
theorem B_31_76 (hT : yLT T) (hR : yLR R) {x1 : Int} (F : ∀ I1, I1 = yU I 1 4 (ymin (I 1 3) x1) → (∀ I2, I2 = yU I1 1 5 0 → (∀ I3, I3 = yU I2 1 6 (-1) → ((x1 ≤ (I3 1 3) → yW l zSS D cy zFk z (d + 1) 31 bc bs K 0 0 122 [(0, yr (some 1))] [] (N, T, R, I3)) ∧ (¬ (x1 ≤ (I3 1 3)) → (940 ≤ (I3 1 3) → yW l zSS D cy zFk z (d + 1) 31 bc bs K 0 0 122 [(0, yr (some 1))] [] (N, T, R, I3)) ∧ (¬ (940 ≤ (I3 1 3)) → yW l zSS D cy zFk z d 44 0 0 (fun r h' => ∃ I6, r = none ∧ h' = (N, T, R, I6) ∧ (yW l zSS D cy zFk z (d + 1) 31 bc bs K 0 0 122 [(0, yr (some 1))] [] (N, T, R, I6))) 0 0 0 [(0, yr (some 1))] [] (N, T, R, I3))))))) :
    yW l zSS D cy zFk z (d + 1) 31 bc bs K 0 0 76 [(0, yr (some 1)), (1, yi x1)] [] (N, T, R, I) := by
  refine e_12 (f_31 (pc := 76) (e := (76, 12, 0, 0, 0, 0, 0, 77)) rfl) rfl ?_
  refine e_12 (f_31 (pc := 77) (e := (77, 12, 0, 0, 0, 0, 0, 78)) rfl) rfl ?_
  refine e_90 zA (f_31 (pc := 78) (e := (78, 90, 3, 3, 0, 22, 863, 81)) rfl) rfl (hT 1 rfl) rfl rfl ?_
  refine e_10 (f_31 (pc := 81) (e := (81, 10, 1, 0, 0, 0, 0, 82)) rfl) rfl ?_
  refine e_136 (f_31 (pc := 82) (e := (82, 136, 0, 0, 0, 34, 862, 85)) rfl) zA (Nat.succ_pos _) (Nat.le_of_ble_eq_true rfl) ?_
  refine e_91 zA (f_31 (pc := 85) (e := (85, 91, 3, 4, 0, 40, 864, 88)) rfl) rfl (hT 1 rfl) rfl rfl trivial ?_
  replace F := F _ rfl
  refine e_12 (f_31 (pc := 88) (e := (88, 12, 0, 0, 0, 0, 0, 89)) rfl) rfl ?_
  refine e_0 (f_31 (pc := 89) (e := (89, 0, 0, 0, 0, 0, 0, 90)) rfl) (v := 0) rfl ?_
  refine e_91 zA (f_31 (pc := 90) (e := (90, 91, 3, 5, 0, 43, 865, 93)) rfl) rfl (hT 1 rfl) rfl rfl trivial ?_
  replace F := F _ rfl
  refine e_12 (f_31 (pc := 93) (e := (93, 12, 0, 0, 0, 0, 0, 94)) rfl) rfl ?_
  refine e_0 (f_31 (pc := 94) (e := (94, 0, 4294967295, 0, 0, 0, 0, 95)) rfl) (v := (-1)) rfl ?_
  refine e_91 zA (f_31 (pc := 95) (e := (95, 91, 3, 6, 0, 46, 866, 98)) rfl) rfl (hT 1 rfl) rfl rfl trivial ?_
  replace F := F _ rfl
  refine e_12 (f_31 (pc := 98) (e := (98, 12, 0, 0, 0, 0, 0, 99)) rfl) rfl ?_
  refine e_90 zA (f_31 (pc := 99) (e := (99, 90, 3, 3, 0, 22, 863, 102)) rfl) rfl (hT 1 rfl) rfl rfl ?_
  refine e_10 (f_31 (pc := 102) (e := (102, 10, 1, 0, 0, 0, 0, 103)) rfl) rfl ?_
  refine e_73 (f_31 (pc := 103) (e := (103, 73, 122, 0, 0, 0, 0, 106)) rfl) (fun c4 => ?_) (fun c4 => ?_)
  · replace F := F.1 c4
    refine e_lo [0] rfl ?_
    exact F
  · replace F := F.2 c4
    refine e_12 (f_31 (pc := 106) (e := (106, 12, 0, 0, 0, 0, 0, 107)) rfl) rfl ?_
    refine e_90 zA (f_31 (pc := 107) (e := (107, 90, 3, 3, 0, 22, 863, 110)) rfl) rfl (hT 1 rfl) rfl rfl ?_
    refine e_12 (f_31 (pc := 110) (e := (110, 12, 0, 0, 0, 0, 0, 111)) rfl) rfl ?_
    refine e_90r zA (f_31 (pc := 111) (e := (111, 90, 3, 0, 3, 9, 859, 114)) rfl) rfl (hT 1 rfl) rfl rfl (hR 1 0 rfl) ?_
    refine e_103 (f_31 (pc := 114) (e := (114, 103, 0, 0, 0, 0, 0, 115)) rfl) rfl (hT 2 rfl) (by decide) (by decide) ?_
    refine e_73 (f_31 (pc := 115) (e := (115, 73, 122, 0, 0, 0, 0, 118)) rfl) (fun c5 => ?_) (fun c5 => ?_)
    · replace F := F.1 c5
      refine e_lo [0] rfl ?_
      exact F
    · replace F := F.2 c5
      refine e_12 (f_31 (pc := 118) (e := (118, 12, 0, 0, 0, 0, 0, 119)) rfl) rfl ?_
      refine e_130 (f_31 (pc := 119) (e := (119, 130, 44, 0, 3, 49, 867, 122)) rfl) zA (as := [yr (some 1)]) (rest := []) rfl rfl rfl rfl (Nat.le_of_ble_eq_true rfl) (Nat.le_of_ble_eq_true rfl) ⟨_, _, _, rfl, (hT 1 rfl)⟩ (mc := 0) (ms := 0) (Nat.zero_le _) (Nat.zero_le _) ?_
      refine e_K ?_ F
      rintro r h' ⟨I6, rfl, rfl, F⟩
      refine e_lo [0] rfl ?_
      exact F
set_option maxRecDepth 20000 in
theorem B_31_122 (hT : yLT T) (hR : yLR R) (F : ((I 1 5) ≠ 2 → yW l zSS D cy zFk z (d + 1) 31 bc bs K 0 0 134 [] [] (N, T, R, I)) ∧ (¬ ((I 1 5) ≠ 2) → yW l zSS D cy zFk z d 35 0 0 (fun r h' => ∃ I2, r = none ∧ h' = (N, T, R, I2) ∧ (yW l zSS D cy zFk z (d + 1) 31 bc bs K 0 0 134 [] [] (N, T, R, I2))) 0 0 0 [(0, yr (some 1))] [] (N, T, R, I))) :
    yW l zSS D cy zFk z (d + 1) 31 bc bs K 0 0 122 [(0, yr (some 1))] [] (N, T, R, I) := by
  refine e_12 (f_31 (pc := 122) (e := (122, 12, 0, 0, 0, 0, 0, 123)) rfl) rfl ?_
  refine e_90 zA (f_31 (pc := 123) (e := (123, 90, 3, 5, 0, 43, 865, 126)) rfl) rfl (hT 1 rfl) rfl rfl ?_
  refine e_0 (f_31 (pc := 126) (e := (126, 0, 2, 0, 0, 0, 0, 127)) rfl) (v := 2) rfl ?_
  refine e_71 (f_31 (pc := 127) (e := (127, 71, 134, 0, 0, 0, 0, 130)) rfl) (fun c1 => ?_) (fun c1 => ?_)
  · replace F := F.1 c1
    refine e_lo [] rfl ?_
    exact F
  · replace F := F.2 c1
    refine e_12 (f_31 (pc := 130) (e := (130, 12, 0, 0, 0, 0, 0, 131)) rfl) rfl ?_
    refine e_130 (f_31 (pc := 131) (e := (131, 130, 35, 0, 3, 52, 868, 134)) rfl) zA (as := [yr (some 1)]) (rest := []) rfl rfl rfl rfl (Nat.le_of_ble_eq_true rfl) (Nat.le_of_ble_eq_true rfl) ⟨_, _, _, rfl, (hT 1 rfl)⟩ (mc := 0) (ms := 0) (Nat.zero_le _) (Nat.zero_le _) ?_
    refine e_K ?_ F
    rintro r h' ⟨I2, rfl, rfl, F⟩
    refine e_lo [] rfl ?_
    exact F
set_option maxRecDepth 20000 in
theorem B_31_134 (hT : yLT T) (hR : yLR R) (F : K none (N, T, R, I)) :
    yW l zSS D cy zFk z d 31 bc bs K 0 0 134 [] [] (N, T, R, I) := by
  exact e_122 (f_31 (pc := 134) (e := (134, 122, 0, 0, 0, 0, 0, 0)) rfl) F

/-! ChairAlley$Reader.append(I)V -/
set_option maxRecDepth 20000 in
theorem B_32_0 (hT : yLT T) (hR : yLR R) {x1 : Int} (F : yW l zSS D cy zFk z d 32 bc bs K 0 0 3 [(0, yr (some 1)), (1, yi x1), (2, yi 24)] [] (N, T, R, I)) :
    yW l zSS D cy zFk z d 32 bc bs K 0 0 0 [(0, yr (some 1)), (1, yi x1)] [] (N, T, R, I) := by
  refine e_1 (f_32 (pc := 0) (e := (0, 1, 24, 0, 0, 0, 0, 2)) rfl) (v := 24) rfl ?_
  refine e_20 (f_32 (pc := 2) (e := (2, 20, 2, 0, 0, 0, 0, 3)) rfl) ?_
  refine e_lo [0, 1, 2] rfl ?_
  exact F
set_option maxRecDepth 20000 in
theorem B_32_3 (hT : yLT T) (hR : yLR R) {x1 x2 : Int} (F : (x2 < 0 → K none (N, T, R, I)) ∧ (¬ (x2 < 0) → (940 ≤ (I 1 1) → K none (N, T, R, I)) ∧ (¬ (940 ≤ (I 1 1)) → 0 ≤ (I 1 1) ∧ (I 1 1) < 940 ∧ (∀ I5, I5 = yU I 2 ((I 1 1).toNat) (ynar 0 (yi2b (yshr x1 x2))) → (∀ I6, I6 = yU I5 1 1 (yadd (I5 1 1) 1) → (yW l zSS D cy zFk z d 32 bc bs K 0 0 3 [(0, yr (some 1)), (1, yi x1), (2, yi (yadd x2 (-8)))] [] (N, T, R, I6))))))) :
    yW l zSS D cy zFk z d 32 bc bs K 0 0 3 [(0, yr (some 1)), (1, yi x1), (2, yi x2)] [] (N, T, R, I) := by
  refine e_10 (f_32 (pc := 3) (e := (3, 10, 2, 0, 0, 0, 0, 4)) rfl) rfl ?_
  refine e_62 (f_32 (pc := 4) (e := (4, 62, 48, 0, 0, 0, 0, 7)) rfl) (fun c1 => ?_) (fun c1 => ?_)
  · replace F := F.1 c1
    exact e_122 (f_32 (pc := 48) (e := (48, 122, 0, 0, 0, 0, 0, 0)) rfl) F
  · replace F := F.2 c1
    refine e_12 (f_32 (pc := 7) (e := (7, 12, 0, 0, 0, 0, 0, 8)) rfl) rfl ?_
    refine e_90 zA (f_32 (pc := 8) (e := (8, 90, 3, 1, 0, 15, 860, 11)) rfl) rfl (hT 1 rfl) rfl rfl ?_
    refine e_12 (f_32 (pc := 11) (e := (11, 12, 0, 0, 0, 0, 0, 12)) rfl) rfl ?_
    refine e_90r zA (f_32 (pc := 12) (e := (12, 90, 3, 0, 3, 9, 859, 15)) rfl) rfl (hT 1 rfl) rfl rfl (hR 1 0 rfl) ?_
    refine e_103 (f_32 (pc := 15) (e := (15, 103, 0, 0, 0, 0, 0, 16)) rfl) rfl (hT 2 rfl) (by decide) (by decide) ?_
    refine e_73 (f_32 (pc := 16) (e := (16, 73, 48, 0, 0, 0, 0, 19)) rfl) (fun c2 => ?_) (fun c2 => ?_)
    · replace F := F.1 c2
      exact e_122 (f_32 (pc := 48) (e := (48, 122, 0, 0, 0, 0, 0, 0)) rfl) F
    · replace F := F.2 c2
      refine e_12 (f_32 (pc := 19) (e := (19, 12, 0, 0, 0, 0, 0, 20)) rfl) rfl ?_
      refine e_90r zA (f_32 (pc := 20) (e := (20, 90, 3, 0, 3, 9, 859, 23)) rfl) rfl (hT 1 rfl) rfl rfl (hR 1 0 rfl) ?_
      refine e_12 (f_32 (pc := 23) (e := (23, 12, 0, 0, 0, 0, 0, 24)) rfl) rfl ?_
      refine e_90 zA (f_32 (pc := 24) (e := (24, 90, 3, 1, 0, 15, 860, 27)) rfl) rfl (hT 1 rfl) rfl rfl ?_
      refine e_10 (f_32 (pc := 27) (e := (27, 10, 1, 0, 0, 0, 0, 28)) rfl) rfl ?_
      refine e_10 (f_32 (pc := 28) (e := (28, 10, 2, 0, 0, 0, 0, 29)) rfl) rfl ?_
      refine e_39 (f_32 (pc := 29) (e := (29, 39, 0, 0, 0, 0, 0, 30)) rfl) ?_
      refine e_40 (f_32 (pc := 30) (e := (30, 40, 0, 0, 0, 0, 0, 31)) rfl) ?_
      obtain ⟨b3, b4, F⟩ := F
      refine e_113 (f_32 (pc := 31) (e := (31, 113, 0, 0, 0, 0, 0, 32)) rfl) rfl (hT 2 rfl) b3 b4 (.inl rfl) ?_
      replace F := F _ rfl
      refine e_12 (f_32 (pc := 32) (e := (32, 12, 0, 0, 0, 0, 0, 33)) rfl) rfl ?_
      refine e_50 (f_32 (pc := 33) (e := (33, 50, 0, 0, 0, 0, 0, 34)) rfl) rfl ?_
      refine e_90 zA (f_32 (pc := 34) (e := (34, 90, 3, 1, 0, 15, 860, 37)) rfl) rfl (hT 1 rfl) rfl rfl ?_
      refine e_0 (f_32 (pc := 37) (e := (37, 0, 1, 0, 0, 0, 0, 38)) rfl) (v := 1) rfl ?_
      refine e_30 (f_32 (pc := 38) (e := (38, 30, 0, 0, 0, 0, 0, 39)) rfl) ?_
      refine e_91 zA (f_32 (pc := 39) (e := (39, 91, 3, 1, 0, 15, 860, 42)) rfl) rfl (hT 1 rfl) rfl rfl trivial ?_
      replace F := F _ rfl
      refine e_26 (f_32 (pc := 42) (e := (42, 26, 2, 4294967288, 0, 0, 0, 45)) rfl) (w := (-8)) rfl rfl ?_
      refine e_80 (f_32 (pc := 45) (e := (45, 80, 3, 0, 0, 0, 0, 48)) rfl) ?_
      refine e_lo [0, 1, 2] rfl ?_
      exact F

/-! ChairAlley$Reader.endsWell()Z -/
set_option maxRecDepth 20000 in
theorem B_33_0 (hT : yLT T) (hR : yLR R) (F : ((I 1 5) ≠ 0 → yW l zSS D cy zFk z d 34 0 0 (fun r h' => ∃ r3 I2, r = some (yi r3) ∧ h' = (N, T, R, I2) ∧ ((r3 = 0 → K (some (yi 0)) (N, T, R, I2)) ∧ (¬ (r3 = 0) → K (some (yi 1)) (N, T, R, I2)))) 0 0 0 [(0, yr (some 1)), (1, yi 1)] [] (N, T, R, I)) ∧ (¬ ((I 1 5) ≠ 0) → ((I 1 1) ≤ (I 1 2) → K (some (yi 1)) (N, T, R, I)) ∧ (¬ ((I 1 1) ≤ (I 1 2)) → yW l zSS D cy zFk z d 34 0 0 (fun r h' => ∃ r7 I6, r = some (yi r7) ∧ h' = (N, T, R, I6) ∧ ((r7 = 0 → K (some (yi 0)) (N, T, R, I6)) ∧ (¬ (r7 = 0) → K (some (yi 1)) (N, T, R, I6)))) 0 0 0 [(0, yr (some 1)), (1, yi 1)] [] (N, T, R, I)))) :
    yW l zSS D cy zFk z (d + 1) 33 bc bs K 0 0 0 [(0, yr (some 1))] [] (N, T, R, I) := by
  refine e_12 (f_33 (pc := 0) (e := (0, 12, 0, 0, 0, 0, 0, 1)) rfl) rfl ?_
  refine e_90 zA (f_33 (pc := 1) (e := (1, 90, 3, 5, 0, 43, 865, 4)) rfl) rfl (hT 1 rfl) rfl rfl ?_
  refine e_61 (f_33 (pc := 4) (e := (4, 61, 18, 0, 0, 0, 0, 7)) rfl) (fun c1 => ?_) (fun c1 => ?_)
  · replace F := F.1 c1
    refine e_12 (f_33 (pc := 18) (e := (18, 12, 0, 0, 0, 0, 0, 19)) rfl) rfl ?_
    refine e_0 (f_33 (pc := 19) (e := (19, 0, 1, 0, 0, 0, 0, 20)) rfl) (v := 1) rfl ?_
    refine e_130 (f_33 (pc := 20) (e := (20, 130, 34, 0, 3, 78, 869, 23)) rfl) zA (as := [yr (some 1), yi 1]) (rest := []) rfl rfl rfl rfl (Nat.le_of_ble_eq_true rfl) (Nat.le_of_ble_eq_true rfl) ⟨_, _, _, rfl, (hT 1 rfl)⟩ (mc := 0) (ms := 0) (Nat.zero_le _) (Nat.zero_le _) ?_
    refine e_K ?_ F
    rintro r h' ⟨r3, I2, rfl, rfl, F⟩
    refine e_60 (f_33 (pc := 23) (e := (23, 60, 30, 0, 0, 0, 0, 26)) rfl) (fun c4 => ?_) (fun c4 => ?_)
    · replace F := F.1 c4
      refine e_0 (f_33 (pc := 30) (e := (30, 0, 0, 0, 0, 0, 0, 31)) rfl) (v := 0) rfl ?_
      exact e_121 (f_33 (pc := 31) (e := (31, 121, 0, 0, 0, 0, 0, 0)) rfl) (.inl rfl) F
    · replace F := F.2 c4
      refine e_0 (f_33 (pc := 26) (e := (26, 0, 1, 0, 0, 0, 0, 27)) rfl) (v := 1) rfl ?_
      refine e_80 (f_33 (pc := 27) (e := (27, 80, 31, 0, 0, 0, 0, 30)) rfl) ?_
      exact e_121 (f_33 (pc := 31) (e := (31, 121, 0, 0, 0, 0, 0, 0)) rfl) (.inr rfl) F
  · replace F := F.2 c1
    refine e_12 (f_33 (pc := 7) (e := (7, 12, 0, 0, 0, 0, 0, 8)) rfl) rfl ?_
    refine e_90 zA (f_33 (pc := 8) (e := (8, 90, 3, 1, 0, 15, 860, 11)) rfl) rfl (hT 1 rfl) rfl rfl ?_
    refine e_12 (f_33 (pc := 11) (e := (11, 12, 0, 0, 0, 0, 0, 12)) rfl) rfl ?_
    refine e_90 zA (f_33 (pc := 12) (e := (12, 90, 3, 2, 0, 19, 861, 15)) rfl) rfl (hT 1 rfl) rfl rfl ?_
    refine e_75 (f_33 (pc := 15) (e := (15, 75, 26, 0, 0, 0, 0, 18)) rfl) (fun c5 => ?_) (fun c5 => ?_)
    · replace F := F.1 c5
      refine e_0 (f_33 (pc := 26) (e := (26, 0, 1, 0, 0, 0, 0, 27)) rfl) (v := 1) rfl ?_
      refine e_80 (f_33 (pc := 27) (e := (27, 80, 31, 0, 0, 0, 0, 30)) rfl) ?_
      exact e_121 (f_33 (pc := 31) (e := (31, 121, 0, 0, 0, 0, 0, 0)) rfl) (.inr rfl) F
    · replace F := F.2 c5
      refine e_12 (f_33 (pc := 18) (e := (18, 12, 0, 0, 0, 0, 0, 19)) rfl) rfl ?_
      refine e_0 (f_33 (pc := 19) (e := (19, 0, 1, 0, 0, 0, 0, 20)) rfl) (v := 1) rfl ?_
      refine e_130 (f_33 (pc := 20) (e := (20, 130, 34, 0, 3, 78, 869, 23)) rfl) zA (as := [yr (some 1), yi 1]) (rest := []) rfl rfl rfl rfl (Nat.le_of_ble_eq_true rfl) (Nat.le_of_ble_eq_true rfl) ⟨_, _, _, rfl, (hT 1 rfl)⟩ (mc := 0) (ms := 0) (Nat.zero_le _) (Nat.zero_le _) ?_
      refine e_K ?_ F
      rintro r h' ⟨r7, I6, rfl, rfl, F⟩
      refine e_60 (f_33 (pc := 23) (e := (23, 60, 30, 0, 0, 0, 0, 26)) rfl) (fun c8 => ?_) (fun c8 => ?_)
      · replace F := F.1 c8
        refine e_0 (f_33 (pc := 30) (e := (30, 0, 0, 0, 0, 0, 0, 31)) rfl) (v := 0) rfl ?_
        exact e_121 (f_33 (pc := 31) (e := (31, 121, 0, 0, 0, 0, 0, 0)) rfl) (.inl rfl) F
      · replace F := F.2 c8
        refine e_0 (f_33 (pc := 26) (e := (26, 0, 1, 0, 0, 0, 0, 27)) rfl) (v := 1) rfl ?_
        refine e_80 (f_33 (pc := 27) (e := (27, 80, 31, 0, 0, 0, 0, 30)) rfl) ?_
        exact e_121 (f_33 (pc := 31) (e := (31, 121, 0, 0, 0, 0, 0, 0)) rfl) (.inr rfl) F

/-! ChairAlley$Reader.fail(I)Z -/
set_option maxRecDepth 20000 in
theorem B_34_0 (hT : yLT T) (hR : yLR R) {x1 : Int} (F : ∀ I1, I1 = yU I 1 10 x1 → (∀ I2, I2 = yU I1 1 11 (I1 1 4) → (K (some (yi 0)) (N, T, R, I2)))) :
    yW l zSS D cy zFk z d 34 bc bs K 0 0 0 [(0, yr (some 1)), (1, yi x1)] [] (N, T, R, I) := by
  refine e_12 (f_34 (pc := 0) (e := (0, 12, 0, 0, 0, 0, 0, 1)) rfl) rfl ?_
  refine e_10 (f_34 (pc := 1) (e := (1, 10, 1, 0, 0, 0, 0, 2)) rfl) rfl ?_
  refine e_91 zA (f_34 (pc := 2) (e := (2, 91, 3, 10, 0, 25, 870, 5)) rfl) rfl (hT 1 rfl) rfl rfl trivial ?_
  replace F := F _ rfl
  refine e_12 (f_34 (pc := 5) (e := (5, 12, 0, 0, 0, 0, 0, 6)) rfl) rfl ?_
  refine e_12 (f_34 (pc := 6) (e := (6, 12, 0, 0, 0, 0, 0, 7)) rfl) rfl ?_
  refine e_90 zA (f_34 (pc := 7) (e := (7, 90, 3, 4, 0, 40, 864, 10)) rfl) rfl (hT 1 rfl) rfl rfl ?_
  refine e_91 zA (f_34 (pc := 10) (e := (10, 91, 3, 11, 0, 28, 871, 13)) rfl) rfl (hT 1 rfl) rfl rfl trivial ?_
  replace F := F _ rfl
  refine e_0 (f_34 (pc := 13) (e := (13, 0, 0, 0, 0, 0, 0, 14)) rfl) (v := 0) rfl ?_
  exact e_121 (f_34 (pc := 14) (e := (14, 121, 0, 0, 0, 0, 0, 0)) rfl) (.inl rfl) F

/-! ChairAlley$Reader.isName()Z -/
set_option maxRecDepth 20000 in
theorem B_36_0 (hT : yLT T) (hR : yLR R) (F : ((I 1 5) ≠ 2 → yW l zSS D cy zFk z d 34 0 0 (fun r h' => ∃ r3 I2, r = some (yi r3) ∧ h' = (N, T, R, I2) ∧ ((r3 = 0 → K (some (yi 0)) (N, T, R, I2)) ∧ (¬ (r3 = 0) → K (some (yi 1)) (N, T, R, I2)))) 0 0 0 [(0, yr (some 1)), (1, yi 1)] [] (N, T, R, I)) ∧ (¬ ((I 1 5) ≠ 2) → ((I 1 6) = (-1) → K (some (yi 1)) (N, T, R, I)) ∧ (¬ ((I 1 6) = (-1)) → yW l zSS D cy zFk z d 34 0 0 (fun r h' => ∃ r7 I6, r = some (yi r7) ∧ h' = (N, T, R, I6) ∧ ((r7 = 0 → K (some (yi 0)) (N, T, R, I6)) ∧ (¬ (r7 = 0) → K (some (yi 1)) (N, T, R, I6)))) 0 0 0 [(0, yr (some 1)), (1, yi 1)] [] (N, T, R, I)))) :
    yW l zSS D cy zFk z (d + 1) 36 bc bs K 0 0 0 [(0, yr (some 1))] [] (N, T, R, I) := by
  refine e_12 (f_36 (pc := 0) (e := (0, 12, 0, 0, 0, 0, 0, 1)) rfl) rfl ?_
  refine e_90 zA (f_36 (pc := 1) (e := (1, 90, 3, 5, 0, 43, 865, 4)) rfl) rfl (hT 1 rfl) rfl rfl ?_
  refine e_0 (f_36 (pc := 4) (e := (4, 0, 2, 0, 0, 0, 0, 5)) rfl) (v := 2) rfl ?_
  refine e_71 (f_36 (pc := 5) (e := (5, 71, 16, 0, 0, 0, 0, 8)) rfl) (fun c1 => ?_) (fun c1 => ?_)
  · replace F := F.1 c1
    refine e_12 (f_36 (pc := 16) (e := (16, 12, 0, 0, 0, 0, 0, 17)) rfl) rfl ?_
    refine e_0 (f_36 (pc := 17) (e := (17, 0, 1, 0, 0, 0, 0, 18)) rfl) (v := 1) rfl ?_
    refine e_130 (f_36 (pc := 18) (e := (18, 130, 34, 0, 3, 78, 869, 21)) rfl) zA (as := [yr (some 1), yi 1]) (rest := []) rfl rfl rfl rfl (Nat.le_of_ble_eq_true rfl) (Nat.le_of_ble_eq_true rfl) ⟨_, _, _, rfl, (hT 1 rfl)⟩ (mc := 0) (ms := 0) (Nat.zero_le _) (Nat.zero_le _) ?_
    refine e_K ?_ F
    rintro r h' ⟨r3, I2, rfl, rfl, F⟩
    refine e_60 (f_36 (pc := 21) (e := (21, 60, 28, 0, 0, 0, 0, 24)) rfl) (fun c4 => ?_) (fun c4 => ?_)
    · replace F := F.1 c4
      refine e_0 (f_36 (pc := 28) (e := (28, 0, 0, 0, 0, 0, 0, 29)) rfl) (v := 0) rfl ?_
      exact e_121 (f_36 (pc := 29) (e := (29, 121, 0, 0, 0, 0, 0, 0)) rfl) (.inl rfl) F
    · replace F := F.2 c4
      refine e_0 (f_36 (pc := 24) (e := (24, 0, 1, 0, 0, 0, 0, 25)) rfl) (v := 1) rfl ?_
      refine e_80 (f_36 (pc := 25) (e := (25, 80, 29, 0, 0, 0, 0, 28)) rfl) ?_
      exact e_121 (f_36 (pc := 29) (e := (29, 121, 0, 0, 0, 0, 0, 0)) rfl) (.inr rfl) F
  · replace F := F.2 c1
    refine e_12 (f_36 (pc := 8) (e := (8, 12, 0, 0, 0, 0, 0, 9)) rfl) rfl ?_
    refine e_90 zA (f_36 (pc := 9) (e := (9, 90, 3, 6, 0, 46, 866, 12)) rfl) rfl (hT 1 rfl) rfl rfl ?_
    refine e_0 (f_36 (pc := 12) (e := (12, 0, 4294967295, 0, 0, 0, 0, 13)) rfl) (v := (-1)) rfl ?_
    refine e_70 (f_36 (pc := 13) (e := (13, 70, 24, 0, 0, 0, 0, 16)) rfl) (fun c5 => ?_) (fun c5 => ?_)
    · replace F := F.1 c5
      refine e_0 (f_36 (pc := 24) (e := (24, 0, 1, 0, 0, 0, 0, 25)) rfl) (v := 1) rfl ?_
      refine e_80 (f_36 (pc := 25) (e := (25, 80, 29, 0, 0, 0, 0, 28)) rfl) ?_
      exact e_121 (f_36 (pc := 29) (e := (29, 121, 0, 0, 0, 0, 0, 0)) rfl) (.inr rfl) F
    · replace F := F.2 c5
      refine e_12 (f_36 (pc := 16) (e := (16, 12, 0, 0, 0, 0, 0, 17)) rfl) rfl ?_
      refine e_0 (f_36 (pc := 17) (e := (17, 0, 1, 0, 0, 0, 0, 18)) rfl) (v := 1) rfl ?_
      refine e_130 (f_36 (pc := 18) (e := (18, 130, 34, 0, 3, 78, 869, 21)) rfl) zA (as := [yr (some 1), yi 1]) (rest := []) rfl rfl rfl rfl (Nat.le_of_ble_eq_true rfl) (Nat.le_of_ble_eq_true rfl) ⟨_, _, _, rfl, (hT 1 rfl)⟩ (mc := 0) (ms := 0) (Nat.zero_le _) (Nat.zero_le _) ?_
      refine e_K ?_ F
      rintro r h' ⟨r7, I6, rfl, rfl, F⟩
      refine e_60 (f_36 (pc := 21) (e := (21, 60, 28, 0, 0, 0, 0, 24)) rfl) (fun c8 => ?_) (fun c8 => ?_)
      · replace F := F.1 c8
        refine e_0 (f_36 (pc := 28) (e := (28, 0, 0, 0, 0, 0, 0, 29)) rfl) (v := 0) rfl ?_
        exact e_121 (f_36 (pc := 29) (e := (29, 121, 0, 0, 0, 0, 0, 0)) rfl) (.inl rfl) F
      · replace F := F.2 c8
        refine e_0 (f_36 (pc := 24) (e := (24, 0, 1, 0, 0, 0, 0, 25)) rfl) (v := 1) rfl ?_
        refine e_80 (f_36 (pc := 25) (e := (25, 80, 29, 0, 0, 0, 0, 28)) rfl) ?_
        exact e_121 (f_36 (pc := 29) (e := (29, 121, 0, 0, 0, 0, 0, 0)) rfl) (.inr rfl) F

/-! ChairAlley$Reader.isNumber(II)Z -/
set_option maxRecDepth 20000 in
theorem B_37_0 (hT : yLT T) (hR : yLR R) {x1 x2 : Int} (F : ((I 1 5) = 3 → ((I 1 8) < x1 → yW l zSS D cy zFk z d 34 0 0 (fun r h' => ∃ r4 I3, r = some (yi r4) ∧ h' = (N, T, R, I3) ∧ ((r4 = 0 → K (some (yi 0)) (N, T, R, I3)) ∧ (¬ (r4 = 0) → K (some (yi 1)) (N, T, R, I3)))) 0 0 0 [(0, yr (some 1)), (1, yi 2)] [] (N, T, R, I)) ∧ (¬ ((I 1 8) < x1) → ((I 1 8) ≤ x2 → K (some (yi 1)) (N, T, R, I)) ∧ (¬ ((I 1 8) ≤ x2) → yW l zSS D cy zFk z d 34 0 0 (fun r h' => ∃ r8 I7, r = some (yi r8) ∧ h' = (N, T, R, I7) ∧ ((r8 = 0 → K (some (yi 0)) (N, T, R, I7)) ∧ (¬ (r8 = 0) → K (some (yi 1)) (N, T, R, I7)))) 0 0 0 [(0, yr (some 1)), (1, yi 2)] [] (N, T, R, I)))) ∧ (¬ ((I 1 5) = 3) → yW l zSS D cy zFk z d 34 0 0 (fun r h' => ∃ r11 I10, r = some (yi r11) ∧ h' = (N, T, R, I10) ∧ ((r11 = 0 ∨ r11 = 1) ∧ K (some (yi r11)) (N, T, R, I10))) 0 0 0 [(0, yr (some 1)), (1, yi 1)] [] (N, T, R, I))) :
    yW l zSS D cy zFk z (d + 1) 37 bc bs K 0 0 0 [(0, yr (some 1)), (1, yi x1), (2, yi x2)] [] (N, T, R, I) := by
  refine e_12 (f_37 (pc := 0) (e := (0, 12, 0, 0, 0, 0, 0, 1)) rfl) rfl ?_
  refine e_90 zA (f_37 (pc := 1) (e := (1, 90, 3, 5, 0, 43, 865, 4)) rfl) rfl (hT 1 rfl) rfl rfl ?_
  refine e_0 (f_37 (pc := 4) (e := (4, 0, 3, 0, 0, 0, 0, 5)) rfl) (v := 3) rfl ?_
  refine e_70 (f_37 (pc := 5) (e := (5, 70, 14, 0, 0, 0, 0, 8)) rfl) (fun c1 => ?_) (fun c1 => ?_)
  · replace F := F.1 c1
    refine e_12 (f_37 (pc := 14) (e := (14, 12, 0, 0, 0, 0, 0, 15)) rfl) rfl ?_
    refine e_90 zA (f_37 (pc := 15) (e := (15, 90, 3, 8, 0, 59, 874, 18)) rfl) rfl (hT 1 rfl) rfl rfl ?_
    refine e_10 (f_37 (pc := 18) (e := (18, 10, 1, 0, 0, 0, 0, 19)) rfl) rfl ?_
    refine e_72 (f_37 (pc := 19) (e := (19, 72, 30, 0, 0, 0, 0, 22)) rfl) (fun c2 => ?_) (fun c2 => ?_)
    · replace F := F.1 c2
      refine e_12 (f_37 (pc := 30) (e := (30, 12, 0, 0, 0, 0, 0, 31)) rfl) rfl ?_
      refine e_0 (f_37 (pc := 31) (e := (31, 0, 2, 0, 0, 0, 0, 32)) rfl) (v := 2) rfl ?_
      refine e_130 (f_37 (pc := 32) (e := (32, 130, 34, 0, 3, 78, 869, 35)) rfl) zA (as := [yr (some 1), yi 2]) (rest := []) rfl rfl rfl rfl (Nat.le_of_ble_eq_true rfl) (Nat.le_of_ble_eq_true rfl) ⟨_, _, _, rfl, (hT 1 rfl)⟩ (mc := 0) (ms := 0) (Nat.zero_le _) (Nat.zero_le _) ?_
      refine e_K ?_ F
      rintro r h' ⟨r4, I3, rfl, rfl, F⟩
      refine e_60 (f_37 (pc := 35) (e := (35, 60, 42, 0, 0, 0, 0, 38)) rfl) (fun c5 => ?_) (fun c5 => ?_)
      · replace F := F.1 c5
        refine e_0 (f_37 (pc := 42) (e := (42, 0, 0, 0, 0, 0, 0, 43)) rfl) (v := 0) rfl ?_
        exact e_121 (f_37 (pc := 43) (e := (43, 121, 0, 0, 0, 0, 0, 0)) rfl) (.inl rfl) F
      · replace F := F.2 c5
        refine e_0 (f_37 (pc := 38) (e := (38, 0, 1, 0, 0, 0, 0, 39)) rfl) (v := 1) rfl ?_
        refine e_80 (f_37 (pc := 39) (e := (39, 80, 43, 0, 0, 0, 0, 42)) rfl) ?_
        exact e_121 (f_37 (pc := 43) (e := (43, 121, 0, 0, 0, 0, 0, 0)) rfl) (.inr rfl) F
    · replace F := F.2 c2
      refine e_12 (f_37 (pc := 22) (e := (22, 12, 0, 0, 0, 0, 0, 23)) rfl) rfl ?_
      refine e_90 zA (f_37 (pc := 23) (e := (23, 90, 3, 8, 0, 59, 874, 26)) rfl) rfl (hT 1 rfl) rfl rfl ?_
      refine e_10 (f_37 (pc := 26) (e := (26, 10, 2, 0, 0, 0, 0, 27)) rfl) rfl ?_
      refine e_75 (f_37 (pc := 27) (e := (27, 75, 38, 0, 0, 0, 0, 30)) rfl) (fun c6 => ?_) (fun c6 => ?_)
      · replace F := F.1 c6
        refine e_0 (f_37 (pc := 38) (e := (38, 0, 1, 0, 0, 0, 0, 39)) rfl) (v := 1) rfl ?_
        refine e_80 (f_37 (pc := 39) (e := (39, 80, 43, 0, 0, 0, 0, 42)) rfl) ?_
        exact e_121 (f_37 (pc := 43) (e := (43, 121, 0, 0, 0, 0, 0, 0)) rfl) (.inr rfl) F
      · replace F := F.2 c6
        refine e_12 (f_37 (pc := 30) (e := (30, 12, 0, 0, 0, 0, 0, 31)) rfl) rfl ?_
        refine e_0 (f_37 (pc := 31) (e := (31, 0, 2, 0, 0, 0, 0, 32)) rfl) (v := 2) rfl ?_
        refine e_130 (f_37 (pc := 32) (e := (32, 130, 34, 0, 3, 78, 869, 35)) rfl) zA (as := [yr (some 1), yi 2]) (rest := []) rfl rfl rfl rfl (Nat.le_of_ble_eq_true rfl) (Nat.le_of_ble_eq_true rfl) ⟨_, _, _, rfl, (hT 1 rfl)⟩ (mc := 0) (ms := 0) (Nat.zero_le _) (Nat.zero_le _) ?_
        refine e_K ?_ F
        rintro r h' ⟨r8, I7, rfl, rfl, F⟩
        refine e_60 (f_37 (pc := 35) (e := (35, 60, 42, 0, 0, 0, 0, 38)) rfl) (fun c9 => ?_) (fun c9 => ?_)
        · replace F := F.1 c9
          refine e_0 (f_37 (pc := 42) (e := (42, 0, 0, 0, 0, 0, 0, 43)) rfl) (v := 0) rfl ?_
          exact e_121 (f_37 (pc := 43) (e := (43, 121, 0, 0, 0, 0, 0, 0)) rfl) (.inl rfl) F
        · replace F := F.2 c9
          refine e_0 (f_37 (pc := 38) (e := (38, 0, 1, 0, 0, 0, 0, 39)) rfl) (v := 1) rfl ?_
          refine e_80 (f_37 (pc := 39) (e := (39, 80, 43, 0, 0, 0, 0, 42)) rfl) ?_
          exact e_121 (f_37 (pc := 43) (e := (43, 121, 0, 0, 0, 0, 0, 0)) rfl) (.inr rfl) F
  · replace F := F.2 c1
    refine e_12 (f_37 (pc := 8) (e := (8, 12, 0, 0, 0, 0, 0, 9)) rfl) rfl ?_
    refine e_0 (f_37 (pc := 9) (e := (9, 0, 1, 0, 0, 0, 0, 10)) rfl) (v := 1) rfl ?_
    refine e_130 (f_37 (pc := 10) (e := (10, 130, 34, 0, 3, 78, 869, 13)) rfl) zA (as := [yr (some 1), yi 1]) (rest := []) rfl rfl rfl rfl (Nat.le_of_ble_eq_true rfl) (Nat.le_of_ble_eq_true rfl) ⟨_, _, _, rfl, (hT 1 rfl)⟩ (mc := 0) (ms := 0) (Nat.zero_le _) (Nat.zero_le _) ?_
    refine e_K ?_ F
    rintro r h' ⟨r11, I10, rfl, rfl, F⟩
    exact e_121 (f_37 (pc := 13) (e := (13, 121, 0, 0, 0, 0, 0, 14)) rfl) F.1 F.2
end Sy
