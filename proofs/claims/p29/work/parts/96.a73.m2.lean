/-! BLOCKS of the reference, printed by wip/whole/y/gen73.py (2) -/
section Sy
variable {l : Launch} {D : va_G} {cy : Nat → ClassId} {z d bc bs N : Nat} {T : Nat → Nat × Nat} {R : Nat → Nat → Option Nat} {I : Nat → Nat → Int} {K : yKo}
/-! knotRow(I)I -/
set_option maxRecDepth 20000 in
theorem B_204_0 (hT : yLT T) (hR : yLR R) {x1 : Int} (F : yW l zSS D cy zFk z d 204 bc bs K 0 0 4 [(0, yr (some 102)), (1, yi x1), (2, yi 0), (3, yi x1)] [] (N, T, R, I)) :
    yW l zSS D cy zFk z d 204 bc bs K 0 0 0 [(0, yr (some 102)), (1, yi x1)] [] (N, T, R, I) := by
  refine e_0 (f_204 (pc := 0) (e := (0, 0, 0, 0, 0, 0, 0, 1)) rfl) (v := 0) rfl ?_
  refine e_20 (f_204 (pc := 1) (e := (1, 20, 2, 0, 0, 0, 0, 2)) rfl) ?_
  refine e_10 (f_204 (pc := 2) (e := (2, 10, 1, 0, 0, 0, 0, 3)) rfl) rfl ?_
  refine e_20 (f_204 (pc := 3) (e := (3, 20, 3, 0, 0, 0, 0, 4)) rfl) ?_
  refine e_lo [0, 1, 2, 3] rfl ?_
  exact F
set_option maxRecDepth 20000 in
theorem B_204_4 (hT : yLT T) (hR : yLR R) {x1 x2 x3 : Int} (F : (x3 ≤ 0 → ∀ I2, I2 = yU I 102 42 x2 → (yW l zSS D cy zFk z d 204 bc bs K 0 0 38 [(0, yr (some 102)), (2, yi x2), (3, yi x1)] [] (N, T, R, I2))) ∧ (¬ (x3 ≤ 0) → 0 ≤ x3 ∧ x3 < 50653 ∧ (0 ≤ (I 116 x3.toNat) ∧ (I 116 x3.toNat) < 50653 ∧ (yW l zSS D cy zFk z d 204 bc bs K 0 0 4 [(0, yr (some 102)), (1, yi x1), (2, yi (yadd x2 1)), (3, yi (ydiv (ysub (I 115 (I 116 x3.toNat).toNat) 1) 12))] [] (N, T, R, I))))) :
    yW l zSS D cy zFk z d 204 bc bs K 0 0 4 [(0, yr (some 102)), (1, yi x1), (2, yi x2), (3, yi x3)] [] (N, T, R, I) := by
  refine e_10 (f_204 (pc := 4) (e := (4, 10, 3, 0, 0, 0, 0, 5)) rfl) rfl ?_
  refine e_65 (f_204 (pc := 5) (e := (5, 65, 31, 0, 0, 0, 0, 8)) rfl) (fun c1 => ?_) (fun c1 => ?_)
  · replace F := F.1 c1
    refine e_12 (f_204 (pc := 31) (e := (31, 12, 0, 0, 0, 0, 0, 32)) rfl) rfl ?_
    refine e_10 (f_204 (pc := 32) (e := (32, 10, 2, 0, 0, 0, 0, 33)) rfl) rfl ?_
    refine e_91 zA (f_204 (pc := 33) (e := (33, 91, 11, 42, 0, 371, 1274, 36)) rfl) rfl (hT 102 rfl) rfl rfl trivial ?_
    replace F := F _ rfl
    refine e_10 (f_204 (pc := 36) (e := (36, 10, 1, 0, 0, 0, 0, 37)) rfl) rfl ?_
    refine e_20 (f_204 (pc := 37) (e := (37, 20, 3, 0, 0, 0, 0, 38)) rfl) ?_
    refine e_lo [0, 2, 3] rfl ?_
    exact F
  · replace F := F.2 c1
    refine e_26 (f_204 (pc := 8) (e := (8, 26, 2, 1, 0, 0, 0, 11)) rfl) (w := 1) rfl rfl ?_
    refine e_12 (f_204 (pc := 11) (e := (11, 12, 0, 0, 0, 0, 0, 12)) rfl) rfl ?_
    refine e_90r zA (f_204 (pc := 12) (e := (12, 90, 11, 36, 3, 69, 1171, 15)) rfl) rfl (hT 102 rfl) rfl rfl (hR 102 36 rfl) ?_
    refine e_12 (f_204 (pc := 15) (e := (15, 12, 0, 0, 0, 0, 0, 16)) rfl) rfl ?_
    refine e_90r zA (f_204 (pc := 16) (e := (16, 90, 11, 37, 3, 72, 1172, 19)) rfl) rfl (hT 102 rfl) rfl rfl (hR 102 37 rfl) ?_
    refine e_10 (f_204 (pc := 19) (e := (19, 10, 3, 0, 0, 0, 0, 20)) rfl) rfl ?_
    obtain ⟨b3, b4, F⟩ := F
    refine e_110 (f_204 (pc := 20) (e := (20, 110, 0, 0, 0, 0, 0, 21)) rfl) rfl (hT 116 rfl) b3 b4 ?_
    obtain ⟨b5, b6, F⟩ := F
    refine e_110 (f_204 (pc := 21) (e := (21, 110, 0, 0, 0, 0, 0, 22)) rfl) rfl (hT 115 rfl) b5 b6 ?_
    refine e_0 (f_204 (pc := 22) (e := (22, 0, 1, 0, 0, 0, 0, 23)) rfl) (v := 1) rfl ?_
    refine e_31 (f_204 (pc := 23) (e := (23, 31, 0, 0, 0, 0, 0, 24)) rfl) ?_
    refine e_1 (f_204 (pc := 24) (e := (24, 1, 12, 0, 0, 0, 0, 26)) rfl) (v := 12) rfl ?_
    refine e_33 (f_204 (pc := 26) (e := (26, 33, 0, 0, 0, 0, 0, 27)) rfl) (by decide) ?_
    refine e_20 (f_204 (pc := 27) (e := (27, 20, 3, 0, 0, 0, 0, 28)) rfl) ?_
    refine e_80 (f_204 (pc := 28) (e := (28, 80, 4, 0, 0, 0, 0, 31)) rfl) ?_
    refine e_lo [0, 1, 2, 3] rfl ?_
    exact F
set_option maxRecDepth 20000 in
theorem B_204_38 (hT : yLT T) (hR : yLR R) {x2 x3 : Int} (F : (x3 ≤ 0 → K (some (yi (I 102 42))) (N, T, R, I)) ∧ (¬ (x3 ≤ 0) → 0 ≤ x3 ∧ x3 < 50653 ∧ (0 ≤ (I 116 x3.toNat) ∧ (I 116 x3.toNat) < 50653 ∧ ((400 ≤ (yadd x2 (-1)) → 0 ≤ x3 ∧ x3 < 50653 ∧ (0 ≤ (I 116 x3.toNat) ∧ (I 116 x3.toNat) < 50653 ∧ (yW l zSS D cy zFk z d 204 bc bs K 0 0 38 [(0, yr (some 102)), (2, yi (yadd x2 (-1))), (3, yi (ydiv (ysub (I 115 (I 116 x3.toNat).toNat) 1) 12))] [] (N, T, R, I)))) ∧ (¬ (400 ≤ (yadd x2 (-1))) → 0 ≤ (ydiv (yrem (ysub (I 115 (I 116 x3.toNat).toNat) 1) 12) 4) ∧ (ydiv (yrem (ysub (I 115 (I 116 x3.toNat).toNat) 1) 12) 4) < 3 ∧ (0 ≤ (yadd x2 (-1)) ∧ (yadd x2 (-1)) < 400 ∧ (∀ I15, I15 = yU I 118 ((yadd x2 (-1)).toNat) (ynar 1 (yadd (ymul 4 (I 117 (ydiv (yrem (ysub (I 115 (I 116 x3.toNat).toNat) 1) 12) 4).toNat)) (yrem (yrem (ysub (I 115 (I 116 x3.toNat).toNat) 1) 12) 4))) → (0 ≤ x3 ∧ x3 < 50653 ∧ (0 ≤ (I15 116 x3.toNat) ∧ (I15 116 x3.toNat) < 50653 ∧ (yW l zSS D cy zFk z d 204 bc bs K 0 0 38 [(0, yr (some 102)), (2, yi (yadd x2 (-1))), (3, yi (ydiv (ysub (I15 115 (I15 116 x3.toNat).toNat) 1) 12))] [] (N, T, R, I15))))))))))) :
    yW l zSS D cy zFk z d 204 bc bs K 0 0 38 [(0, yr (some 102)), (2, yi x2), (3, yi x3)] [] (N, T, R, I) := by
  refine e_10 (f_204 (pc := 38) (e := (38, 10, 3, 0, 0, 0, 0, 39)) rfl) rfl ?_
  refine e_65 (f_204 (pc := 39) (e := (39, 65, 112, 0, 0, 0, 0, 42)) rfl) (fun c1 => ?_) (fun c1 => ?_)
  · replace F := F.1 c1
    refine e_12 (f_204 (pc := 112) (e := (112, 12, 0, 0, 0, 0, 0, 113)) rfl) rfl ?_
    refine e_90 zA (f_204 (pc := 113) (e := (113, 90, 11, 42, 0, 371, 1274, 116)) rfl) rfl (hT 102 rfl) rfl rfl ?_
    exact e_120 (f_204 (pc := 116) (e := (116, 120, 0, 0, 0, 0, 0, 0)) rfl) F
  · replace F := F.2 c1
    refine e_26 (f_204 (pc := 42) (e := (42, 26, 2, 4294967295, 0, 0, 0, 45)) rfl) (w := (-1)) rfl rfl ?_
    refine e_12 (f_204 (pc := 45) (e := (45, 12, 0, 0, 0, 0, 0, 46)) rfl) rfl ?_
    refine e_90r zA (f_204 (pc := 46) (e := (46, 90, 11, 36, 3, 69, 1171, 49)) rfl) rfl (hT 102 rfl) rfl rfl (hR 102 36 rfl) ?_
    refine e_12 (f_204 (pc := 49) (e := (49, 12, 0, 0, 0, 0, 0, 50)) rfl) rfl ?_
    refine e_90r zA (f_204 (pc := 50) (e := (50, 90, 11, 37, 3, 72, 1172, 53)) rfl) rfl (hT 102 rfl) rfl rfl (hR 102 37 rfl) ?_
    refine e_10 (f_204 (pc := 53) (e := (53, 10, 3, 0, 0, 0, 0, 54)) rfl) rfl ?_
    obtain ⟨b2, b3, F⟩ := F
    refine e_110 (f_204 (pc := 54) (e := (54, 110, 0, 0, 0, 0, 0, 55)) rfl) rfl (hT 116 rfl) b2 b3 ?_
    obtain ⟨b4, b5, F⟩ := F
    refine e_110 (f_204 (pc := 55) (e := (55, 110, 0, 0, 0, 0, 0, 56)) rfl) rfl (hT 115 rfl) b4 b5 ?_
    refine e_0 (f_204 (pc := 56) (e := (56, 0, 1, 0, 0, 0, 0, 57)) rfl) (v := 1) rfl ?_
    refine e_31 (f_204 (pc := 57) (e := (57, 31, 0, 0, 0, 0, 0, 58)) rfl) ?_
    refine e_1 (f_204 (pc := 58) (e := (58, 1, 12, 0, 0, 0, 0, 60)) rfl) (v := 12) rfl ?_
    refine e_34 (f_204 (pc := 60) (e := (60, 34, 0, 0, 0, 0, 0, 61)) rfl) (by decide) ?_
    refine e_21 (f_204 (pc := 61) (e := (61, 21, 4, 0, 0, 0, 0, 63)) rfl) ?_
    refine e_10 (f_204 (pc := 63) (e := (63, 10, 2, 0, 0, 0, 0, 64)) rfl) rfl ?_
    refine e_2 (f_204 (pc := 64) (e := (64, 2, 400, 0, 0, 0, 0, 67)) rfl) (v := 400) rfl ?_
    refine e_73 (f_204 (pc := 67) (e := (67, 73, 92, 0, 0, 0, 0, 70)) rfl) (fun c6 => ?_) (fun c6 => ?_)
    · replace F := F.1 c6
      refine e_12 (f_204 (pc := 92) (e := (92, 12, 0, 0, 0, 0, 0, 93)) rfl) rfl ?_
      refine e_90r zA (f_204 (pc := 93) (e := (93, 90, 11, 36, 3, 69, 1171, 96)) rfl) rfl (hT 102 rfl) rfl rfl (hR 102 36 rfl) ?_
      refine e_12 (f_204 (pc := 96) (e := (96, 12, 0, 0, 0, 0, 0, 97)) rfl) rfl ?_
      refine e_90r zA (f_204 (pc := 97) (e := (97, 90, 11, 37, 3, 72, 1172, 100)) rfl) rfl (hT 102 rfl) rfl rfl (hR 102 37 rfl) ?_
      refine e_10 (f_204 (pc := 100) (e := (100, 10, 3, 0, 0, 0, 0, 101)) rfl) rfl ?_
      obtain ⟨b7, b8, F⟩ := F
      refine e_110 (f_204 (pc := 101) (e := (101, 110, 0, 0, 0, 0, 0, 102)) rfl) rfl (hT 116 rfl) b7 b8 ?_
      obtain ⟨b9, b10, F⟩ := F
      refine e_110 (f_204 (pc := 102) (e := (102, 110, 0, 0, 0, 0, 0, 103)) rfl) rfl (hT 115 rfl) b9 b10 ?_
      refine e_0 (f_204 (pc := 103) (e := (103, 0, 1, 0, 0, 0, 0, 104)) rfl) (v := 1) rfl ?_
      refine e_31 (f_204 (pc := 104) (e := (104, 31, 0, 0, 0, 0, 0, 105)) rfl) ?_
      refine e_1 (f_204 (pc := 105) (e := (105, 1, 12, 0, 0, 0, 0, 107)) rfl) (v := 12) rfl ?_
      refine e_33 (f_204 (pc := 107) (e := (107, 33, 0, 0, 0, 0, 0, 108)) rfl) (by decide) ?_
      refine e_20 (f_204 (pc := 108) (e := (108, 20, 3, 0, 0, 0, 0, 109)) rfl) ?_
      refine e_80 (f_204 (pc := 109) (e := (109, 80, 38, 0, 0, 0, 0, 112)) rfl) ?_
      refine e_lo [0, 2, 3] rfl ?_
      exact F
    · replace F := F.2 c6
      refine e_12 (f_204 (pc := 70) (e := (70, 12, 0, 0, 0, 0, 0, 71)) rfl) rfl ?_
      refine e_90r zA (f_204 (pc := 71) (e := (71, 90, 11, 39, 3, 78, 1174, 74)) rfl) rfl (hT 102 rfl) rfl rfl (hR 102 39 rfl) ?_
      refine e_10 (f_204 (pc := 74) (e := (74, 10, 2, 0, 0, 0, 0, 75)) rfl) rfl ?_
      refine e_0 (f_204 (pc := 75) (e := (75, 0, 4, 0, 0, 0, 0, 76)) rfl) (v := 4) rfl ?_
      refine e_12 (f_204 (pc := 76) (e := (76, 12, 0, 0, 0, 0, 0, 77)) rfl) rfl ?_
      refine e_90r zA (f_204 (pc := 77) (e := (77, 90, 11, 38, 3, 75, 1173, 80)) rfl) rfl (hT 102 rfl) rfl rfl (hR 102 38 rfl) ?_
      refine e_11 (f_204 (pc := 80) (e := (80, 11, 4, 0, 0, 0, 0, 82)) rfl) rfl ?_
      refine e_0 (f_204 (pc := 82) (e := (82, 0, 4, 0, 0, 0, 0, 83)) rfl) (v := 4) rfl ?_
      refine e_33 (f_204 (pc := 83) (e := (83, 33, 0, 0, 0, 0, 0, 84)) rfl) (by decide) ?_
      obtain ⟨b11, b12, F⟩ := F
      refine e_110 (f_204 (pc := 84) (e := (84, 110, 0, 0, 0, 0, 0, 85)) rfl) rfl (hT 117 rfl) b11 b12 ?_
      refine e_32 (f_204 (pc := 85) (e := (85, 32, 0, 0, 0, 0, 0, 86)) rfl) ?_
      refine e_11 (f_204 (pc := 86) (e := (86, 11, 4, 0, 0, 0, 0, 88)) rfl) rfl ?_
      refine e_0 (f_204 (pc := 88) (e := (88, 0, 4, 0, 0, 0, 0, 89)) rfl) (v := 4) rfl ?_
      refine e_34 (f_204 (pc := 89) (e := (89, 34, 0, 0, 0, 0, 0, 90)) rfl) (by decide) ?_
      refine e_30 (f_204 (pc := 90) (e := (90, 30, 0, 0, 0, 0, 0, 91)) rfl) ?_
      obtain ⟨b13, b14, F⟩ := F
      refine e_111 (f_204 (pc := 91) (e := (91, 111, 0, 0, 0, 0, 0, 92)) rfl) rfl (hT 118 rfl) b13 b14 ?_
      replace F := F _ rfl
      refine e_12 (f_204 (pc := 92) (e := (92, 12, 0, 0, 0, 0, 0, 93)) rfl) rfl ?_
      refine e_90r zA (f_204 (pc := 93) (e := (93, 90, 11, 36, 3, 69, 1171, 96)) rfl) rfl (hT 102 rfl) rfl rfl (hR 102 36 rfl) ?_
      refine e_12 (f_204 (pc := 96) (e := (96, 12, 0, 0, 0, 0, 0, 97)) rfl) rfl ?_
      refine e_90r zA (f_204 (pc := 97) (e := (97, 90, 11, 37, 3, 72, 1172, 100)) rfl) rfl (hT 102 rfl) rfl rfl (hR 102 37 rfl) ?_
      refine e_10 (f_204 (pc := 100) (e := (100, 10, 3, 0, 0, 0, 0, 101)) rfl) rfl ?_
      obtain ⟨b16, b17, F⟩ := F
      refine e_110 (f_204 (pc := 101) (e := (101, 110, 0, 0, 0, 0, 0, 102)) rfl) rfl (hT 116 rfl) b16 b17 ?_
      obtain ⟨b18, b19, F⟩ := F
      refine e_110 (f_204 (pc := 102) (e := (102, 110, 0, 0, 0, 0, 0, 103)) rfl) rfl (hT 115 rfl) b18 b19 ?_
      refine e_0 (f_204 (pc := 103) (e := (103, 0, 1, 0, 0, 0, 0, 104)) rfl) (v := 1) rfl ?_
      refine e_31 (f_204 (pc := 104) (e := (104, 31, 0, 0, 0, 0, 0, 105)) rfl) ?_
      refine e_1 (f_204 (pc := 105) (e := (105, 1, 12, 0, 0, 0, 0, 107)) rfl) (v := 12) rfl ?_
      refine e_33 (f_204 (pc := 107) (e := (107, 33, 0, 0, 0, 0, 0, 108)) rfl) (by decide) ?_
      refine e_20 (f_204 (pc := 108) (e := (108, 20, 3, 0, 0, 0, 0, 109)) rfl) ?_
      refine e_80 (f_204 (pc := 109) (e := (109, 80, 38, 0, 0, 0, 0, 112)) rfl) ?_
      refine e_lo [0, 2, 3] rfl ?_
      exact F

/-! lane(II)Z -/
set_option maxRecDepth 20000 in
theorem B_205_0 (hT : yLT T) (hR : yLR R) {x1 x2 : Int} (F : ∀ I1, I1 = yU I 102 0 0 → (yW l zSS D cy zFk z d 190 0 0 (fun r h' => ∃ r3 I2, r = some (yi r3) ∧ h' = (N, T, R, I2) ∧ ((r3 = 0 → K (some (yi 0)) (N, T, R, I2)) ∧ (¬ (r3 = 0) → yW l zSS D cy zFk z d 191 0 0 (fun r h' => ∃ r6 I5, r = some (yi r6) ∧ h' = (N, T, R, I5) ∧ ((r6 = 0 → K (some (yi 0)) (N, T, R, I5)) ∧ (¬ (r6 = 0) → 0 ≤ (yadd 526 x1) ∧ (yadd 526 x1) < 1188 ∧ (((I5 104 (yadd 526 x1).toNat) ≠ (yadd x2 1) → yW l zSS D cy zFk z d 203 0 0 (fun r h' => ∃ I11, r = none ∧ h' = (N, T, R, I11) ∧ (0 ≤ (yadd 526 x1) ∧ (yadd 526 x1) < 1188 ∧ (∀ I14, I14 = yU I11 104 ((yadd 526 x1).toNat) (ynar 1 (yadd x2 1)) → (K (some (yi 1)) (N, T, R, I14))))) 0 0 0 [(0, yr (some 102))] [] (N, T, R, I5)) ∧ (¬ ((I5 104 (yadd 526 x1).toNat) ≠ (yadd x2 1)) → K (some (yi 0)) (N, T, R, I5)))))) 0 0 0 [(0, yi x2), (1, yi (-1)), (2, yi 3)] [] (N, T, R, I2)))) 0 0 0 [(0, yr (some 102)), (1, yi x1)] [] (N, T, R, I1))) :
    yW l zSS D cy zFk z (d + 1) 205 bc bs K 0 0 0 [(0, yr (some 102)), (1, yi x1), (2, yi x2)] [] (N, T, R, I) := by
  refine e_12 (f_205 (pc := 0) (e := (0, 12, 0, 0, 0, 0, 0, 1)) rfl) rfl ?_
  refine e_0 (f_205 (pc := 1) (e := (1, 0, 0, 0, 0, 0, 0, 2)) rfl) (v := 0) rfl ?_
  refine e_91 zA (f_205 (pc := 2) (e := (2, 91, 11, 0, 0, 1, 1216, 5)) rfl) rfl (hT 102 rfl) rfl rfl trivial ?_
  replace F := F _ rfl
  refine e_12 (f_205 (pc := 5) (e := (5, 12, 0, 0, 0, 0, 0, 6)) rfl) rfl ?_
  refine e_10 (f_205 (pc := 6) (e := (6, 10, 1, 0, 0, 0, 0, 7)) rfl) rfl ?_
  refine e_130 (f_205 (pc := 7) (e := (7, 130, 190, 0, 11, 279, 1275, 10)) rfl) zA (as := [yr (some 102), yi x1]) (rest := []) rfl rfl rfl rfl (Nat.le_of_ble_eq_true rfl) (Nat.le_of_ble_eq_true rfl) ⟨_, _, _, rfl, (hT 102 rfl)⟩ (mc := 0) (ms := 0) (Nat.zero_le _) (Nat.zero_le _) ?_
  refine e_K ?_ F
  rintro r h' ⟨r3, I2, rfl, rfl, F⟩
  refine e_60 (f_205 (pc := 10) (e := (10, 60, 38, 0, 0, 0, 0, 13)) rfl) (fun c4 => ?_) (fun c4 => ?_)
  · replace F := F.1 c4
    refine e_0 (f_205 (pc := 38) (e := (38, 0, 0, 0, 0, 0, 0, 39)) rfl) (v := 0) rfl ?_
    exact e_121 (f_205 (pc := 39) (e := (39, 121, 0, 0, 0, 0, 0, 40)) rfl) (.inl rfl) F
  · replace F := F.2 c4
    refine e_10 (f_205 (pc := 13) (e := (13, 10, 2, 0, 0, 0, 0, 14)) rfl) rfl ?_
    refine e_0 (f_205 (pc := 14) (e := (14, 0, 4294967295, 0, 0, 0, 0, 15)) rfl) (v := (-1)) rfl ?_
    refine e_0 (f_205 (pc := 15) (e := (15, 0, 3, 0, 0, 0, 0, 16)) rfl) (v := 3) rfl ?_
    refine e_132 (f_205 (pc := 16) (e := (16, 132, 191, 2, 11, 193, 1245, 19)) rfl) zA (as := [yi x2, yi (-1), yi 3]) (rest := []) rfl rfl rfl rfl (Nat.le_of_ble_eq_true rfl) (Nat.le_of_ble_eq_true rfl) (mc := 0) (ms := 0) (Nat.zero_le _) (Nat.zero_le _) ?_
    refine e_K ?_ F
    rintro r h' ⟨r6, I5, rfl, rfl, F⟩
    refine e_60 (f_205 (pc := 19) (e := (19, 60, 38, 0, 0, 0, 0, 22)) rfl) (fun c7 => ?_) (fun c7 => ?_)
    · replace F := F.1 c7
      refine e_0 (f_205 (pc := 38) (e := (38, 0, 0, 0, 0, 0, 0, 39)) rfl) (v := 0) rfl ?_
      exact e_121 (f_205 (pc := 39) (e := (39, 121, 0, 0, 0, 0, 0, 40)) rfl) (.inl rfl) F
    · replace F := F.2 c7
      refine e_12 (f_205 (pc := 22) (e := (22, 12, 0, 0, 0, 0, 0, 23)) rfl) rfl ?_
      refine e_90r zA (f_205 (pc := 23) (e := (23, 90, 11, 6, 3, 33, 1159, 26)) rfl) rfl (hT 102 rfl) rfl rfl (hR 102 6 rfl) ?_
      refine e_2 (f_205 (pc := 26) (e := (26, 2, 526, 0, 0, 0, 0, 29)) rfl) (v := 526) rfl ?_
      refine e_10 (f_205 (pc := 29) (e := (29, 10, 1, 0, 0, 0, 0, 30)) rfl) rfl ?_
      refine e_30 (f_205 (pc := 30) (e := (30, 30, 0, 0, 0, 0, 0, 31)) rfl) ?_
      obtain ⟨b8, b9, F⟩ := F
      refine e_110 (f_205 (pc := 31) (e := (31, 110, 0, 0, 0, 0, 0, 32)) rfl) rfl (hT 104 rfl) b8 b9 ?_
      refine e_10 (f_205 (pc := 32) (e := (32, 10, 2, 0, 0, 0, 0, 33)) rfl) rfl ?_
      refine e_0 (f_205 (pc := 33) (e := (33, 0, 1, 0, 0, 0, 0, 34)) rfl) (v := 1) rfl ?_
      refine e_30 (f_205 (pc := 34) (e := (34, 30, 0, 0, 0, 0, 0, 35)) rfl) ?_
      refine e_71 (f_205 (pc := 35) (e := (35, 71, 40, 0, 0, 0, 0, 38)) rfl) (fun c10 => ?_) (fun c10 => ?_)
      · replace F := F.1 c10
        refine e_12 (f_205 (pc := 40) (e := (40, 12, 0, 0, 0, 0, 0, 41)) rfl) rfl ?_
        refine e_130 (f_205 (pc := 41) (e := (41, 130, 203, 0, 11, 342, 1255, 44)) rfl) zA (as := [yr (some 102)]) (rest := []) rfl rfl rfl rfl (Nat.le_of_ble_eq_true rfl) (Nat.le_of_ble_eq_true rfl) ⟨_, _, _, rfl, (hT 102 rfl)⟩ (mc := 0) (ms := 0) (Nat.zero_le _) (Nat.zero_le _) ?_
        refine e_K ?_ F
        rintro r h' ⟨I11, rfl, rfl, F⟩
        refine e_12 (f_205 (pc := 44) (e := (44, 12, 0, 0, 0, 0, 0, 45)) rfl) rfl ?_
        refine e_90r zA (f_205 (pc := 45) (e := (45, 90, 11, 6, 3, 33, 1159, 48)) rfl) rfl (hT 102 rfl) rfl rfl (hR 102 6 rfl) ?_
        refine e_2 (f_205 (pc := 48) (e := (48, 2, 526, 0, 0, 0, 0, 51)) rfl) (v := 526) rfl ?_
        refine e_10 (f_205 (pc := 51) (e := (51, 10, 1, 0, 0, 0, 0, 52)) rfl) rfl ?_
        refine e_30 (f_205 (pc := 52) (e := (52, 30, 0, 0, 0, 0, 0, 53)) rfl) ?_
        refine e_10 (f_205 (pc := 53) (e := (53, 10, 2, 0, 0, 0, 0, 54)) rfl) rfl ?_
        refine e_0 (f_205 (pc := 54) (e := (54, 0, 1, 0, 0, 0, 0, 55)) rfl) (v := 1) rfl ?_
        refine e_30 (f_205 (pc := 55) (e := (55, 30, 0, 0, 0, 0, 0, 56)) rfl) ?_
        obtain ⟨b12, b13, F⟩ := F
        refine e_111 (f_205 (pc := 56) (e := (56, 111, 0, 0, 0, 0, 0, 57)) rfl) rfl (hT 104 rfl) b12 b13 ?_
        replace F := F _ rfl
        refine e_0 (f_205 (pc := 57) (e := (57, 0, 1, 0, 0, 0, 0, 58)) rfl) (v := 1) rfl ?_
        exact e_121 (f_205 (pc := 58) (e := (58, 121, 0, 0, 0, 0, 0, 0)) rfl) (.inr rfl) F
      · replace F := F.2 c10
        refine e_0 (f_205 (pc := 38) (e := (38, 0, 0, 0, 0, 0, 0, 39)) rfl) (v := 0) rfl ?_
        exact e_121 (f_205 (pc := 39) (e := (39, 121, 0, 0, 0, 0, 0, 40)) rfl) (.inl rfl) F

/-! last()I -/
set_option maxRecDepth 20000 in
theorem B_206_0 (hT : yLT T) (hR : yLR R) (F : ∀ I1, I1 = yU I 102 0 0 → (yW l zSS D cy zFk z d 157 0 0 (fun r h' => ∃ r3 I2, r = some (yi r3) ∧ h' = (N, T, R, I2) ∧ ((r3 = 0 → yW l zSS D cy zFk z d 249 0 0 (fun r h' => ∃ I5, r = none ∧ h' = (N, T, R, I5) ∧ (yW l zSS D cy zFk z d 232 0 0 (fun r h' => ∃ I6, r = none ∧ h' = (N, T, R, I6) ∧ (yW l zSS D cy zFk z d 207 0 0 (fun r h' => ∃ r8 I7, r = some (yi r8) ∧ h' = (N, T, R, I7) ∧ (yW l zSS D cy zFk z d 158 0 0 (fun r h' => ∃ I9, r = none ∧ h' = (N, T, R, I9) ∧ (K (some (yi r8)) (N, T, R, I9))) 0 0 0 [(0, yr (some 102))] [] (N, T, R, I7))) 0 0 0 [(0, yr (some 102))] [] (N, T, R, I6))) 0 0 0 [(0, yr (some 102))] [] (N, T, R, I5))) 0 0 0 [(0, yr (some 102))] [] (N, T, R, I2)) ∧ (¬ (r3 = 0) → K (some (yi (-1))) (N, T, R, I2)))) 0 0 0 [(0, yr (some 102))] [] (N, T, R, I1))) :
    yW l zSS D cy zFk z (d + 1) 206 bc bs K 0 0 0 [(0, yr (some 102))] [] (N, T, R, I) := by
  refine e_12 (f_206 (pc := 0) (e := (0, 12, 0, 0, 0, 0, 0, 1)) rfl) rfl ?_
  refine e_0 (f_206 (pc := 1) (e := (1, 0, 0, 0, 0, 0, 0, 2)) rfl) (v := 0) rfl ?_
  refine e_91 zA (f_206 (pc := 2) (e := (2, 91, 11, 0, 0, 1, 1216, 5)) rfl) rfl (hT 102 rfl) rfl rfl trivial ?_
  replace F := F _ rfl
  refine e_12 (f_206 (pc := 5) (e := (5, 12, 0, 0, 0, 0, 0, 6)) rfl) rfl ?_
  refine e_130 (f_206 (pc := 6) (e := (6, 130, 157, 0, 11, 336, 1276, 9)) rfl) zA (as := [yr (some 102)]) (rest := []) rfl rfl rfl rfl (Nat.le_of_ble_eq_true rfl) (Nat.le_of_ble_eq_true rfl) ⟨_, _, _, rfl, (hT 102 rfl)⟩ (mc := 0) (ms := 0) (Nat.zero_le _) (Nat.zero_le _) ?_
  refine e_K ?_ F
  rintro r h' ⟨r3, I2, rfl, rfl, F⟩
  refine e_60 (f_206 (pc := 9) (e := (9, 60, 14, 0, 0, 0, 0, 12)) rfl) (fun c4 => ?_) (fun c4 => ?_)
  · replace F := F.1 c4
    refine e_12 (f_206 (pc := 14) (e := (14, 12, 0, 0, 0, 0, 0, 15)) rfl) rfl ?_
    refine e_130 (f_206 (pc := 15) (e := (15, 130, 249, 0, 11, 374, 1234, 18)) rfl) zA (as := [yr (some 102)]) (rest := []) rfl rfl rfl rfl (Nat.le_of_ble_eq_true rfl) (Nat.le_of_ble_eq_true rfl) ⟨_, _, _, rfl, (hT 102 rfl)⟩ (mc := 0) (ms := 0) (Nat.zero_le _) (Nat.zero_le _) ?_
    refine e_K ?_ F
    rintro r h' ⟨I5, rfl, rfl, F⟩
    refine e_12 (f_206 (pc := 18) (e := (18, 12, 0, 0, 0, 0, 0, 19)) rfl) rfl ?_
    refine e_130 (f_206 (pc := 19) (e := (19, 130, 232, 0, 11, 377, 1277, 22)) rfl) zA (as := [yr (some 102)]) (rest := []) rfl rfl rfl rfl (Nat.le_of_ble_eq_true rfl) (Nat.le_of_ble_eq_true rfl) ⟨_, _, _, rfl, (hT 102 rfl)⟩ (mc := 0) (ms := 0) (Nat.zero_le _) (Nat.zero_le _) ?_
    refine e_K ?_ F
    rintro r h' ⟨I6, rfl, rfl, F⟩
    refine e_12 (f_206 (pc := 22) (e := (22, 12, 0, 0, 0, 0, 0, 23)) rfl) rfl ?_
    refine e_130 (f_206 (pc := 23) (e := (23, 130, 207, 0, 11, 380, 1278, 26)) rfl) zA (as := [yr (some 102)]) (rest := []) rfl rfl rfl rfl (Nat.le_of_ble_eq_true rfl) (Nat.le_of_ble_eq_true rfl) ⟨_, _, _, rfl, (hT 102 rfl)⟩ (mc := 0) (ms := 0) (Nat.zero_le _) (Nat.zero_le _) ?_
    refine e_K ?_ F
    rintro r h' ⟨r8, I7, rfl, rfl, F⟩
    refine e_20 (f_206 (pc := 26) (e := (26, 20, 1, 0, 0, 0, 0, 27)) rfl) ?_
    refine e_12 (f_206 (pc := 27) (e := (27, 12, 0, 0, 0, 0, 0, 28)) rfl) rfl ?_
    refine e_130 (f_206 (pc := 28) (e := (28, 130, 158, 0, 11, 383, 1236, 31)) rfl) zA (as := [yr (some 102)]) (rest := []) rfl rfl rfl rfl (Nat.le_of_ble_eq_true rfl) (Nat.le_of_ble_eq_true rfl) ⟨_, _, _, rfl, (hT 102 rfl)⟩ (mc := 0) (ms := 0) (Nat.zero_le _) (Nat.zero_le _) ?_
    refine e_K ?_ F
    rintro r h' ⟨I9, rfl, rfl, F⟩
    refine e_10 (f_206 (pc := 31) (e := (31, 10, 1, 0, 0, 0, 0, 32)) rfl) rfl ?_
    exact e_120 (f_206 (pc := 32) (e := (32, 120, 0, 0, 0, 0, 0, 0)) rfl) F
  · replace F := F.2 c4
    refine e_0 (f_206 (pc := 12) (e := (12, 0, 4294967295, 0, 0, 0, 0, 13)) rfl) (v := (-1)) rfl ?_
    exact e_120 (f_206 (pc := 13) (e := (13, 120, 0, 0, 0, 0, 0, 14)) rfl) F

/-! lastOf()I -/
set_option maxRecDepth 20000 in
theorem B_207_0 (hT : yLT T) (hR : yLR R) (F : yW l zSS D cy zFk z d 207 bc bs K 0 0 4 [(0, yr (some 102)), (1, yi (-1)), (2, yi 0)] [] (N, T, R, I)) :
    yW l zSS D cy zFk z d 207 bc bs K 0 0 0 [(0, yr (some 102))] [] (N, T, R, I) := by
  refine e_0 (f_207 (pc := 0) (e := (0, 0, 4294967295, 0, 0, 0, 0, 1)) rfl) (v := (-1)) rfl ?_
  refine e_20 (f_207 (pc := 1) (e := (1, 20, 1, 0, 0, 0, 0, 2)) rfl) ?_
  refine e_0 (f_207 (pc := 2) (e := (2, 0, 0, 0, 0, 0, 0, 3)) rfl) (v := 0) rfl ?_
  refine e_20 (f_207 (pc := 3) (e := (3, 20, 2, 0, 0, 0, 0, 4)) rfl) ?_
  refine e_lo [0, 1, 2] rfl ?_
  exact F
set_option maxRecDepth 20000 in
theorem B_207_4 (hT : yLT T) (hR : yLR R) {x1 x2 : Int} (F : ((I 104 2) ≤ x2 → K (some (yi x1)) (N, T, R, I)) ∧ (¬ ((I 104 2) ≤ x2) → yW l zSS D cy zFk z d 198 0 0 (fun r h' => ∃ r3 I2, r = some (yi r3) ∧ h' = (N, T, R, I2) ∧ ((r3 = 0 → yW l zSS D cy zFk z d 164 0 0 (fun r h' => ∃ r6 I5, r = some (yi r6) ∧ h' = (N, T, R, I5) ∧ ((r6 ≠ 0 → yW l zSS D cy zFk z (d + 1) 207 bc bs K 0 0 4 [(0, yr (some 102)), (1, yi x1), (2, yi (yadd x2 1))] [] (N, T, R, I5)) ∧ (¬ (r6 ≠ 0) → 0 ≤ (yadd 510 x2) ∧ (yadd 510 x2) < 1188 ∧ (((I5 104 (yadd 510 x2).toNat) ≤ x1 → yW l zSS D cy zFk z (d + 1) 207 bc bs K 0 0 4 [(0, yr (some 102)), (1, yi x1), (2, yi (yadd x2 1))] [] (N, T, R, I5)) ∧ (¬ ((I5 104 (yadd 510 x2).toNat) ≤ x1) → 0 ≤ (yadd 510 x2) ∧ (yadd 510 x2) < 1188 ∧ (yW l zSS D cy zFk z (d + 1) 207 bc bs K 0 0 4 [(0, yr (some 102)), (1, yi (I5 104 (yadd 510 x2).toNat)), (2, yi (yadd x2 1))] [] (N, T, R, I5))))))) 0 0 0 [(0, yi (I2 102 28)), (1, yi x2)] [] (N, T, R, I2)) ∧ (¬ (r3 = 0) → K (some (yi 500)) (N, T, R, I2)))) 0 0 0 [(0, yr (some 102)), (1, yi x2)] [] (N, T, R, I))) :
    yW l zSS D cy zFk z (d + 1) 207 bc bs K 0 0 4 [(0, yr (some 102)), (1, yi x1), (2, yi x2)] [] (N, T, R, I) := by
  refine e_10 (f_207 (pc := 4) (e := (4, 10, 2, 0, 0, 0, 0, 5)) rfl) rfl ?_
  refine e_12 (f_207 (pc := 5) (e := (5, 12, 0, 0, 0, 0, 0, 6)) rfl) rfl ?_
  refine e_90r zA (f_207 (pc := 6) (e := (6, 90, 11, 6, 3, 33, 1159, 9)) rfl) rfl (hT 102 rfl) rfl rfl (hR 102 6 rfl) ?_
  refine e_0 (f_207 (pc := 9) (e := (9, 0, 2, 0, 0, 0, 0, 10)) rfl) (v := 2) rfl ?_
  refine e_110 (f_207 (pc := 10) (e := (10, 110, 0, 0, 0, 0, 0, 11)) rfl) rfl (hT 104 rfl) (by decide) (by decide) ?_
  refine e_73 (f_207 (pc := 11) (e := (11, 73, 68, 0, 0, 0, 0, 14)) rfl) (fun c1 => ?_) (fun c1 => ?_)
  · replace F := F.1 c1
    refine e_10 (f_207 (pc := 68) (e := (68, 10, 1, 0, 0, 0, 0, 69)) rfl) rfl ?_
    exact e_120 (f_207 (pc := 69) (e := (69, 120, 0, 0, 0, 0, 0, 0)) rfl) F
  · replace F := F.2 c1
    refine e_12 (f_207 (pc := 14) (e := (14, 12, 0, 0, 0, 0, 0, 15)) rfl) rfl ?_
    refine e_10 (f_207 (pc := 15) (e := (15, 10, 2, 0, 0, 0, 0, 16)) rfl) rfl ?_
    refine e_130 (f_207 (pc := 16) (e := (16, 130, 198, 0, 11, 333, 1231, 19)) rfl) zA (as := [yr (some 102), yi x2]) (rest := []) rfl rfl rfl rfl (Nat.le_of_ble_eq_true rfl) (Nat.le_of_ble_eq_true rfl) ⟨_, _, _, rfl, (hT 102 rfl)⟩ (mc := 0) (ms := 0) (Nat.zero_le _) (Nat.zero_le _) ?_
    refine e_K ?_ F
    rintro r h' ⟨r3, I2, rfl, rfl, F⟩
    refine e_60 (f_207 (pc := 19) (e := (19, 60, 26, 0, 0, 0, 0, 22)) rfl) (fun c4 => ?_) (fun c4 => ?_)
    · replace F := F.1 c4
      refine e_12 (f_207 (pc := 26) (e := (26, 12, 0, 0, 0, 0, 0, 27)) rfl) rfl ?_
      refine e_90 zA (f_207 (pc := 27) (e := (27, 90, 11, 28, 0, 301, 1232, 30)) rfl) rfl (hT 102 rfl) rfl rfl ?_
      refine e_10 (f_207 (pc := 30) (e := (30, 10, 2, 0, 0, 0, 0, 31)) rfl) rfl ?_
      refine e_132 (f_207 (pc := 31) (e := (31, 132, 164, 2, 11, 238, 1207, 34)) rfl) zA (as := [yi _, yi x2]) (rest := []) rfl rfl rfl rfl (Nat.le_of_ble_eq_true rfl) (Nat.le_of_ble_eq_true rfl) (mc := 0) (ms := 0) (Nat.zero_le _) (Nat.zero_le _) ?_
      refine e_K ?_ F
      rintro r h' ⟨r6, I5, rfl, rfl, F⟩
      refine e_61 (f_207 (pc := 34) (e := (34, 61, 62, 0, 0, 0, 0, 37)) rfl) (fun c7 => ?_) (fun c7 => ?_)
      · replace F := F.1 c7
        refine e_26 (f_207 (pc := 62) (e := (62, 26, 2, 1, 0, 0, 0, 65)) rfl) (w := 1) rfl rfl ?_
        refine e_80 (f_207 (pc := 65) (e := (65, 80, 4, 0, 0, 0, 0, 68)) rfl) ?_
        refine e_lo [0, 1, 2] rfl ?_
        exact F
      · replace F := F.2 c7
        refine e_12 (f_207 (pc := 37) (e := (37, 12, 0, 0, 0, 0, 0, 38)) rfl) rfl ?_
        refine e_90r zA (f_207 (pc := 38) (e := (38, 90, 11, 6, 3, 33, 1159, 41)) rfl) rfl (hT 102 rfl) rfl rfl (hR 102 6 rfl) ?_
        refine e_2 (f_207 (pc := 41) (e := (41, 2, 510, 0, 0, 0, 0, 44)) rfl) (v := 510) rfl ?_
        refine e_10 (f_207 (pc := 44) (e := (44, 10, 2, 0, 0, 0, 0, 45)) rfl) rfl ?_
        refine e_30 (f_207 (pc := 45) (e := (45, 30, 0, 0, 0, 0, 0, 46)) rfl) ?_
        obtain ⟨b8, b9, F⟩ := F
        refine e_110 (f_207 (pc := 46) (e := (46, 110, 0, 0, 0, 0, 0, 47)) rfl) rfl (hT 104 rfl) b8 b9 ?_
        refine e_10 (f_207 (pc := 47) (e := (47, 10, 1, 0, 0, 0, 0, 48)) rfl) rfl ?_
        refine e_75 (f_207 (pc := 48) (e := (48, 75, 62, 0, 0, 0, 0, 51)) rfl) (fun c10 => ?_) (fun c10 => ?_)
        · replace F := F.1 c10
          refine e_26 (f_207 (pc := 62) (e := (62, 26, 2, 1, 0, 0, 0, 65)) rfl) (w := 1) rfl rfl ?_
          refine e_80 (f_207 (pc := 65) (e := (65, 80, 4, 0, 0, 0, 0, 68)) rfl) ?_
          refine e_lo [0, 1, 2] rfl ?_
          exact F
        · replace F := F.2 c10
          refine e_12 (f_207 (pc := 51) (e := (51, 12, 0, 0, 0, 0, 0, 52)) rfl) rfl ?_
          refine e_90r zA (f_207 (pc := 52) (e := (52, 90, 11, 6, 3, 33, 1159, 55)) rfl) rfl (hT 102 rfl) rfl rfl (hR 102 6 rfl) ?_
          refine e_2 (f_207 (pc := 55) (e := (55, 2, 510, 0, 0, 0, 0, 58)) rfl) (v := 510) rfl ?_
          refine e_10 (f_207 (pc := 58) (e := (58, 10, 2, 0, 0, 0, 0, 59)) rfl) rfl ?_
          refine e_30 (f_207 (pc := 59) (e := (59, 30, 0, 0, 0, 0, 0, 60)) rfl) ?_
          obtain ⟨b11, b12, F⟩ := F
          refine e_110 (f_207 (pc := 60) (e := (60, 110, 0, 0, 0, 0, 0, 61)) rfl) rfl (hT 104 rfl) b11 b12 ?_
          refine e_20 (f_207 (pc := 61) (e := (61, 20, 1, 0, 0, 0, 0, 62)) rfl) ?_
          refine e_26 (f_207 (pc := 62) (e := (62, 26, 2, 1, 0, 0, 0, 65)) rfl) (w := 1) rfl rfl ?_
          refine e_80 (f_207 (pc := 65) (e := (65, 80, 4, 0, 0, 0, 0, 68)) rfl) ?_
          refine e_lo [0, 1, 2] rfl ?_
          exact F
    · replace F := F.2 c4
      refine e_2 (f_207 (pc := 22) (e := (22, 2, 500, 0, 0, 0, 0, 25)) rfl) (v := 500) rfl ?_
      exact e_120 (f_207 (pc := 25) (e := (25, 120, 0, 0, 0, 0, 0, 26)) rfl) F

/-! latest()I -/
set_option maxRecDepth 20000 in
theorem B_208_0 (hT : yLT T) (hR : yLR R) (F : ∀ I1, I1 = yU I 102 0 0 → (yW l zSS D cy zFk z d 249 0 0 (fun r h' => ∃ I2, r = none ∧ h' = (N, T, R, I2) ∧ (yW l zSS D cy zFk z d 232 0 0 (fun r h' => ∃ I3, r = none ∧ h' = (N, T, R, I3) ∧ (yW l zSS D cy zFk z (d + 1) 208 bc bs K 0 0 17 [(0, yr (some 102)), (1, yi (-1)), (2, yi 0)] [] (N, T, R, I3))) 0 0 0 [(0, yr (some 102))] [] (N, T, R, I2))) 0 0 0 [(0, yr (some 102))] [] (N, T, R, I1))) :
    yW l zSS D cy zFk z (d + 1) 208 bc bs K 0 0 0 [(0, yr (some 102))] [] (N, T, R, I) := by
  refine e_12 (f_208 (pc := 0) (e := (0, 12, 0, 0, 0, 0, 0, 1)) rfl) rfl ?_
  refine e_0 (f_208 (pc := 1) (e := (1, 0, 0, 0, 0, 0, 0, 2)) rfl) (v := 0) rfl ?_
  refine e_91 zA (f_208 (pc := 2) (e := (2, 91, 11, 0, 0, 1, 1216, 5)) rfl) rfl (hT 102 rfl) rfl rfl trivial ?_
  replace F := F _ rfl
  refine e_12 (f_208 (pc := 5) (e := (5, 12, 0, 0, 0, 0, 0, 6)) rfl) rfl ?_
  refine e_130 (f_208 (pc := 6) (e := (6, 130, 249, 0, 11, 374, 1234, 9)) rfl) zA (as := [yr (some 102)]) (rest := []) rfl rfl rfl rfl (Nat.le_of_ble_eq_true rfl) (Nat.le_of_ble_eq_true rfl) ⟨_, _, _, rfl, (hT 102 rfl)⟩ (mc := 0) (ms := 0) (Nat.zero_le _) (Nat.zero_le _) ?_
  refine e_K ?_ F
  rintro r h' ⟨I2, rfl, rfl, F⟩
  refine e_12 (f_208 (pc := 9) (e := (9, 12, 0, 0, 0, 0, 0, 10)) rfl) rfl ?_
  refine e_130 (f_208 (pc := 10) (e := (10, 130, 232, 0, 11, 377, 1277, 13)) rfl) zA (as := [yr (some 102)]) (rest := []) rfl rfl rfl rfl (Nat.le_of_ble_eq_true rfl) (Nat.le_of_ble_eq_true rfl) ⟨_, _, _, rfl, (hT 102 rfl)⟩ (mc := 0) (ms := 0) (Nat.zero_le _) (Nat.zero_le _) ?_
  refine e_K ?_ F
  rintro r h' ⟨I3, rfl, rfl, F⟩
  refine e_0 (f_208 (pc := 13) (e := (13, 0, 4294967295, 0, 0, 0, 0, 14)) rfl) (v := (-1)) rfl ?_
  refine e_20 (f_208 (pc := 14) (e := (14, 20, 1, 0, 0, 0, 0, 15)) rfl) ?_
  refine e_0 (f_208 (pc := 15) (e := (15, 0, 0, 0, 0, 0, 0, 16)) rfl) (v := 0) rfl ?_
  refine e_20 (f_208 (pc := 16) (e := (16, 20, 2, 0, 0, 0, 0, 17)) rfl) ?_
  refine e_lo [0, 1, 2] rfl ?_
  exact F
set_option maxRecDepth 20000 in
theorem B_208_17 (hT : yLT T) (hR : yLR R) {x1 x2 : Int} (F : ((I 104 2) ≤ x2 → yW l zSS D cy zFk z d 158 0 0 (fun r h' => ∃ I2, r = none ∧ h' = (N, T, R, I2) ∧ (K (some (yi x1)) (N, T, R, I2))) 0 0 0 [(0, yr (some 102))] [] (N, T, R, I)) ∧ (¬ ((I 104 2) ≤ x2) → (x1 < 0 → yW l zSS D cy zFk z (d + 1) 208 bc bs K 0 0 17 [(0, yr (some 102)), (1, yi x2), (2, yi (yadd x2 1))] [] (N, T, R, I)) ∧ (¬ (x1 < 0) → 0 ≤ (yadd 502 x2) ∧ (yadd 502 x2) < 1188 ∧ (0 ≤ (yadd 502 x1) ∧ (yadd 502 x1) < 1188 ∧ (((I 104 (yadd 502 x2).toNat) ≤ (I 104 (yadd 502 x1).toNat) → yW l zSS D cy zFk z (d + 1) 208 bc bs K 0 0 17 [(0, yr (some 102)), (1, yi x1), (2, yi (yadd x2 1))] [] (N, T, R, I)) ∧ (¬ ((I 104 (yadd 502 x2).toNat) ≤ (I 104 (yadd 502 x1).toNat)) → yW l zSS D cy zFk z (d + 1) 208 bc bs K 0 0 17 [(0, yr (some 102)), (1, yi x2), (2, yi (yadd x2 1))] [] (N, T, R, I))))))) :
    yW l zSS D cy zFk z (d + 1) 208 bc bs K 0 0 17 [(0, yr (some 102)), (1, yi x1), (2, yi x2)] [] (N, T, R, I) := by
  refine e_10 (f_208 (pc := 17) (e := (17, 10, 2, 0, 0, 0, 0, 18)) rfl) rfl ?_
  refine e_12 (f_208 (pc := 18) (e := (18, 12, 0, 0, 0, 0, 0, 19)) rfl) rfl ?_
  refine e_90r zA (f_208 (pc := 19) (e := (19, 90, 11, 6, 3, 33, 1159, 22)) rfl) rfl (hT 102 rfl) rfl rfl (hR 102 6 rfl) ?_
  refine e_0 (f_208 (pc := 22) (e := (22, 0, 2, 0, 0, 0, 0, 23)) rfl) (v := 2) rfl ?_
  refine e_110 (f_208 (pc := 23) (e := (23, 110, 0, 0, 0, 0, 0, 24)) rfl) rfl (hT 104 rfl) (by decide) (by decide) ?_
  refine e_73 (f_208 (pc := 24) (e := (24, 73, 62, 0, 0, 0, 0, 27)) rfl) (fun c1 => ?_) (fun c1 => ?_)
  · replace F := F.1 c1
    refine e_12 (f_208 (pc := 62) (e := (62, 12, 0, 0, 0, 0, 0, 63)) rfl) rfl ?_
    refine e_130 (f_208 (pc := 63) (e := (63, 130, 158, 0, 11, 383, 1236, 66)) rfl) zA (as := [yr (some 102)]) (rest := []) rfl rfl rfl rfl (Nat.le_of_ble_eq_true rfl) (Nat.le_of_ble_eq_true rfl) ⟨_, _, _, rfl, (hT 102 rfl)⟩ (mc := 0) (ms := 0) (Nat.zero_le _) (Nat.zero_le _) ?_
    refine e_K ?_ F
    rintro r h' ⟨I2, rfl, rfl, F⟩
    refine e_10 (f_208 (pc := 66) (e := (66, 10, 1, 0, 0, 0, 0, 67)) rfl) rfl ?_
    exact e_120 (f_208 (pc := 67) (e := (67, 120, 0, 0, 0, 0, 0, 0)) rfl) F
  · replace F := F.2 c1
    refine e_10 (f_208 (pc := 27) (e := (27, 10, 1, 0, 0, 0, 0, 28)) rfl) rfl ?_
    refine e_62 (f_208 (pc := 28) (e := (28, 62, 54, 0, 0, 0, 0, 31)) rfl) (fun c3 => ?_) (fun c3 => ?_)
    · replace F := F.1 c3
      refine e_10 (f_208 (pc := 54) (e := (54, 10, 2, 0, 0, 0, 0, 55)) rfl) rfl ?_
      refine e_20 (f_208 (pc := 55) (e := (55, 20, 1, 0, 0, 0, 0, 56)) rfl) ?_
      refine e_26 (f_208 (pc := 56) (e := (56, 26, 2, 1, 0, 0, 0, 59)) rfl) (w := 1) rfl rfl ?_
      refine e_80 (f_208 (pc := 59) (e := (59, 80, 17, 0, 0, 0, 0, 62)) rfl) ?_
      refine e_lo [0, 1, 2] rfl ?_
      exact F
    · replace F := F.2 c3
      refine e_12 (f_208 (pc := 31) (e := (31, 12, 0, 0, 0, 0, 0, 32)) rfl) rfl ?_
      refine e_90r zA (f_208 (pc := 32) (e := (32, 90, 11, 6, 3, 33, 1159, 35)) rfl) rfl (hT 102 rfl) rfl rfl (hR 102 6 rfl) ?_
      refine e_2 (f_208 (pc := 35) (e := (35, 2, 502, 0, 0, 0, 0, 38)) rfl) (v := 502) rfl ?_
      refine e_10 (f_208 (pc := 38) (e := (38, 10, 2, 0, 0, 0, 0, 39)) rfl) rfl ?_
      refine e_30 (f_208 (pc := 39) (e := (39, 30, 0, 0, 0, 0, 0, 40)) rfl) ?_
      obtain ⟨b4, b5, F⟩ := F
      refine e_110 (f_208 (pc := 40) (e := (40, 110, 0, 0, 0, 0, 0, 41)) rfl) rfl (hT 104 rfl) b4 b5 ?_
      refine e_12 (f_208 (pc := 41) (e := (41, 12, 0, 0, 0, 0, 0, 42)) rfl) rfl ?_
      refine e_90r zA (f_208 (pc := 42) (e := (42, 90, 11, 6, 3, 33, 1159, 45)) rfl) rfl (hT 102 rfl) rfl rfl (hR 102 6 rfl) ?_
      refine e_2 (f_208 (pc := 45) (e := (45, 2, 502, 0, 0, 0, 0, 48)) rfl) (v := 502) rfl ?_
      refine e_10 (f_208 (pc := 48) (e := (48, 10, 1, 0, 0, 0, 0, 49)) rfl) rfl ?_
      refine e_30 (f_208 (pc := 49) (e := (49, 30, 0, 0, 0, 0, 0, 50)) rfl) ?_
      obtain ⟨b6, b7, F⟩ := F
      refine e_110 (f_208 (pc := 50) (e := (50, 110, 0, 0, 0, 0, 0, 51)) rfl) rfl (hT 104 rfl) b6 b7 ?_
      refine e_75 (f_208 (pc := 51) (e := (51, 75, 56, 0, 0, 0, 0, 54)) rfl) (fun c8 => ?_) (fun c8 => ?_)
      · replace F := F.1 c8
        refine e_26 (f_208 (pc := 56) (e := (56, 26, 2, 1, 0, 0, 0, 59)) rfl) (w := 1) rfl rfl ?_
        refine e_80 (f_208 (pc := 59) (e := (59, 80, 17, 0, 0, 0, 0, 62)) rfl) ?_
        refine e_lo [0, 1, 2] rfl ?_
        exact F
      · replace F := F.2 c8
        refine e_10 (f_208 (pc := 54) (e := (54, 10, 2, 0, 0, 0, 0, 55)) rfl) rfl ?_
        refine e_20 (f_208 (pc := 55) (e := (55, 20, 1, 0, 0, 0, 0, 56)) rfl) ?_
        refine e_26 (f_208 (pc := 56) (e := (56, 26, 2, 1, 0, 0, 0, 59)) rfl) (w := 1) rfl rfl ?_
        refine e_80 (f_208 (pc := 59) (e := (59, 80, 17, 0, 0, 0, 0, 62)) rfl) ?_
        refine e_lo [0, 1, 2] rfl ?_
        exact F

/-! leafOf()I -/
set_option maxRecDepth 20000 in
theorem B_209_0 (hT : yLT T) (hR : yLR R) (F : yW l zSS D cy zFk z d 199 0 0 (fun r h' => ∃ r2 I1, r = some (yi r2) ∧ h' = (N, T, R, I1) ∧ ((r2 = 0 → yW l zSS D cy zFk z d 199 0 0 (fun r h' => ∃ r5 I4, r = some (yi r5) ∧ h' = (N, T, R, I4) ∧ ((r5 = 0 → yW l zSS D cy zFk z d 199 0 0 (fun r h' => ∃ r8 I7, r = some (yi r8) ∧ h' = (N, T, R, I7) ∧ ((r8 = 0 → yW l zSS D cy zFk z d 199 0 0 (fun r h' => ∃ r11 I10, r = some (yi r11) ∧ h' = (N, T, R, I10) ∧ ((r11 = 0 → yW l zSS D cy zFk z d 199 0 0 (fun r h' => ∃ r14 I13, r = some (yi r14) ∧ h' = (N, T, R, I13) ∧ ((r14 = 0 → yW l zSS D cy zFk z d 199 0 0 (fun r h' => ∃ r17 I16, r = some (yi r17) ∧ h' = (N, T, R, I16) ∧ ((r17 = 0 → yW l zSS D cy zFk z d 199 0 0 (fun r h' => ∃ r20 I19, r = some (yi r20) ∧ h' = (N, T, R, I19) ∧ ((r20 = 0 → yW l zSS D cy zFk z d 199 0 0 (fun r h' => ∃ r23 I22, r = some (yi r23) ∧ h' = (N, T, R, I22) ∧ ((r23 = 0 → yW l zSS D cy zFk z d 199 0 0 (fun r h' => ∃ r26 I25, r = some (yi r26) ∧ h' = (N, T, R, I25) ∧ ((r26 = 0 → K (some (yi (-1))) (N, T, R, I25)) ∧ (¬ (r26 = 0) → K (some (yi 8)) (N, T, R, I25)))) 0 0 0 [(0, yr (some 102)), (1, yj 482854658917)] [] (N, T, R, I22)) ∧ (¬ (r23 = 0) → K (some (yi 7)) (N, T, R, I22)))) 0 0 0 [(0, yr (some 102)), (1, yj 512735409267)] [] (N, T, R, I19)) ∧ (¬ (r20 = 0) → K (some (yi 6)) (N, T, R, I19)))) 0 0 0 [(0, yr (some 102)), (1, yj 422540700531)] [] (N, T, R, I16)) ∧ (¬ (r17 = 0) → K (some (yi 5)) (N, T, R, I16)))) 0 0 0 [(0, yr (some 102)), (1, yj 1668246885)] [] (N, T, R, I13)) ∧ (¬ (r14 = 0) → K (some (yi 4)) (N, T, R, I13)))) 0 0 0 [(0, yr (some 102)), (1, yj 1819238756)] [] (N, T, R, I10)) ∧ (¬ (r11 = 0) → K (some (yi 3)) (N, T, R, I10)))) 0 0 0 [(0, yr (some 102)), (1, yj 1918987883)] [] (N, T, R, I7)) ∧ (¬ (r8 = 0) → K (some (yi 2)) (N, T, R, I7)))) 0 0 0 [(0, yr (some 102)), (1, yj 418363302244)] [] (N, T, R, I4)) ∧ (¬ (r5 = 0) → K (some (yi 1)) (N, T, R, I4)))) 0 0 0 [(0, yr (some 102)), (1, yj 1936286571)] [] (N, T, R, I1)) ∧ (¬ (r2 = 0) → K (some (yi 0)) (N, T, R, I1)))) 0 0 0 [(0, yr (some 102)), (1, yj 499967685221)] [] (N, T, R, I)) :
    yW l zSS D cy zFk z (d + 1) 209 bc bs K 0 0 0 [(0, yr (some 102))] [] (N, T, R, I) := by
  refine e_12 (f_209 (pc := 0) (e := (0, 12, 0, 0, 0, 0, 0, 1)) rfl) rfl ?_
  refine e_5 (f_209 (pc := 1) (e := (1, 5, 499967685221, 0, 0, 141, 1201, 4)) rfl) (v := 499967685221) rfl ?_
  refine e_130 (f_209 (pc := 4) (e := (4, 130, 199, 0, 11, 204, 1238, 7)) rfl) zA (as := [yr (some 102), yj 499967685221]) (rest := []) rfl rfl rfl rfl (Nat.le_of_ble_eq_true rfl) (Nat.le_of_ble_eq_true rfl) ⟨_, _, _, rfl, (hT 102 rfl)⟩ (mc := 0) (ms := 0) (Nat.zero_le _) (Nat.zero_le _) ?_
  refine e_K ?_ F
  rintro r h' ⟨r2, I1, rfl, rfl, F⟩
  refine e_60 (f_209 (pc := 7) (e := (7, 60, 14, 0, 0, 0, 0, 10)) rfl) (fun c3 => ?_) (fun c3 => ?_)
  · replace F := F.1 c3
    refine e_12 (f_209 (pc := 14) (e := (14, 12, 0, 0, 0, 0, 0, 15)) rfl) rfl ?_
    refine e_5 (f_209 (pc := 15) (e := (15, 5, 1936286571, 0, 0, 117, 1189, 18)) rfl) (v := 1936286571) rfl ?_
    refine e_130 (f_209 (pc := 18) (e := (18, 130, 199, 0, 11, 204, 1238, 21)) rfl) zA (as := [yr (some 102), yj 1936286571]) (rest := []) rfl rfl rfl rfl (Nat.le_of_ble_eq_true rfl) (Nat.le_of_ble_eq_true rfl) ⟨_, _, _, rfl, (hT 102 rfl)⟩ (mc := 0) (ms := 0) (Nat.zero_le _) (Nat.zero_le _) ?_
    refine e_K ?_ F
    rintro r h' ⟨r5, I4, rfl, rfl, F⟩
    refine e_60 (f_209 (pc := 21) (e := (21, 60, 28, 0, 0, 0, 0, 24)) rfl) (fun c6 => ?_) (fun c6 => ?_)
    · replace F := F.1 c6
      refine e_12 (f_209 (pc := 28) (e := (28, 12, 0, 0, 0, 0, 0, 29)) rfl) rfl ?_
      refine e_5 (f_209 (pc := 29) (e := (29, 5, 418363302244, 0, 0, 143, 1202, 32)) rfl) (v := 418363302244) rfl ?_
      refine e_130 (f_209 (pc := 32) (e := (32, 130, 199, 0, 11, 204, 1238, 35)) rfl) zA (as := [yr (some 102), yj 418363302244]) (rest := []) rfl rfl rfl rfl (Nat.le_of_ble_eq_true rfl) (Nat.le_of_ble_eq_true rfl) ⟨_, _, _, rfl, (hT 102 rfl)⟩ (mc := 0) (ms := 0) (Nat.zero_le _) (Nat.zero_le _) ?_
      refine e_K ?_ F
      rintro r h' ⟨r8, I7, rfl, rfl, F⟩
      refine e_60 (f_209 (pc := 35) (e := (35, 60, 42, 0, 0, 0, 0, 38)) rfl) (fun c9 => ?_) (fun c9 => ?_)
      · replace F := F.1 c9
        refine e_12 (f_209 (pc := 42) (e := (42, 12, 0, 0, 0, 0, 0, 43)) rfl) rfl ?_
        refine e_5 (f_209 (pc := 43) (e := (43, 5, 1918987883, 0, 0, 121, 1191, 46)) rfl) (v := 1918987883) rfl ?_
        refine e_130 (f_209 (pc := 46) (e := (46, 130, 199, 0, 11, 204, 1238, 49)) rfl) zA (as := [yr (some 102), yj 1918987883]) (rest := []) rfl rfl rfl rfl (Nat.le_of_ble_eq_true rfl) (Nat.le_of_ble_eq_true rfl) ⟨_, _, _, rfl, (hT 102 rfl)⟩ (mc := 0) (ms := 0) (Nat.zero_le _) (Nat.zero_le _) ?_
        refine e_K ?_ F
        rintro r h' ⟨r11, I10, rfl, rfl, F⟩
        refine e_60 (f_209 (pc := 49) (e := (49, 60, 56, 0, 0, 0, 0, 52)) rfl) (fun c12 => ?_) (fun c12 => ?_)
        · replace F := F.1 c12
          refine e_12 (f_209 (pc := 56) (e := (56, 12, 0, 0, 0, 0, 0, 57)) rfl) rfl ?_
          refine e_5 (f_209 (pc := 57) (e := (57, 5, 1819238756, 0, 0, 123, 1192, 60)) rfl) (v := 1819238756) rfl ?_
          refine e_130 (f_209 (pc := 60) (e := (60, 130, 199, 0, 11, 204, 1238, 63)) rfl) zA (as := [yr (some 102), yj 1819238756]) (rest := []) rfl rfl rfl rfl (Nat.le_of_ble_eq_true rfl) (Nat.le_of_ble_eq_true rfl) ⟨_, _, _, rfl, (hT 102 rfl)⟩ (mc := 0) (ms := 0) (Nat.zero_le _) (Nat.zero_le _) ?_
          refine e_K ?_ F
          rintro r h' ⟨r14, I13, rfl, rfl, F⟩
          refine e_60 (f_209 (pc := 63) (e := (63, 60, 70, 0, 0, 0, 0, 66)) rfl) (fun c15 => ?_) (fun c15 => ?_)
          · replace F := F.1 c15
            refine e_12 (f_209 (pc := 70) (e := (70, 12, 0, 0, 0, 0, 0, 71)) rfl) rfl ?_
            refine e_5 (f_209 (pc := 71) (e := (71, 5, 1668246885, 0, 0, 125, 1193, 74)) rfl) (v := 1668246885) rfl ?_
            refine e_130 (f_209 (pc := 74) (e := (74, 130, 199, 0, 11, 204, 1238, 77)) rfl) zA (as := [yr (some 102), yj 1668246885]) (rest := []) rfl rfl rfl rfl (Nat.le_of_ble_eq_true rfl) (Nat.le_of_ble_eq_true rfl) ⟨_, _, _, rfl, (hT 102 rfl)⟩ (mc := 0) (ms := 0) (Nat.zero_le _) (Nat.zero_le _) ?_
            refine e_K ?_ F
            rintro r h' ⟨r17, I16, rfl, rfl, F⟩
            refine e_60 (f_209 (pc := 77) (e := (77, 60, 84, 0, 0, 0, 0, 80)) rfl) (fun c18 => ?_) (fun c18 => ?_)
            · replace F := F.1 c18
              refine e_12 (f_209 (pc := 84) (e := (84, 12, 0, 0, 0, 0, 0, 85)) rfl) rfl ?_
              refine e_5 (f_209 (pc := 85) (e := (85, 5, 422540700531, 0, 0, 145, 1203, 88)) rfl) (v := 422540700531) rfl ?_
              refine e_130 (f_209 (pc := 88) (e := (88, 130, 199, 0, 11, 204, 1238, 91)) rfl) zA (as := [yr (some 102), yj 422540700531]) (rest := []) rfl rfl rfl rfl (Nat.le_of_ble_eq_true rfl) (Nat.le_of_ble_eq_true rfl) ⟨_, _, _, rfl, (hT 102 rfl)⟩ (mc := 0) (ms := 0) (Nat.zero_le _) (Nat.zero_le _) ?_
              refine e_K ?_ F
              rintro r h' ⟨r20, I19, rfl, rfl, F⟩
              refine e_60 (f_209 (pc := 91) (e := (91, 60, 99, 0, 0, 0, 0, 94)) rfl) (fun c21 => ?_) (fun c21 => ?_)
              · replace F := F.1 c21
                refine e_12 (f_209 (pc := 99) (e := (99, 12, 0, 0, 0, 0, 0, 100)) rfl) rfl ?_
                refine e_5 (f_209 (pc := 100) (e := (100, 5, 512735409267, 0, 0, 147, 1204, 103)) rfl) (v := 512735409267) rfl ?_
                refine e_130 (f_209 (pc := 103) (e := (103, 130, 199, 0, 11, 204, 1238, 106)) rfl) zA (as := [yr (some 102), yj 512735409267]) (rest := []) rfl rfl rfl rfl (Nat.le_of_ble_eq_true rfl) (Nat.le_of_ble_eq_true rfl) ⟨_, _, _, rfl, (hT 102 rfl)⟩ (mc := 0) (ms := 0) (Nat.zero_le _) (Nat.zero_le _) ?_
                refine e_K ?_ F
                rintro r h' ⟨r23, I22, rfl, rfl, F⟩
                refine e_60 (f_209 (pc := 106) (e := (106, 60, 114, 0, 0, 0, 0, 109)) rfl) (fun c24 => ?_) (fun c24 => ?_)
                · replace F := F.1 c24
                  refine e_12 (f_209 (pc := 114) (e := (114, 12, 0, 0, 0, 0, 0, 115)) rfl) rfl ?_
                  refine e_5 (f_209 (pc := 115) (e := (115, 5, 482854658917, 0, 0, 149, 1205, 118)) rfl) (v := 482854658917) rfl ?_
                  refine e_130 (f_209 (pc := 118) (e := (118, 130, 199, 0, 11, 204, 1238, 121)) rfl) zA (as := [yr (some 102), yj 482854658917]) (rest := []) rfl rfl rfl rfl (Nat.le_of_ble_eq_true rfl) (Nat.le_of_ble_eq_true rfl) ⟨_, _, _, rfl, (hT 102 rfl)⟩ (mc := 0) (ms := 0) (Nat.zero_le _) (Nat.zero_le _) ?_
                  refine e_K ?_ F
                  rintro r h' ⟨r26, I25, rfl, rfl, F⟩
                  refine e_60 (f_209 (pc := 121) (e := (121, 60, 129, 0, 0, 0, 0, 124)) rfl) (fun c27 => ?_) (fun c27 => ?_)
                  · replace F := F.1 c27
                    refine e_0 (f_209 (pc := 129) (e := (129, 0, 4294967295, 0, 0, 0, 0, 130)) rfl) (v := (-1)) rfl ?_
                    exact e_120 (f_209 (pc := 130) (e := (130, 120, 0, 0, 0, 0, 0, 0)) rfl) F
                  · replace F := F.2 c27
                    refine e_1 (f_209 (pc := 124) (e := (124, 1, 8, 0, 0, 0, 0, 126)) rfl) (v := 8) rfl ?_
                    refine e_80 (f_209 (pc := 126) (e := (126, 80, 130, 0, 0, 0, 0, 129)) rfl) ?_
                    exact e_120 (f_209 (pc := 130) (e := (130, 120, 0, 0, 0, 0, 0, 0)) rfl) F
                · replace F := F.2 c24
                  refine e_1 (f_209 (pc := 109) (e := (109, 1, 7, 0, 0, 0, 0, 111)) rfl) (v := 7) rfl ?_
                  refine e_80 (f_209 (pc := 111) (e := (111, 80, 130, 0, 0, 0, 0, 114)) rfl) ?_
                  exact e_120 (f_209 (pc := 130) (e := (130, 120, 0, 0, 0, 0, 0, 0)) rfl) F
              · replace F := F.2 c21
                refine e_1 (f_209 (pc := 94) (e := (94, 1, 6, 0, 0, 0, 0, 96)) rfl) (v := 6) rfl ?_
                refine e_80 (f_209 (pc := 96) (e := (96, 80, 130, 0, 0, 0, 0, 99)) rfl) ?_
                exact e_120 (f_209 (pc := 130) (e := (130, 120, 0, 0, 0, 0, 0, 0)) rfl) F
            · replace F := F.2 c18
              refine e_0 (f_209 (pc := 80) (e := (80, 0, 5, 0, 0, 0, 0, 81)) rfl) (v := 5) rfl ?_
              refine e_80 (f_209 (pc := 81) (e := (81, 80, 130, 0, 0, 0, 0, 84)) rfl) ?_
              exact e_120 (f_209 (pc := 130) (e := (130, 120, 0, 0, 0, 0, 0, 0)) rfl) F
          · replace F := F.2 c15
            refine e_0 (f_209 (pc := 66) (e := (66, 0, 4, 0, 0, 0, 0, 67)) rfl) (v := 4) rfl ?_
            refine e_80 (f_209 (pc := 67) (e := (67, 80, 130, 0, 0, 0, 0, 70)) rfl) ?_
            exact e_120 (f_209 (pc := 130) (e := (130, 120, 0, 0, 0, 0, 0, 0)) rfl) F
        · replace F := F.2 c12
          refine e_0 (f_209 (pc := 52) (e := (52, 0, 3, 0, 0, 0, 0, 53)) rfl) (v := 3) rfl ?_
          refine e_80 (f_209 (pc := 53) (e := (53, 80, 130, 0, 0, 0, 0, 56)) rfl) ?_
          exact e_120 (f_209 (pc := 130) (e := (130, 120, 0, 0, 0, 0, 0, 0)) rfl) F
      · replace F := F.2 c9
        refine e_0 (f_209 (pc := 38) (e := (38, 0, 2, 0, 0, 0, 0, 39)) rfl) (v := 2) rfl ?_
        refine e_80 (f_209 (pc := 39) (e := (39, 80, 130, 0, 0, 0, 0, 42)) rfl) ?_
        exact e_120 (f_209 (pc := 130) (e := (130, 120, 0, 0, 0, 0, 0, 0)) rfl) F
    · replace F := F.2 c6
      refine e_0 (f_209 (pc := 24) (e := (24, 0, 1, 0, 0, 0, 0, 25)) rfl) (v := 1) rfl ?_
      refine e_80 (f_209 (pc := 25) (e := (25, 80, 130, 0, 0, 0, 0, 28)) rfl) ?_
      exact e_120 (f_209 (pc := 130) (e := (130, 120, 0, 0, 0, 0, 0, 0)) rfl) F
  · replace F := F.2 c3
    refine e_0 (f_209 (pc := 10) (e := (10, 0, 0, 0, 0, 0, 0, 11)) rfl) (v := 0) rfl ?_
    refine e_80 (f_209 (pc := 11) (e := (11, 80, 130, 0, 0, 0, 0, 14)) rfl) ?_
    exact e_120 (f_209 (pc := 130) (e := (130, 120, 0, 0, 0, 0, 0, 0)) rfl) F

/-! lent(II)I -/
set_option maxRecDepth 20000 in
theorem B_210_0 (hT : yLT T) (hR : yLR R) {x1 x2 : Int} (F : ∀ I1, I1 = yU I 102 0 0 → (yW l zSS D cy zFk z d 188 0 0 (fun r h' => ∃ r3 I2, r = some (yi r3) ∧ h' = (N, T, R, I2) ∧ ((r3 = 0 → K (some (yi (-1001))) (N, T, R, I2)) ∧ (¬ (r3 = 0) → yW l zSS D cy zFk z d 188 0 0 (fun r h' => ∃ r6 I5, r = some (yi r6) ∧ h' = (N, T, R, I5) ∧ ((r6 = 0 → K (some (yi (-1001))) (N, T, R, I5)) ∧ (¬ (r6 = 0) → 0 ≤ (yadd 510 x1) ∧ (yadd 510 x1) < 1188 ∧ (((I5 104 (yadd 510 x1).toNat) < 0 → yW l zSS D cy zFk z d 249 0 0 (fun r h' => ∃ I11, r = none ∧ h' = (N, T, R, I11) ∧ (yW l zSS D cy zFk z d 257 0 0 (fun r h' => ∃ r13 I12, r = some (yi r13) ∧ h' = (N, T, R, I12) ∧ (0 ≤ (yadd 310 x1) ∧ (yadd 310 x1) < 1188 ∧ (0 ≤ (yadd 310 x2) ∧ (yadd 310 x2) < 1188 ∧ (0 ≤ (yadd 310 x1) ∧ (yadd 310 x1) < 1188 ∧ (∀ I20, I20 = yU I12 104 ((yadd 310 x1).toNat) (ynar 1 (I12 104 (yadd 310 x2).toNat)) → (yW l zSS D cy zFk z d 257 0 0 (fun r h' => ∃ r22 I21, r = some (yi r22) ∧ h' = (N, T, R, I21) ∧ (0 ≤ (yadd 310 x1) ∧ (yadd 310 x1) < 1188 ∧ (∀ I25, I25 = yU I21 104 ((yadd 310 x1).toNat) (ynar 1 (I12 104 (yadd 310 x1).toNat)) → (K (some (yi (ysub r13 r22))) (N, T, R, I25))))) 0 0 0 [(0, yr (some 102)), (1, yi x1)] [] (N, T, R, I20))))))) 0 0 0 [(0, yr (some 102)), (1, yi x1)] [] (N, T, R, I11))) 0 0 0 [(0, yr (some 102))] [] (N, T, R, I5)) ∧ (¬ ((I5 104 (yadd 510 x1).toNat) < 0) → K (some (yi (-1001))) (N, T, R, I5)))))) 0 0 0 [(0, yr (some 102)), (1, yi x2)] [] (N, T, R, I2)))) 0 0 0 [(0, yr (some 102)), (1, yi x1)] [] (N, T, R, I1))) :
    yW l zSS D cy zFk z (d + 1) 210 bc bs K 0 0 0 [(0, yr (some 102)), (1, yi x1), (2, yi x2)] [] (N, T, R, I) := by
  refine e_12 (f_210 (pc := 0) (e := (0, 12, 0, 0, 0, 0, 0, 1)) rfl) rfl ?_
  refine e_0 (f_210 (pc := 1) (e := (1, 0, 0, 0, 0, 0, 0, 2)) rfl) (v := 0) rfl ?_
  refine e_91 zA (f_210 (pc := 2) (e := (2, 91, 11, 0, 0, 1, 1216, 5)) rfl) rfl (hT 102 rfl) rfl rfl trivial ?_
  replace F := F _ rfl
  refine e_12 (f_210 (pc := 5) (e := (5, 12, 0, 0, 0, 0, 0, 6)) rfl) rfl ?_
  refine e_10 (f_210 (pc := 6) (e := (6, 10, 1, 0, 0, 0, 0, 7)) rfl) rfl ?_
  refine e_130 (f_210 (pc := 7) (e := (7, 130, 188, 0, 11, 269, 1249, 10)) rfl) zA (as := [yr (some 102), yi x1]) (rest := []) rfl rfl rfl rfl (Nat.le_of_ble_eq_true rfl) (Nat.le_of_ble_eq_true rfl) ⟨_, _, _, rfl, (hT 102 rfl)⟩ (mc := 0) (ms := 0) (Nat.zero_le _) (Nat.zero_le _) ?_
  refine e_K ?_ F
  rintro r h' ⟨r3, I2, rfl, rfl, F⟩
  refine e_60 (f_210 (pc := 10) (e := (10, 60, 34, 0, 0, 0, 0, 13)) rfl) (fun c4 => ?_) (fun c4 => ?_)
  · replace F := F.1 c4
    refine e_2 (f_210 (pc := 34) (e := (34, 2, 4294966295, 0, 0, 0, 0, 37)) rfl) (v := (-1001)) rfl ?_
    exact e_120 (f_210 (pc := 37) (e := (37, 120, 0, 0, 0, 0, 0, 38)) rfl) F
  · replace F := F.2 c4
    refine e_12 (f_210 (pc := 13) (e := (13, 12, 0, 0, 0, 0, 0, 14)) rfl) rfl ?_
    refine e_10 (f_210 (pc := 14) (e := (14, 10, 2, 0, 0, 0, 0, 15)) rfl) rfl ?_
    refine e_130 (f_210 (pc := 15) (e := (15, 130, 188, 0, 11, 269, 1249, 18)) rfl) zA (as := [yr (some 102), yi x2]) (rest := []) rfl rfl rfl rfl (Nat.le_of_ble_eq_true rfl) (Nat.le_of_ble_eq_true rfl) ⟨_, _, _, rfl, (hT 102 rfl)⟩ (mc := 0) (ms := 0) (Nat.zero_le _) (Nat.zero_le _) ?_
    refine e_K ?_ F
    rintro r h' ⟨r6, I5, rfl, rfl, F⟩
    refine e_60 (f_210 (pc := 18) (e := (18, 60, 34, 0, 0, 0, 0, 21)) rfl) (fun c7 => ?_) (fun c7 => ?_)
    · replace F := F.1 c7
      refine e_2 (f_210 (pc := 34) (e := (34, 2, 4294966295, 0, 0, 0, 0, 37)) rfl) (v := (-1001)) rfl ?_
      exact e_120 (f_210 (pc := 37) (e := (37, 120, 0, 0, 0, 0, 0, 38)) rfl) F
    · replace F := F.2 c7
      refine e_12 (f_210 (pc := 21) (e := (21, 12, 0, 0, 0, 0, 0, 22)) rfl) rfl ?_
      refine e_90r zA (f_210 (pc := 22) (e := (22, 90, 11, 6, 3, 33, 1159, 25)) rfl) rfl (hT 102 rfl) rfl rfl (hR 102 6 rfl) ?_
      refine e_2 (f_210 (pc := 25) (e := (25, 2, 510, 0, 0, 0, 0, 28)) rfl) (v := 510) rfl ?_
      refine e_10 (f_210 (pc := 28) (e := (28, 10, 1, 0, 0, 0, 0, 29)) rfl) rfl ?_
      refine e_30 (f_210 (pc := 29) (e := (29, 30, 0, 0, 0, 0, 0, 30)) rfl) ?_
      obtain ⟨b8, b9, F⟩ := F
      refine e_110 (f_210 (pc := 30) (e := (30, 110, 0, 0, 0, 0, 0, 31)) rfl) rfl (hT 104 rfl) b8 b9 ?_
      refine e_62 (f_210 (pc := 31) (e := (31, 62, 38, 0, 0, 0, 0, 34)) rfl) (fun c10 => ?_) (fun c10 => ?_)
      · replace F := F.1 c10
        refine e_12 (f_210 (pc := 38) (e := (38, 12, 0, 0, 0, 0, 0, 39)) rfl) rfl ?_
        refine e_130 (f_210 (pc := 39) (e := (39, 130, 249, 0, 11, 374, 1234, 42)) rfl) zA (as := [yr (some 102)]) (rest := []) rfl rfl rfl rfl (Nat.le_of_ble_eq_true rfl) (Nat.le_of_ble_eq_true rfl) ⟨_, _, _, rfl, (hT 102 rfl)⟩ (mc := 0) (ms := 0) (Nat.zero_le _) (Nat.zero_le _) ?_
        refine e_K ?_ F
        rintro r h' ⟨I11, rfl, rfl, F⟩
        refine e_12 (f_210 (pc := 42) (e := (42, 12, 0, 0, 0, 0, 0, 43)) rfl) rfl ?_
        refine e_10 (f_210 (pc := 43) (e := (43, 10, 1, 0, 0, 0, 0, 44)) rfl) rfl ?_
        refine e_130 (f_210 (pc := 44) (e := (44, 130, 257, 0, 11, 392, 1279, 47)) rfl) zA (as := [yr (some 102), yi x1]) (rest := []) rfl rfl rfl rfl (Nat.le_of_ble_eq_true rfl) (Nat.le_of_ble_eq_true rfl) ⟨_, _, _, rfl, (hT 102 rfl)⟩ (mc := 0) (ms := 0) (Nat.zero_le _) (Nat.zero_le _) ?_
        refine e_K ?_ F
        rintro r h' ⟨r13, I12, rfl, rfl, F⟩
        refine e_20 (f_210 (pc := 47) (e := (47, 20, 3, 0, 0, 0, 0, 48)) rfl) ?_
        refine e_12 (f_210 (pc := 48) (e := (48, 12, 0, 0, 0, 0, 0, 49)) rfl) rfl ?_
        refine e_90r zA (f_210 (pc := 49) (e := (49, 90, 11, 6, 3, 33, 1159, 52)) rfl) rfl (hT 102 rfl) rfl rfl (hR 102 6 rfl) ?_
        refine e_2 (f_210 (pc := 52) (e := (52, 2, 310, 0, 0, 0, 0, 55)) rfl) (v := 310) rfl ?_
        refine e_10 (f_210 (pc := 55) (e := (55, 10, 1, 0, 0, 0, 0, 56)) rfl) rfl ?_
        refine e_30 (f_210 (pc := 56) (e := (56, 30, 0, 0, 0, 0, 0, 57)) rfl) ?_
        obtain ⟨b14, b15, F⟩ := F
        refine e_110 (f_210 (pc := 57) (e := (57, 110, 0, 0, 0, 0, 0, 58)) rfl) rfl (hT 104 rfl) b14 b15 ?_
        refine e_21 (f_210 (pc := 58) (e := (58, 21, 4, 0, 0, 0, 0, 60)) rfl) ?_
        refine e_12 (f_210 (pc := 60) (e := (60, 12, 0, 0, 0, 0, 0, 61)) rfl) rfl ?_
        refine e_90r zA (f_210 (pc := 61) (e := (61, 90, 11, 6, 3, 33, 1159, 64)) rfl) rfl (hT 102 rfl) rfl rfl (hR 102 6 rfl) ?_
        refine e_2 (f_210 (pc := 64) (e := (64, 2, 310, 0, 0, 0, 0, 67)) rfl) (v := 310) rfl ?_
        refine e_10 (f_210 (pc := 67) (e := (67, 10, 1, 0, 0, 0, 0, 68)) rfl) rfl ?_
        refine e_30 (f_210 (pc := 68) (e := (68, 30, 0, 0, 0, 0, 0, 69)) rfl) ?_
        refine e_12 (f_210 (pc := 69) (e := (69, 12, 0, 0, 0, 0, 0, 70)) rfl) rfl ?_
        refine e_90r zA (f_210 (pc := 70) (e := (70, 90, 11, 6, 3, 33, 1159, 73)) rfl) rfl (hT 102 rfl) rfl rfl (hR 102 6 rfl) ?_
        refine e_2 (f_210 (pc := 73) (e := (73, 2, 310, 0, 0, 0, 0, 76)) rfl) (v := 310) rfl ?_
        refine e_10 (f_210 (pc := 76) (e := (76, 10, 2, 0, 0, 0, 0, 77)) rfl) rfl ?_
        refine e_30 (f_210 (pc := 77) (e := (77, 30, 0, 0, 0, 0, 0, 78)) rfl) ?_
        obtain ⟨b16, b17, F⟩ := F
        refine e_110 (f_210 (pc := 78) (e := (78, 110, 0, 0, 0, 0, 0, 79)) rfl) rfl (hT 104 rfl) b16 b17 ?_
        obtain ⟨b18, b19, F⟩ := F
        refine e_111 (f_210 (pc := 79) (e := (79, 111, 0, 0, 0, 0, 0, 80)) rfl) rfl (hT 104 rfl) b18 b19 ?_
        replace F := F _ rfl
        refine e_12 (f_210 (pc := 80) (e := (80, 12, 0, 0, 0, 0, 0, 81)) rfl) rfl ?_
        refine e_10 (f_210 (pc := 81) (e := (81, 10, 1, 0, 0, 0, 0, 82)) rfl) rfl ?_
        refine e_130 (f_210 (pc := 82) (e := (82, 130, 257, 0, 11, 392, 1279, 85)) rfl) zA (as := [yr (some 102), yi x1]) (rest := []) rfl rfl rfl rfl (Nat.le_of_ble_eq_true rfl) (Nat.le_of_ble_eq_true rfl) ⟨_, _, _, rfl, (hT 102 rfl)⟩ (mc := 0) (ms := 0) (Nat.zero_le _) (Nat.zero_le _) ?_
        refine e_K ?_ F
        rintro r h' ⟨r22, I21, rfl, rfl, F⟩
        refine e_21 (f_210 (pc := 85) (e := (85, 21, 5, 0, 0, 0, 0, 87)) rfl) ?_
        refine e_12 (f_210 (pc := 87) (e := (87, 12, 0, 0, 0, 0, 0, 88)) rfl) rfl ?_
        refine e_90r zA (f_210 (pc := 88) (e := (88, 90, 11, 6, 3, 33, 1159, 91)) rfl) rfl (hT 102 rfl) rfl rfl (hR 102 6 rfl) ?_
        refine e_2 (f_210 (pc := 91) (e := (91, 2, 310, 0, 0, 0, 0, 94)) rfl) (v := 310) rfl ?_
        refine e_10 (f_210 (pc := 94) (e := (94, 10, 1, 0, 0, 0, 0, 95)) rfl) rfl ?_
        refine e_30 (f_210 (pc := 95) (e := (95, 30, 0, 0, 0, 0, 0, 96)) rfl) ?_
        refine e_11 (f_210 (pc := 96) (e := (96, 11, 4, 0, 0, 0, 0, 98)) rfl) rfl ?_
        obtain ⟨b23, b24, F⟩ := F
        refine e_111 (f_210 (pc := 98) (e := (98, 111, 0, 0, 0, 0, 0, 99)) rfl) rfl (hT 104 rfl) b23 b24 ?_
        replace F := F _ rfl
        refine e_10 (f_210 (pc := 99) (e := (99, 10, 3, 0, 0, 0, 0, 100)) rfl) rfl ?_
        refine e_11 (f_210 (pc := 100) (e := (100, 11, 5, 0, 0, 0, 0, 102)) rfl) rfl ?_
        refine e_31 (f_210 (pc := 102) (e := (102, 31, 0, 0, 0, 0, 0, 103)) rfl) ?_
        exact e_120 (f_210 (pc := 103) (e := (103, 120, 0, 0, 0, 0, 0, 0)) rfl) F
      · replace F := F.2 c10
        refine e_2 (f_210 (pc := 34) (e := (34, 2, 4294966295, 0, 0, 0, 0, 37)) rfl) (v := (-1001)) rfl ?_
        exact e_120 (f_210 (pc := 37) (e := (37, 120, 0, 0, 0, 0, 0, 38)) rfl) F

/-! line()Z -/
set_option maxRecDepth 20000 in
theorem B_211_0 (hT : yLT T) (hR : yLR R) (F : yW l zSS D cy zFk z d 199 0 0 (fun r h' => ∃ r2 I1, r = some (yi r2) ∧ h' = (N, T, R, I1) ∧ ((r2 = 0 → yW l zSS D cy zFk z d 199 0 0 (fun r h' => ∃ r5 I4, r = some (yi r5) ∧ h' = (N, T, R, I4) ∧ ((r5 = 0 → yW l zSS D cy zFk z d 199 0 0 (fun r h' => ∃ r8 I7, r = some (yi r8) ∧ h' = (N, T, R, I7) ∧ ((r8 = 0 → yW l zSS D cy zFk z d 199 0 0 (fun r h' => ∃ r11 I10, r = some (yi r11) ∧ h' = (N, T, R, I10) ∧ ((r11 = 0 → yW l zSS D cy zFk z d 199 0 0 (fun r h' => ∃ r14 I13, r = some (yi r14) ∧ h' = (N, T, R, I13) ∧ ((r14 = 0 → yW l zSS D cy zFk z d 199 0 0 (fun r h' => ∃ r17 I16, r = some (yi r17) ∧ h' = (N, T, R, I16) ∧ ((r17 = 0 → yW l zSS D cy zFk z d 199 0 0 (fun r h' => ∃ r20 I19, r = some (yi r20) ∧ h' = (N, T, R, I19) ∧ ((r20 ≠ 0 → yW l zSS D cy zFk z (d + 1) 211 bc bs K 0 0 277 [(0, yr (some 102))] [] (N, T, R, I19)) ∧ (¬ (r20 ≠ 0) → yW l zSS D cy zFk z d 199 0 0 (fun r h' => ∃ r23 I22, r = some (yi r23) ∧ h' = (N, T, R, I22) ∧ ((r23 = 0 → yW l zSS D cy zFk z d 199 0 0 (fun r h' => ∃ r26 I25, r = some (yi r26) ∧ h' = (N, T, R, I25) ∧ ((r26 ≠ 0 → ((I25 102 23) = 0 → ∀ I29, I29 = yU I25 102 23 1 → (yW l zSS D cy zFk z d 182 0 0 (fun r h' => ∃ I30, r = none ∧ h' = (N, T, R, I30) ∧ (yW l zSS D cy zFk z (d + 1) 211 bc bs K 0 0 458 [(0, yr (some 102)), (1, yi 0)] [] (N, T, R, I30))) 0 0 0 [(0, yr (some 102))] [] (N, T, R, I29))) ∧ (¬ ((I25 102 23) = 0) → yW l zSS D cy zFk z d 159 0 0 (fun r h' => ∃ r32 I31, r = some (yi r32) ∧ h' = (N, T, R, I31) ∧ ((r32 = 0 ∨ r32 = 1) ∧ K (some (yi r32)) (N, T, R, I31))) 0 0 0 [(0, yr (some 102)), (1, yi 3)] [] (N, T, R, I25))) ∧ (¬ (r26 ≠ 0) → yW l zSS D cy zFk z d 159 0 0 (fun r h' => ∃ r34 I33, r = some (yi r34) ∧ h' = (N, T, R, I33) ∧ ((r34 = 0 ∨ r34 = 1) ∧ K (some (yi r34)) (N, T, R, I33))) 0 0 0 [(0, yr (some 102)), (1, yi 1)] [] (N, T, R, I25)))) 0 0 0 [(0, yr (some 102)), (1, yj 7102839)] [] (N, T, R, I22)) ∧ (¬ (r23 = 0) → yW l zSS D cy zFk z (d + 1) 211 bc bs K 0 0 277 [(0, yr (some 102))] [] (N, T, R, I22)))) 0 0 0 [(0, yr (some 102)), (1, yj 1936286571)] [] (N, T, R, I19)))) 0 0 0 [(0, yr (some 102)), (1, yj 495873782388)] [] (N, T, R, I16)) ∧ (¬ (r17 = 0) → yW l zSS D cy zFk z d 229 0 0 (fun r h' => ∃ r36 I35, r = some (yi r36) ∧ h' = (N, T, R, I35) ∧ ((r36 = 0 ∨ r36 = 1) ∧ K (some (yi r36)) (N, T, R, I35))) 0 0 0 [(0, yr (some 102))] [] (N, T, R, I16)))) 0 0 0 [(0, yr (some 102)), (1, yj 426952976754)] [] (N, T, R, I13)) ∧ (¬ (r14 = 0) → ((I13 102 20) ≠ 20 → yW l zSS D cy zFk z d 182 0 0 (fun r h' => ∃ I38, r = none ∧ h' = (N, T, R, I38) ∧ (yW l zSS D cy zFk z d 212 0 0 (fun r h' => ∃ r40 I39, r = some (yi r40) ∧ h' = (N, T, R, I39) ∧ ((r40 ≠ 0 → 0 ≤ (yadd 358 (I39 102 18)) ∧ (yadd 358 (I39 102 18)) < 458 ∧ (((I39 105 (yadd 358 (I39 102 18)).toNat) ≤ 0 → yW l zSS D cy zFk z d 182 0 0 (fun r h' => ∃ I45, r = none ∧ h' = (N, T, R, I45) ∧ (yW l zSS D cy zFk z d 172 0 0 (fun r h' => ∃ r47 I46, r = some (yi r47) ∧ h' = (N, T, R, I46) ∧ ((0 ≤ r47 → 0 ≤ (yadd 358 (I39 102 18)) ∧ (yadd 358 (I39 102 18)) < 458 ∧ (∀ I51, I51 = yU I46 105 ((yadd 358 (I39 102 18)).toNat) (ynar 1 (yadd r47 1)) → (∀ I52, I52 = yU I51 102 20 (yadd (I51 102 20) 1) → (yW l zSS D cy zFk z d 182 0 0 (fun r h' => ∃ I53, r = none ∧ h' = (N, T, R, I53) ∧ (K (some (yi 1)) (N, T, R, I53))) 0 0 0 [(0, yr (some 102))] [] (N, T, R, I52))))) ∧ (¬ (0 ≤ r47) → yW l zSS D cy zFk z d 159 0 0 (fun r h' => ∃ r55 I54, r = some (yi r55) ∧ h' = (N, T, R, I54) ∧ ((r55 = 0 ∨ r55 = 1) ∧ K (some (yi r55)) (N, T, R, I54))) 0 0 0 [(0, yr (some 102)), (1, yi 1)] [] (N, T, R, I46)))) 0 0 0 [(0, yr (some 102))] [] (N, T, R, I45))) 0 0 0 [(0, yr (some 102))] [] (N, T, R, I39)) ∧ (¬ ((I39 105 (yadd 358 (I39 102 18)).toNat) ≤ 0) → yW l zSS D cy zFk z d 159 0 0 (fun r h' => ∃ r57 I56, r = some (yi r57) ∧ h' = (N, T, R, I56) ∧ ((r57 = 0 ∨ r57 = 1) ∧ K (some (yi r57)) (N, T, R, I56))) 0 0 0 [(0, yr (some 102)), (1, yi 3)] [] (N, T, R, I39)))) ∧ (¬ (r40 ≠ 0) → K (some (yi 0)) (N, T, R, I39)))) 0 0 0 [(0, yr (some 102))] [] (N, T, R, I38))) 0 0 0 [(0, yr (some 102))] [] (N, T, R, I13)) ∧ (¬ ((I13 102 20) ≠ 20) → yW l zSS D cy zFk z d 159 0 0 (fun r h' => ∃ r59 I58, r = some (yi r59) ∧ h' = (N, T, R, I58) ∧ ((r59 = 0 ∨ r59 = 1) ∧ K (some (yi r59)) (N, T, R, I58))) 0 0 0 [(0, yr (some 102)), (1, yi 4)] [] (N, T, R, I13))))) 0 0 0 [(0, yr (some 102)), (1, yj 1818324581)] [] (N, T, R, I10)) ∧ (¬ (r11 = 0) → yW l zSS D cy zFk z d 230 0 0 (fun r h' => ∃ r61 I60, r = some (yi r61) ∧ h' = (N, T, R, I60) ∧ ((r61 = 0 ∨ r61 = 1) ∧ K (some (yi r61)) (N, T, R, I60))) 0 0 0 [(0, yr (some 102)), (1, yi 210), (2, yi 5), (3, yi 12)] [] (N, T, R, I10)))) 0 0 0 [(0, yr (some 102)), (1, yj 2003395685)] [] (N, T, R, I7)) ∧ (¬ (r8 = 0) → yW l zSS D cy zFk z d 230 0 0 (fun r h' => ∃ r63 I62, r = some (yi r63) ∧ h' = (N, T, R, I62) ∧ ((r63 = 0 ∨ r63 = 1) ∧ K (some (yi r63)) (N, T, R, I62))) 0 0 0 [(0, yr (some 102)), (1, yi 110), (2, yi 4), (3, yi 12)] [] (N, T, R, I7)))) 0 0 0 [(0, yr (some 102)), (1, yj 126943687701107)] [] (N, T, R, I4)) ∧ (¬ (r5 = 0) → yW l zSS D cy zFk z d 230 0 0 (fun r h' => ∃ r65 I64, r = some (yi r65) ∧ h' = (N, T, R, I64) ∧ ((r65 = 0 ∨ r65 = 1) ∧ K (some (yi r65)) (N, T, R, I64))) 0 0 0 [(0, yr (some 102)), (1, yi 10), (2, yi 3), (3, yi 40)] [] (N, T, R, I4)))) 0 0 0 [(0, yr (some 102)), (1, yj 2002873452)] [] (N, T, R, I1)) ∧ (¬ (r2 = 0) → ((I1 102 22) = 0 → ∀ I67, I67 = yU I1 102 22 1 → (yW l zSS D cy zFk z d 182 0 0 (fun r h' => ∃ I68, r = none ∧ h' = (N, T, R, I68) ∧ (yW l zSS D cy zFk z (d + 1) 211 bc bs K 0 0 34 [(0, yr (some 102)), (1, yi 0)] [] (N, T, R, I68))) 0 0 0 [(0, yr (some 102))] [] (N, T, R, I67))) ∧ (¬ ((I1 102 22) = 0) → yW l zSS D cy zFk z d 159 0 0 (fun r h' => ∃ r70 I69, r = some (yi r70) ∧ h' = (N, T, R, I69) ∧ ((r70 = 0 ∨ r70 = 1) ∧ K (some (yi r70)) (N, T, R, I69))) 0 0 0 [(0, yr (some 102)), (1, yi 3)] [] (N, T, R, I1))))) 0 0 0 [(0, yr (some 102)), (1, yj 1818324580)] [] (N, T, R, I)) :
    yW l zSS D cy zFk z (d + 1) 211 bc bs K 0 0 0 [(0, yr (some 102))] [] (N, T, R, I) := by
  refine e_12 (f_211 (pc := 0) (e := (0, 12, 0, 0, 0, 0, 0, 1)) rfl) rfl ?_
  refine e_5 (f_211 (pc := 1) (e := (1, 5, 1818324580, 0, 0, 103, 1182, 4)) rfl) (v := 1818324580) rfl ?_
  refine e_130 (f_211 (pc := 4) (e := (4, 130, 199, 0, 11, 204, 1238, 7)) rfl) zA (as := [yr (some 102), yj 1818324580]) (rest := []) rfl rfl rfl rfl (Nat.le_of_ble_eq_true rfl) (Nat.le_of_ble_eq_true rfl) ⟨_, _, _, rfl, (hT 102 rfl)⟩ (mc := 0) (ms := 0) (Nat.zero_le _) (Nat.zero_le _) ?_
  refine e_K ?_ F
  rintro r h' ⟨r2, I1, rfl, rfl, F⟩
  refine e_60 (f_211 (pc := 7) (e := (7, 60, 71, 0, 0, 0, 0, 10)) rfl) (fun c3 => ?_) (fun c3 => ?_)
  · replace F := F.1 c3
    refine e_12 (f_211 (pc := 71) (e := (71, 12, 0, 0, 0, 0, 0, 72)) rfl) rfl ?_
    refine e_5 (f_211 (pc := 72) (e := (72, 5, 2002873452, 0, 0, 105, 1183, 75)) rfl) (v := 2002873452) rfl ?_
    refine e_130 (f_211 (pc := 75) (e := (75, 130, 199, 0, 11, 204, 1238, 78)) rfl) zA (as := [yr (some 102), yj 2002873452]) (rest := []) rfl rfl rfl rfl (Nat.le_of_ble_eq_true rfl) (Nat.le_of_ble_eq_true rfl) ⟨_, _, _, rfl, (hT 102 rfl)⟩ (mc := 0) (ms := 0) (Nat.zero_le _) (Nat.zero_le _) ?_
    refine e_K ?_ F
    rintro r h' ⟨r5, I4, rfl, rfl, F⟩
    refine e_60 (f_211 (pc := 78) (e := (78, 60, 91, 0, 0, 0, 0, 81)) rfl) (fun c6 => ?_) (fun c6 => ?_)
    · replace F := F.1 c6
      refine e_12 (f_211 (pc := 91) (e := (91, 12, 0, 0, 0, 0, 0, 92)) rfl) rfl ?_
      refine e_5 (f_211 (pc := 92) (e := (92, 5, 126943687701107, 0, 0, 107, 1184, 95)) rfl) (v := 126943687701107) rfl ?_
      refine e_130 (f_211 (pc := 95) (e := (95, 130, 199, 0, 11, 204, 1238, 98)) rfl) zA (as := [yr (some 102), yj 126943687701107]) (rest := []) rfl rfl rfl rfl (Nat.le_of_ble_eq_true rfl) (Nat.le_of_ble_eq_true rfl) ⟨_, _, _, rfl, (hT 102 rfl)⟩ (mc := 0) (ms := 0) (Nat.zero_le _) (Nat.zero_le _) ?_
      refine e_K ?_ F
      rintro r h' ⟨r8, I7, rfl, rfl, F⟩
      refine e_60 (f_211 (pc := 98) (e := (98, 60, 111, 0, 0, 0, 0, 101)) rfl) (fun c9 => ?_) (fun c9 => ?_)
      · replace F := F.1 c9
        refine e_12 (f_211 (pc := 111) (e := (111, 12, 0, 0, 0, 0, 0, 112)) rfl) rfl ?_
        refine e_5 (f_211 (pc := 112) (e := (112, 5, 2003395685, 0, 0, 109, 1185, 115)) rfl) (v := 2003395685) rfl ?_
        refine e_130 (f_211 (pc := 115) (e := (115, 130, 199, 0, 11, 204, 1238, 118)) rfl) zA (as := [yr (some 102), yj 2003395685]) (rest := []) rfl rfl rfl rfl (Nat.le_of_ble_eq_true rfl) (Nat.le_of_ble_eq_true rfl) ⟨_, _, _, rfl, (hT 102 rfl)⟩ (mc := 0) (ms := 0) (Nat.zero_le _) (Nat.zero_le _) ?_
        refine e_K ?_ F
        rintro r h' ⟨r11, I10, rfl, rfl, F⟩
        refine e_60 (f_211 (pc := 118) (e := (118, 60, 132, 0, 0, 0, 0, 121)) rfl) (fun c12 => ?_) (fun c12 => ?_)
        · replace F := F.1 c12
          refine e_12 (f_211 (pc := 132) (e := (132, 12, 0, 0, 0, 0, 0, 133)) rfl) rfl ?_
          refine e_5 (f_211 (pc := 133) (e := (133, 5, 1818324581, 0, 0, 111, 1186, 136)) rfl) (v := 1818324581) rfl ?_
          refine e_130 (f_211 (pc := 136) (e := (136, 130, 199, 0, 11, 204, 1238, 139)) rfl) zA (as := [yr (some 102), yj 1818324581]) (rest := []) rfl rfl rfl rfl (Nat.le_of_ble_eq_true rfl) (Nat.le_of_ble_eq_true rfl) ⟨_, _, _, rfl, (hT 102 rfl)⟩ (mc := 0) (ms := 0) (Nat.zero_le _) (Nat.zero_le _) ?_
          refine e_K ?_ F
          rintro r h' ⟨r14, I13, rfl, rfl, F⟩
          refine e_60 (f_211 (pc := 139) (e := (139, 60, 242, 0, 0, 0, 0, 142)) rfl) (fun c15 => ?_) (fun c15 => ?_)
          · replace F := F.1 c15
            refine e_12 (f_211 (pc := 242) (e := (242, 12, 0, 0, 0, 0, 0, 243)) rfl) rfl ?_
            refine e_5 (f_211 (pc := 243) (e := (243, 5, 426952976754, 0, 0, 113, 1187, 246)) rfl) (v := 426952976754) rfl ?_
            refine e_130 (f_211 (pc := 246) (e := (246, 130, 199, 0, 11, 204, 1238, 249)) rfl) zA (as := [yr (some 102), yj 426952976754]) (rest := []) rfl rfl rfl rfl (Nat.le_of_ble_eq_true rfl) (Nat.le_of_ble_eq_true rfl) ⟨_, _, _, rfl, (hT 102 rfl)⟩ (mc := 0) (ms := 0) (Nat.zero_le _) (Nat.zero_le _) ?_
            refine e_K ?_ F
            rintro r h' ⟨r17, I16, rfl, rfl, F⟩
            refine e_60 (f_211 (pc := 249) (e := (249, 60, 257, 0, 0, 0, 0, 252)) rfl) (fun c18 => ?_) (fun c18 => ?_)
            · replace F := F.1 c18
              refine e_12 (f_211 (pc := 257) (e := (257, 12, 0, 0, 0, 0, 0, 258)) rfl) rfl ?_
              refine e_5 (f_211 (pc := 258) (e := (258, 5, 495873782388, 0, 0, 115, 1188, 261)) rfl) (v := 495873782388) rfl ?_
              refine e_130 (f_211 (pc := 261) (e := (261, 130, 199, 0, 11, 204, 1238, 264)) rfl) zA (as := [yr (some 102), yj 495873782388]) (rest := []) rfl rfl rfl rfl (Nat.le_of_ble_eq_true rfl) (Nat.le_of_ble_eq_true rfl) ⟨_, _, _, rfl, (hT 102 rfl)⟩ (mc := 0) (ms := 0) (Nat.zero_le _) (Nat.zero_le _) ?_
              refine e_K ?_ F
              rintro r h' ⟨r20, I19, rfl, rfl, F⟩
              refine e_61 (f_211 (pc := 264) (e := (264, 61, 277, 0, 0, 0, 0, 267)) rfl) (fun c21 => ?_) (fun c21 => ?_)
              · replace F := F.1 c21
                refine e_lo [0] rfl ?_
                exact F
              · replace F := F.2 c21
                refine e_12 (f_211 (pc := 267) (e := (267, 12, 0, 0, 0, 0, 0, 268)) rfl) rfl ?_
                refine e_5 (f_211 (pc := 268) (e := (268, 5, 1936286571, 0, 0, 117, 1189, 271)) rfl) (v := 1936286571) rfl ?_
                refine e_130 (f_211 (pc := 271) (e := (271, 130, 199, 0, 11, 204, 1238, 274)) rfl) zA (as := [yr (some 102), yj 1936286571]) (rest := []) rfl rfl rfl rfl (Nat.le_of_ble_eq_true rfl) (Nat.le_of_ble_eq_true rfl) ⟨_, _, _, rfl, (hT 102 rfl)⟩ (mc := 0) (ms := 0) (Nat.zero_le _) (Nat.zero_le _) ?_
                refine e_K ?_ F
                rintro r h' ⟨r23, I22, rfl, rfl, F⟩
                refine e_60 (f_211 (pc := 274) (e := (274, 60, 418, 0, 0, 0, 0, 277)) rfl) (fun c24 => ?_) (fun c24 => ?_)
                · replace F := F.1 c24
                  refine e_12 (f_211 (pc := 418) (e := (418, 12, 0, 0, 0, 0, 0, 419)) rfl) rfl ?_
                  refine e_5 (f_211 (pc := 419) (e := (419, 5, 7102839, 0, 0, 119, 1190, 422)) rfl) (v := 7102839) rfl ?_
                  refine e_130 (f_211 (pc := 422) (e := (422, 130, 199, 0, 11, 204, 1238, 425)) rfl) zA (as := [yr (some 102), yj 7102839]) (rest := []) rfl rfl rfl rfl (Nat.le_of_ble_eq_true rfl) (Nat.le_of_ble_eq_true rfl) ⟨_, _, _, rfl, (hT 102 rfl)⟩ (mc := 0) (ms := 0) (Nat.zero_le _) (Nat.zero_le _) ?_
                  refine e_K ?_ F
                  rintro r h' ⟨r26, I25, rfl, rfl, F⟩
                  refine e_61 (f_211 (pc := 425) (e := (425, 61, 434, 0, 0, 0, 0, 428)) rfl) (fun c27 => ?_) (fun c27 => ?_)
                  · replace F := F.1 c27
                    refine e_12 (f_211 (pc := 434) (e := (434, 12, 0, 0, 0, 0, 0, 435)) rfl) rfl ?_
                    refine e_90 zA (f_211 (pc := 435) (e := (435, 90, 11, 23, 2, 241, 1223, 438)) rfl) rfl (hT 102 rfl) rfl rfl ?_
                    refine e_60 (f_211 (pc := 438) (e := (438, 60, 447, 0, 0, 0, 0, 441)) rfl) (fun c28 => ?_) (fun c28 => ?_)
                    · replace F := F.1 c28
                      refine e_12 (f_211 (pc := 447) (e := (447, 12, 0, 0, 0, 0, 0, 448)) rfl) rfl ?_
                      refine e_0 (f_211 (pc := 448) (e := (448, 0, 1, 0, 0, 0, 0, 449)) rfl) (v := 1) rfl ?_
                      refine e_91 zA (f_211 (pc := 449) (e := (449, 91, 11, 23, 2, 241, 1223, 452)) rfl) rfl (hT 102 rfl) rfl rfl (.inr rfl) ?_
                      replace F := F _ rfl
                      refine e_12 (f_211 (pc := 452) (e := (452, 12, 0, 0, 0, 0, 0, 453)) rfl) rfl ?_
                      refine e_130 (f_211 (pc := 453) (e := (453, 130, 182, 0, 11, 190, 1224, 456)) rfl) zA (as := [yr (some 102)]) (rest := []) rfl rfl rfl rfl (Nat.le_of_ble_eq_true rfl) (Nat.le_of_ble_eq_true rfl) ⟨_, _, _, rfl, (hT 102 rfl)⟩ (mc := 0) (ms := 0) (Nat.zero_le _) (Nat.zero_le _) ?_
                      refine e_K ?_ F
                      rintro r h' ⟨I30, rfl, rfl, F⟩
                      refine e_0 (f_211 (pc := 456) (e := (456, 0, 0, 0, 0, 0, 0, 457)) rfl) (v := 0) rfl ?_
                      refine e_20 (f_211 (pc := 457) (e := (457, 20, 1, 0, 0, 0, 0, 458)) rfl) ?_
                      refine e_lo [0, 1] rfl ?_
                      exact F
                    · replace F := F.2 c28
                      refine e_12 (f_211 (pc := 441) (e := (441, 12, 0, 0, 0, 0, 0, 442)) rfl) rfl ?_
                      refine e_0 (f_211 (pc := 442) (e := (442, 0, 3, 0, 0, 0, 0, 443)) rfl) (v := 3) rfl ?_
                      refine e_130 (f_211 (pc := 443) (e := (443, 130, 159, 0, 11, 187, 1243, 446)) rfl) zA (as := [yr (some 102), yi 3]) (rest := []) rfl rfl rfl rfl (Nat.le_of_ble_eq_true rfl) (Nat.le_of_ble_eq_true rfl) ⟨_, _, _, rfl, (hT 102 rfl)⟩ (mc := 0) (ms := 0) (Nat.zero_le _) (Nat.zero_le _) ?_
                      refine e_K ?_ F
                      rintro r h' ⟨r32, I31, rfl, rfl, F⟩
                      exact e_121 (f_211 (pc := 446) (e := (446, 121, 0, 0, 0, 0, 0, 447)) rfl) F.1 F.2
                  · replace F := F.2 c27
                    refine e_12 (f_211 (pc := 428) (e := (428, 12, 0, 0, 0, 0, 0, 429)) rfl) rfl ?_
                    refine e_0 (f_211 (pc := 429) (e := (429, 0, 1, 0, 0, 0, 0, 430)) rfl) (v := 1) rfl ?_
                    refine e_130 (f_211 (pc := 430) (e := (430, 130, 159, 0, 11, 187, 1243, 433)) rfl) zA (as := [yr (some 102), yi 1]) (rest := []) rfl rfl rfl rfl (Nat.le_of_ble_eq_true rfl) (Nat.le_of_ble_eq_true rfl) ⟨_, _, _, rfl, (hT 102 rfl)⟩ (mc := 0) (ms := 0) (Nat.zero_le _) (Nat.zero_le _) ?_
                    refine e_K ?_ F
                    rintro r h' ⟨r34, I33, rfl, rfl, F⟩
                    exact e_121 (f_211 (pc := 433) (e := (433, 121, 0, 0, 0, 0, 0, 434)) rfl) F.1 F.2
                · replace F := F.2 c24
                  refine e_lo [0] rfl ?_
                  exact F
            · replace F := F.2 c18
              refine e_12 (f_211 (pc := 252) (e := (252, 12, 0, 0, 0, 0, 0, 253)) rfl) rfl ?_
              refine e_130 (f_211 (pc := 253) (e := (253, 130, 229, 0, 11, 225, 1285, 256)) rfl) zA (as := [yr (some 102)]) (rest := []) rfl rfl rfl rfl (Nat.le_of_ble_eq_true rfl) (Nat.le_of_ble_eq_true rfl) ⟨_, _, _, rfl, (hT 102 rfl)⟩ (mc := 0) (ms := 0) (Nat.zero_le _) (Nat.zero_le _) ?_
              refine e_K ?_ F
              rintro r h' ⟨r36, I35, rfl, rfl, F⟩
              exact e_121 (f_211 (pc := 256) (e := (256, 121, 0, 0, 0, 0, 0, 257)) rfl) F.1 F.2
          · replace F := F.2 c15
            refine e_12 (f_211 (pc := 142) (e := (142, 12, 0, 0, 0, 0, 0, 143)) rfl) rfl ?_
            refine e_90 zA (f_211 (pc := 143) (e := (143, 90, 11, 20, 0, 219, 1220, 146)) rfl) rfl (hT 102 rfl) rfl rfl ?_
            refine e_1 (f_211 (pc := 146) (e := (146, 1, 20, 0, 0, 0, 0, 148)) rfl) (v := 20) rfl ?_
            refine e_71 (f_211 (pc := 148) (e := (148, 71, 157, 0, 0, 0, 0, 151)) rfl) (fun c37 => ?_) (fun c37 => ?_)
            · replace F := F.1 c37
              refine e_12 (f_211 (pc := 157) (e := (157, 12, 0, 0, 0, 0, 0, 158)) rfl) rfl ?_
              refine e_130 (f_211 (pc := 158) (e := (158, 130, 182, 0, 11, 190, 1224, 161)) rfl) zA (as := [yr (some 102)]) (rest := []) rfl rfl rfl rfl (Nat.le_of_ble_eq_true rfl) (Nat.le_of_ble_eq_true rfl) ⟨_, _, _, rfl, (hT 102 rfl)⟩ (mc := 0) (ms := 0) (Nat.zero_le _) (Nat.zero_le _) ?_
              refine e_K ?_ F
              rintro r h' ⟨I38, rfl, rfl, F⟩
              refine e_12 (f_211 (pc := 161) (e := (161, 12, 0, 0, 0, 0, 0, 162)) rfl) rfl ?_
              refine e_130 (f_211 (pc := 162) (e := (162, 130, 212, 0, 11, 208, 1283, 165)) rfl) zA (as := [yr (some 102)]) (rest := []) rfl rfl rfl rfl (Nat.le_of_ble_eq_true rfl) (Nat.le_of_ble_eq_true rfl) ⟨_, _, _, rfl, (hT 102 rfl)⟩ (mc := 0) (ms := 0) (Nat.zero_le _) (Nat.zero_le _) ?_
              refine e_K ?_ F
              rintro r h' ⟨r40, I39, rfl, rfl, F⟩
              refine e_61 (f_211 (pc := 165) (e := (165, 61, 170, 0, 0, 0, 0, 168)) rfl) (fun c41 => ?_) (fun c41 => ?_)
              · replace F := F.1 c41
                refine e_12 (f_211 (pc := 170) (e := (170, 12, 0, 0, 0, 0, 0, 171)) rfl) rfl ?_
                refine e_90 zA (f_211 (pc := 171) (e := (171, 90, 11, 18, 0, 197, 1281, 174)) rfl) rfl (hT 102 rfl) rfl rfl ?_
                refine e_20 (f_211 (pc := 174) (e := (174, 20, 1, 0, 0, 0, 0, 175)) rfl) ?_
                refine e_12 (f_211 (pc := 175) (e := (175, 12, 0, 0, 0, 0, 0, 176)) rfl) rfl ?_
                refine e_90r zA (f_211 (pc := 176) (e := (176, 90, 11, 7, 3, 37, 1160, 179)) rfl) rfl (hT 102 rfl) rfl rfl (hR 102 7 rfl) ?_
                refine e_2 (f_211 (pc := 179) (e := (179, 2, 358, 0, 0, 0, 0, 182)) rfl) (v := 358) rfl ?_
                refine e_10 (f_211 (pc := 182) (e := (182, 10, 1, 0, 0, 0, 0, 183)) rfl) rfl ?_
                refine e_30 (f_211 (pc := 183) (e := (183, 30, 0, 0, 0, 0, 0, 184)) rfl) ?_
                obtain ⟨b42, b43, F⟩ := F
                refine e_110 (f_211 (pc := 184) (e := (184, 110, 0, 0, 0, 0, 0, 185)) rfl) rfl (hT 105 rfl) b42 b43 ?_
                refine e_65 (f_211 (pc := 185) (e := (185, 65, 194, 0, 0, 0, 0, 188)) rfl) (fun c44 => ?_) (fun c44 => ?_)
                · replace F := F.1 c44
                  refine e_12 (f_211 (pc := 194) (e := (194, 12, 0, 0, 0, 0, 0, 195)) rfl) rfl ?_
                  refine e_130 (f_211 (pc := 195) (e := (195, 130, 182, 0, 11, 190, 1224, 198)) rfl) zA (as := [yr (some 102)]) (rest := []) rfl rfl rfl rfl (Nat.le_of_ble_eq_true rfl) (Nat.le_of_ble_eq_true rfl) ⟨_, _, _, rfl, (hT 102 rfl)⟩ (mc := 0) (ms := 0) (Nat.zero_le _) (Nat.zero_le _) ?_
                  refine e_K ?_ F
                  rintro r h' ⟨I45, rfl, rfl, F⟩
                  refine e_12 (f_211 (pc := 198) (e := (198, 12, 0, 0, 0, 0, 0, 199)) rfl) rfl ?_
                  refine e_130 (f_211 (pc := 199) (e := (199, 130, 172, 0, 11, 222, 1284, 202)) rfl) zA (as := [yr (some 102)]) (rest := []) rfl rfl rfl rfl (Nat.le_of_ble_eq_true rfl) (Nat.le_of_ble_eq_true rfl) ⟨_, _, _, rfl, (hT 102 rfl)⟩ (mc := 0) (ms := 0) (Nat.zero_le _) (Nat.zero_le _) ?_
                  refine e_K ?_ F
                  rintro r h' ⟨r47, I46, rfl, rfl, F⟩
                  refine e_20 (f_211 (pc := 202) (e := (202, 20, 2, 0, 0, 0, 0, 203)) rfl) ?_
                  refine e_10 (f_211 (pc := 203) (e := (203, 10, 2, 0, 0, 0, 0, 204)) rfl) rfl ?_
                  refine e_63 (f_211 (pc := 204) (e := (204, 63, 213, 0, 0, 0, 0, 207)) rfl) (fun c48 => ?_) (fun c48 => ?_)
                  · replace F := F.1 c48
                    refine e_12 (f_211 (pc := 213) (e := (213, 12, 0, 0, 0, 0, 0, 214)) rfl) rfl ?_
                    refine e_90r zA (f_211 (pc := 214) (e := (214, 90, 11, 7, 3, 37, 1160, 217)) rfl) rfl (hT 102 rfl) rfl rfl (hR 102 7 rfl) ?_
                    refine e_2 (f_211 (pc := 217) (e := (217, 2, 358, 0, 0, 0, 0, 220)) rfl) (v := 358) rfl ?_
                    refine e_10 (f_211 (pc := 220) (e := (220, 10, 1, 0, 0, 0, 0, 221)) rfl) rfl ?_
                    refine e_30 (f_211 (pc := 221) (e := (221, 30, 0, 0, 0, 0, 0, 222)) rfl) ?_
                    refine e_10 (f_211 (pc := 222) (e := (222, 10, 2, 0, 0, 0, 0, 223)) rfl) rfl ?_
                    refine e_0 (f_211 (pc := 223) (e := (223, 0, 1, 0, 0, 0, 0, 224)) rfl) (v := 1) rfl ?_
                    refine e_30 (f_211 (pc := 224) (e := (224, 30, 0, 0, 0, 0, 0, 225)) rfl) ?_
                    obtain ⟨b49, b50, F⟩ := F
                    refine e_111 (f_211 (pc := 225) (e := (225, 111, 0, 0, 0, 0, 0, 226)) rfl) rfl (hT 105 rfl) b49 b50 ?_
                    replace F := F _ rfl
                    refine e_12 (f_211 (pc := 226) (e := (226, 12, 0, 0, 0, 0, 0, 227)) rfl) rfl ?_
                    refine e_50 (f_211 (pc := 227) (e := (227, 50, 0, 0, 0, 0, 0, 228)) rfl) rfl ?_
                    refine e_90 zA (f_211 (pc := 228) (e := (228, 90, 11, 20, 0, 219, 1220, 231)) rfl) rfl (hT 102 rfl) rfl rfl ?_
                    refine e_0 (f_211 (pc := 231) (e := (231, 0, 1, 0, 0, 0, 0, 232)) rfl) (v := 1) rfl ?_
                    refine e_30 (f_211 (pc := 232) (e := (232, 30, 0, 0, 0, 0, 0, 233)) rfl) ?_
                    refine e_91 zA (f_211 (pc := 233) (e := (233, 91, 11, 20, 0, 219, 1220, 236)) rfl) rfl (hT 102 rfl) rfl rfl trivial ?_
                    replace F := F _ rfl
                    refine e_12 (f_211 (pc := 236) (e := (236, 12, 0, 0, 0, 0, 0, 237)) rfl) rfl ?_
                    refine e_130 (f_211 (pc := 237) (e := (237, 130, 182, 0, 11, 190, 1224, 240)) rfl) zA (as := [yr (some 102)]) (rest := []) rfl rfl rfl rfl (Nat.le_of_ble_eq_true rfl) (Nat.le_of_ble_eq_true rfl) ⟨_, _, _, rfl, (hT 102 rfl)⟩ (mc := 0) (ms := 0) (Nat.zero_le _) (Nat.zero_le _) ?_
                    refine e_K ?_ F
                    rintro r h' ⟨I53, rfl, rfl, F⟩
                    refine e_0 (f_211 (pc := 240) (e := (240, 0, 1, 0, 0, 0, 0, 241)) rfl) (v := 1) rfl ?_
                    exact e_121 (f_211 (pc := 241) (e := (241, 121, 0, 0, 0, 0, 0, 242)) rfl) (.inr rfl) F
                  · replace F := F.2 c48
                    refine e_12 (f_211 (pc := 207) (e := (207, 12, 0, 0, 0, 0, 0, 208)) rfl) rfl ?_
                    refine e_0 (f_211 (pc := 208) (e := (208, 0, 1, 0, 0, 0, 0, 209)) rfl) (v := 1) rfl ?_
                    refine e_130 (f_211 (pc := 209) (e := (209, 130, 159, 0, 11, 187, 1243, 212)) rfl) zA (as := [yr (some 102), yi 1]) (rest := []) rfl rfl rfl rfl (Nat.le_of_ble_eq_true rfl) (Nat.le_of_ble_eq_true rfl) ⟨_, _, _, rfl, (hT 102 rfl)⟩ (mc := 0) (ms := 0) (Nat.zero_le _) (Nat.zero_le _) ?_
                    refine e_K ?_ F
                    rintro r h' ⟨r55, I54, rfl, rfl, F⟩
                    exact e_121 (f_211 (pc := 212) (e := (212, 121, 0, 0, 0, 0, 0, 213)) rfl) F.1 F.2
                · replace F := F.2 c44
                  refine e_12 (f_211 (pc := 188) (e := (188, 12, 0, 0, 0, 0, 0, 189)) rfl) rfl ?_
                  refine e_0 (f_211 (pc := 189) (e := (189, 0, 3, 0, 0, 0, 0, 190)) rfl) (v := 3) rfl ?_
                  refine e_130 (f_211 (pc := 190) (e := (190, 130, 159, 0, 11, 187, 1243, 193)) rfl) zA (as := [yr (some 102), yi 3]) (rest := []) rfl rfl rfl rfl (Nat.le_of_ble_eq_true rfl) (Nat.le_of_ble_eq_true rfl) ⟨_, _, _, rfl, (hT 102 rfl)⟩ (mc := 0) (ms := 0) (Nat.zero_le _) (Nat.zero_le _) ?_
                  refine e_K ?_ F
                  rintro r h' ⟨r57, I56, rfl, rfl, F⟩
                  exact e_121 (f_211 (pc := 193) (e := (193, 121, 0, 0, 0, 0, 0, 194)) rfl) F.1 F.2
              · replace F := F.2 c41
                refine e_0 (f_211 (pc := 168) (e := (168, 0, 0, 0, 0, 0, 0, 169)) rfl) (v := 0) rfl ?_
                exact e_121 (f_211 (pc := 169) (e := (169, 121, 0, 0, 0, 0, 0, 170)) rfl) (.inl rfl) F
            · replace F := F.2 c37
              refine e_12 (f_211 (pc := 151) (e := (151, 12, 0, 0, 0, 0, 0, 152)) rfl) rfl ?_
              refine e_0 (f_211 (pc := 152) (e := (152, 0, 4, 0, 0, 0, 0, 153)) rfl) (v := 4) rfl ?_
              refine e_130 (f_211 (pc := 153) (e := (153, 130, 159, 0, 11, 187, 1243, 156)) rfl) zA (as := [yr (some 102), yi 4]) (rest := []) rfl rfl rfl rfl (Nat.le_of_ble_eq_true rfl) (Nat.le_of_ble_eq_true rfl) ⟨_, _, _, rfl, (hT 102 rfl)⟩ (mc := 0) (ms := 0) (Nat.zero_le _) (Nat.zero_le _) ?_
              refine e_K ?_ F
              rintro r h' ⟨r59, I58, rfl, rfl, F⟩
              exact e_121 (f_211 (pc := 156) (e := (156, 121, 0, 0, 0, 0, 0, 157)) rfl) F.1 F.2
        · replace F := F.2 c12
          refine e_12 (f_211 (pc := 121) (e := (121, 12, 0, 0, 0, 0, 0, 122)) rfl) rfl ?_
          refine e_2 (f_211 (pc := 122) (e := (122, 2, 210, 0, 0, 0, 0, 125)) rfl) (v := 210) rfl ?_
          refine e_0 (f_211 (pc := 125) (e := (125, 0, 5, 0, 0, 0, 0, 126)) rfl) (v := 5) rfl ?_
          refine e_1 (f_211 (pc := 126) (e := (126, 1, 12, 0, 0, 0, 0, 128)) rfl) (v := 12) rfl ?_
          refine e_130 (f_211 (pc := 128) (e := (128, 130, 230, 0, 11, 216, 1282, 131)) rfl) zA (as := [yr (some 102), yi 210, yi 5, yi 12]) (rest := []) rfl rfl rfl rfl (Nat.le_of_ble_eq_true rfl) (Nat.le_of_ble_eq_true rfl) ⟨_, _, _, rfl, (hT 102 rfl)⟩ (mc := 0) (ms := 0) (Nat.zero_le _) (Nat.zero_le _) ?_
          refine e_K ?_ F
          rintro r h' ⟨r61, I60, rfl, rfl, F⟩
          exact e_121 (f_211 (pc := 131) (e := (131, 121, 0, 0, 0, 0, 0, 132)) rfl) F.1 F.2
      · replace F := F.2 c9
        refine e_12 (f_211 (pc := 101) (e := (101, 12, 0, 0, 0, 0, 0, 102)) rfl) rfl ?_
        refine e_1 (f_211 (pc := 102) (e := (102, 1, 110, 0, 0, 0, 0, 104)) rfl) (v := 110) rfl ?_
        refine e_0 (f_211 (pc := 104) (e := (104, 0, 4, 0, 0, 0, 0, 105)) rfl) (v := 4) rfl ?_
        refine e_1 (f_211 (pc := 105) (e := (105, 1, 12, 0, 0, 0, 0, 107)) rfl) (v := 12) rfl ?_
        refine e_130 (f_211 (pc := 107) (e := (107, 130, 230, 0, 11, 216, 1282, 110)) rfl) zA (as := [yr (some 102), yi 110, yi 4, yi 12]) (rest := []) rfl rfl rfl rfl (Nat.le_of_ble_eq_true rfl) (Nat.le_of_ble_eq_true rfl) ⟨_, _, _, rfl, (hT 102 rfl)⟩ (mc := 0) (ms := 0) (Nat.zero_le _) (Nat.zero_le _) ?_
        refine e_K ?_ F
        rintro r h' ⟨r63, I62, rfl, rfl, F⟩
        exact e_121 (f_211 (pc := 110) (e := (110, 121, 0, 0, 0, 0, 0, 111)) rfl) F.1 F.2
    · replace F := F.2 c6
      refine e_12 (f_211 (pc := 81) (e := (81, 12, 0, 0, 0, 0, 0, 82)) rfl) rfl ?_
      refine e_1 (f_211 (pc := 82) (e := (82, 1, 10, 0, 0, 0, 0, 84)) rfl) (v := 10) rfl ?_
      refine e_0 (f_211 (pc := 84) (e := (84, 0, 3, 0, 0, 0, 0, 85)) rfl) (v := 3) rfl ?_
      refine e_1 (f_211 (pc := 85) (e := (85, 1, 40, 0, 0, 0, 0, 87)) rfl) (v := 40) rfl ?_
      refine e_130 (f_211 (pc := 87) (e := (87, 130, 230, 0, 11, 216, 1282, 90)) rfl) zA (as := [yr (some 102), yi 10, yi 3, yi 40]) (rest := []) rfl rfl rfl rfl (Nat.le_of_ble_eq_true rfl) (Nat.le_of_ble_eq_true rfl) ⟨_, _, _, rfl, (hT 102 rfl)⟩ (mc := 0) (ms := 0) (Nat.zero_le _) (Nat.zero_le _) ?_
      refine e_K ?_ F
      rintro r h' ⟨r65, I64, rfl, rfl, F⟩
      exact e_121 (f_211 (pc := 90) (e := (90, 121, 0, 0, 0, 0, 0, 91)) rfl) F.1 F.2
  · replace F := F.2 c3
    refine e_12 (f_211 (pc := 10) (e := (10, 12, 0, 0, 0, 0, 0, 11)) rfl) rfl ?_
    refine e_90 zA (f_211 (pc := 11) (e := (11, 90, 11, 22, 2, 212, 1222, 14)) rfl) rfl (hT 102 rfl) rfl rfl ?_
    refine e_60 (f_211 (pc := 14) (e := (14, 60, 23, 0, 0, 0, 0, 17)) rfl) (fun c66 => ?_) (fun c66 => ?_)
    · replace F := F.1 c66
      refine e_12 (f_211 (pc := 23) (e := (23, 12, 0, 0, 0, 0, 0, 24)) rfl) rfl ?_
      refine e_0 (f_211 (pc := 24) (e := (24, 0, 1, 0, 0, 0, 0, 25)) rfl) (v := 1) rfl ?_
      refine e_91 zA (f_211 (pc := 25) (e := (25, 91, 11, 22, 2, 212, 1222, 28)) rfl) rfl (hT 102 rfl) rfl rfl (.inr rfl) ?_
      replace F := F _ rfl
      refine e_12 (f_211 (pc := 28) (e := (28, 12, 0, 0, 0, 0, 0, 29)) rfl) rfl ?_
      refine e_130 (f_211 (pc := 29) (e := (29, 130, 182, 0, 11, 190, 1224, 32)) rfl) zA (as := [yr (some 102)]) (rest := []) rfl rfl rfl rfl (Nat.le_of_ble_eq_true rfl) (Nat.le_of_ble_eq_true rfl) ⟨_, _, _, rfl, (hT 102 rfl)⟩ (mc := 0) (ms := 0) (Nat.zero_le _) (Nat.zero_le _) ?_
      refine e_K ?_ F
      rintro r h' ⟨I68, rfl, rfl, F⟩
      refine e_0 (f_211 (pc := 32) (e := (32, 0, 0, 0, 0, 0, 0, 33)) rfl) (v := 0) rfl ?_
      refine e_20 (f_211 (pc := 33) (e := (33, 20, 1, 0, 0, 0, 0, 34)) rfl) ?_
      refine e_lo [0, 1] rfl ?_
      exact F
    · replace F := F.2 c66
      refine e_12 (f_211 (pc := 17) (e := (17, 12, 0, 0, 0, 0, 0, 18)) rfl) rfl ?_
      refine e_0 (f_211 (pc := 18) (e := (18, 0, 3, 0, 0, 0, 0, 19)) rfl) (v := 3) rfl ?_
      refine e_130 (f_211 (pc := 19) (e := (19, 130, 159, 0, 11, 187, 1243, 22)) rfl) zA (as := [yr (some 102), yi 3]) (rest := []) rfl rfl rfl rfl (Nat.le_of_ble_eq_true rfl) (Nat.le_of_ble_eq_true rfl) ⟨_, _, _, rfl, (hT 102 rfl)⟩ (mc := 0) (ms := 0) (Nat.zero_le _) (Nat.zero_le _) ?_
      refine e_K ?_ F
      rintro r h' ⟨r70, I69, rfl, rfl, F⟩
      exact e_121 (f_211 (pc := 22) (e := (22, 121, 0, 0, 0, 0, 0, 23)) rfl) F.1 F.2
set_option maxRecDepth 20000 in
theorem B_211_34 (hT : yLT T) (hR : yLR R) {x1 : Int} (F : (2 ≤ x1 → K (some (yi 1)) (N, T, R, I)) ∧ (¬ (2 ≤ x1) → yW l zSS D cy zFk z d 245 0 0 (fun r h' => ∃ r3 I2, r = some (yi r3) ∧ h' = (N, T, R, I2) ∧ ((r3 ≠ 0 → 0 ≤ (yadd 0 x1) ∧ (yadd 0 x1) < 458 ∧ (∀ I7, I7 = yU I2 105 ((yadd 0 x1).toNat) (ynar 1 (I2 102 18)) → (yW l zSS D cy zFk z (d + 1) 211 bc bs K 0 0 34 [(0, yr (some 102)), (1, yi (yadd x1 1))] [] (N, T, R, I7)))) ∧ (¬ (r3 ≠ 0) → K (some (yi 0)) (N, T, R, I2)))) 0 0 0 [(0, yr (some 102)), (1, yi 2), (2, yi 10)] [] (N, T, R, I))) :
    yW l zSS D cy zFk z (d + 1) 211 bc bs K 0 0 34 [(0, yr (some 102)), (1, yi x1)] [] (N, T, R, I) := by
  refine e_10 (f_211 (pc := 34) (e := (34, 10, 1, 0, 0, 0, 0, 35)) rfl) rfl ?_
  refine e_0 (f_211 (pc := 35) (e := (35, 0, 2, 0, 0, 0, 0, 36)) rfl) (v := 2) rfl ?_
  refine e_73 (f_211 (pc := 36) (e := (36, 73, 69, 0, 0, 0, 0, 39)) rfl) (fun c1 => ?_) (fun c1 => ?_)
  · replace F := F.1 c1
    refine e_0 (f_211 (pc := 69) (e := (69, 0, 1, 0, 0, 0, 0, 70)) rfl) (v := 1) rfl ?_
    exact e_121 (f_211 (pc := 70) (e := (70, 121, 0, 0, 0, 0, 0, 71)) rfl) (.inr rfl) F
  · replace F := F.2 c1
    refine e_12 (f_211 (pc := 39) (e := (39, 12, 0, 0, 0, 0, 0, 40)) rfl) rfl ?_
    refine e_0 (f_211 (pc := 40) (e := (40, 0, 2, 0, 0, 0, 0, 41)) rfl) (v := 2) rfl ?_
    refine e_1 (f_211 (pc := 41) (e := (41, 1, 10, 0, 0, 0, 0, 43)) rfl) (v := 10) rfl ?_
    refine e_130 (f_211 (pc := 43) (e := (43, 130, 245, 0, 11, 200, 1280, 46)) rfl) zA (as := [yr (some 102), yi 2, yi 10]) (rest := []) rfl rfl rfl rfl (Nat.le_of_ble_eq_true rfl) (Nat.le_of_ble_eq_true rfl) ⟨_, _, _, rfl, (hT 102 rfl)⟩ (mc := 0) (ms := 0) (Nat.zero_le _) (Nat.zero_le _) ?_
    refine e_K ?_ F
    rintro r h' ⟨r3, I2, rfl, rfl, F⟩
    refine e_61 (f_211 (pc := 46) (e := (46, 61, 51, 0, 0, 0, 0, 49)) rfl) (fun c4 => ?_) (fun c4 => ?_)
    · replace F := F.1 c4
      refine e_12 (f_211 (pc := 51) (e := (51, 12, 0, 0, 0, 0, 0, 52)) rfl) rfl ?_
      refine e_90r zA (f_211 (pc := 52) (e := (52, 90, 11, 7, 3, 37, 1160, 55)) rfl) rfl (hT 102 rfl) rfl rfl (hR 102 7 rfl) ?_
      refine e_0 (f_211 (pc := 55) (e := (55, 0, 0, 0, 0, 0, 0, 56)) rfl) (v := 0) rfl ?_
      refine e_10 (f_211 (pc := 56) (e := (56, 10, 1, 0, 0, 0, 0, 57)) rfl) rfl ?_
      refine e_30 (f_211 (pc := 57) (e := (57, 30, 0, 0, 0, 0, 0, 58)) rfl) ?_
      refine e_12 (f_211 (pc := 58) (e := (58, 12, 0, 0, 0, 0, 0, 59)) rfl) rfl ?_
      refine e_90 zA (f_211 (pc := 59) (e := (59, 90, 11, 18, 0, 197, 1281, 62)) rfl) rfl (hT 102 rfl) rfl rfl ?_
      obtain ⟨b5, b6, F⟩ := F
      refine e_111 (f_211 (pc := 62) (e := (62, 111, 0, 0, 0, 0, 0, 63)) rfl) rfl (hT 105 rfl) b5 b6 ?_
      replace F := F _ rfl
      refine e_26 (f_211 (pc := 63) (e := (63, 26, 1, 1, 0, 0, 0, 66)) rfl) (w := 1) rfl rfl ?_
      refine e_80 (f_211 (pc := 66) (e := (66, 80, 34, 0, 0, 0, 0, 69)) rfl) ?_
      refine e_lo [0, 1] rfl ?_
      exact F
    · replace F := F.2 c4
      refine e_0 (f_211 (pc := 49) (e := (49, 0, 0, 0, 0, 0, 0, 50)) rfl) (v := 0) rfl ?_
      exact e_121 (f_211 (pc := 50) (e := (50, 121, 0, 0, 0, 0, 0, 51)) rfl) (.inl rfl) F
set_option maxRecDepth 20000 in
theorem B_211_277 (hT : yLT T) (hR : yLR R) (F : yW l zSS D cy zFk z d 199 0 0 (fun r h' => ∃ r2 I1, r = some (yi r2) ∧ h' = (N, T, R, I1) ∧ (yW l zSS D cy zFk z d 182 0 0 (fun r h' => ∃ I3, r = none ∧ h' = (N, T, R, I3) ∧ (yW l zSS D cy zFk z d 194 0 0 (fun r h' => ∃ r5 I4, r = some (yi r5) ∧ h' = (N, T, R, I4) ∧ ((r5 ≠ 0 → yW l zSS D cy zFk z d 180 0 0 (fun r h' => ∃ r8 I7, r = some (yi r8) ∧ h' = (N, T, R, I7) ∧ ((r8 < 0 → yW l zSS D cy zFk z (d + 1) 211 bc bs K 0 0 351 [(0, yr (some 102))] [] (N, T, R, I7)) ∧ (¬ (r8 < 0) → (r2 = 0 → yW l zSS D cy zFk z d 164 0 0 (fun r h' => ∃ r12 I11, r = some (yi r12) ∧ h' = (N, T, R, I11) ∧ ((r12 = 0 → yW l zSS D cy zFk z (d + 1) 211 bc bs K 0 0 357 [(0, yr (some 102)), (1, yi r2), (2, yi r8)] [] (N, T, R, I11)) ∧ (¬ (r12 = 0) → yW l zSS D cy zFk z (d + 1) 211 bc bs K 0 0 351 [(0, yr (some 102))] [] (N, T, R, I11)))) 0 0 0 [(0, yi (I7 102 21)), (1, yi r8)] [] (N, T, R, I7)) ∧ (¬ (r2 = 0) → 0 ≤ (yadd 342 r8) ∧ (yadd 342 r8) < 458 ∧ (((I7 105 (yadd 342 r8).toNat) ≠ 1 → yW l zSS D cy zFk z (d + 1) 211 bc bs K 0 0 357 [(0, yr (some 102)), (1, yi r2), (2, yi r8)] [] (N, T, R, I7)) ∧ (¬ ((I7 105 (yadd 342 r8).toNat) ≠ 1) → yW l zSS D cy zFk z (d + 1) 211 bc bs K 0 0 351 [(0, yr (some 102))] [] (N, T, R, I7))))))) 0 0 0 [(0, yr (some 102)), (1, yi 8), (2, yi (I4 105 2))] [] (N, T, R, I4)) ∧ (¬ (r5 ≠ 0) → yW l zSS D cy zFk z d 159 0 0 (fun r h' => ∃ r18 I17, r = some (yi r18) ∧ h' = (N, T, R, I17) ∧ ((r18 = 0 ∨ r18 = 1) ∧ K (some (yi r18)) (N, T, R, I17))) 0 0 0 [(0, yr (some 102)), (1, yi 1)] [] (N, T, R, I4)))) 0 0 0 [(0, yr (some 102))] [] (N, T, R, I3))) 0 0 0 [(0, yr (some 102))] [] (N, T, R, I1))) 0 0 0 [(0, yr (some 102)), (1, yj 1936286571)] [] (N, T, R, I)) :
    yW l zSS D cy zFk z (d + 1) 211 bc bs K 0 0 277 [(0, yr (some 102))] [] (N, T, R, I) := by
  refine e_12 (f_211 (pc := 277) (e := (277, 12, 0, 0, 0, 0, 0, 278)) rfl) rfl ?_
  refine e_5 (f_211 (pc := 278) (e := (278, 5, 1936286571, 0, 0, 117, 1189, 281)) rfl) (v := 1936286571) rfl ?_
  refine e_130 (f_211 (pc := 281) (e := (281, 130, 199, 0, 11, 204, 1238, 284)) rfl) zA (as := [yr (some 102), yj 1936286571]) (rest := []) rfl rfl rfl rfl (Nat.le_of_ble_eq_true rfl) (Nat.le_of_ble_eq_true rfl) ⟨_, _, _, rfl, (hT 102 rfl)⟩ (mc := 0) (ms := 0) (Nat.zero_le _) (Nat.zero_le _) ?_
  refine e_K ?_ F
  rintro r h' ⟨r2, I1, rfl, rfl, F⟩
  refine e_20 (f_211 (pc := 284) (e := (284, 20, 1, 0, 0, 0, 0, 285)) rfl) ?_
  refine e_12 (f_211 (pc := 285) (e := (285, 12, 0, 0, 0, 0, 0, 286)) rfl) rfl ?_
  refine e_130 (f_211 (pc := 286) (e := (286, 130, 182, 0, 11, 190, 1224, 289)) rfl) zA (as := [yr (some 102)]) (rest := []) rfl rfl rfl rfl (Nat.le_of_ble_eq_true rfl) (Nat.le_of_ble_eq_true rfl) ⟨_, _, _, rfl, (hT 102 rfl)⟩ (mc := 0) (ms := 0) (Nat.zero_le _) (Nat.zero_le _) ?_
  refine e_K ?_ F
  rintro r h' ⟨I3, rfl, rfl, F⟩
  refine e_12 (f_211 (pc := 289) (e := (289, 12, 0, 0, 0, 0, 0, 290)) rfl) rfl ?_
  refine e_130 (f_211 (pc := 290) (e := (290, 130, 194, 0, 11, 228, 1286, 293)) rfl) zA (as := [yr (some 102)]) (rest := []) rfl rfl rfl rfl (Nat.le_of_ble_eq_true rfl) (Nat.le_of_ble_eq_true rfl) ⟨_, _, _, rfl, (hT 102 rfl)⟩ (mc := 0) (ms := 0) (Nat.zero_le _) (Nat.zero_le _) ?_
  refine e_K ?_ F
  rintro r h' ⟨r5, I4, rfl, rfl, F⟩
  refine e_61 (f_211 (pc := 293) (e := (293, 61, 302, 0, 0, 0, 0, 296)) rfl) (fun c6 => ?_) (fun c6 => ?_)
  · replace F := F.1 c6
    refine e_12 (f_211 (pc := 302) (e := (302, 12, 0, 0, 0, 0, 0, 303)) rfl) rfl ?_
    refine e_1 (f_211 (pc := 303) (e := (303, 1, 8, 0, 0, 0, 0, 305)) rfl) (v := 8) rfl ?_
    refine e_12 (f_211 (pc := 305) (e := (305, 12, 0, 0, 0, 0, 0, 306)) rfl) rfl ?_
    refine e_90r zA (f_211 (pc := 306) (e := (306, 90, 11, 7, 3, 37, 1160, 309)) rfl) rfl (hT 102 rfl) rfl rfl (hR 102 7 rfl) ?_
    refine e_0 (f_211 (pc := 309) (e := (309, 0, 2, 0, 0, 0, 0, 310)) rfl) (v := 2) rfl ?_
    refine e_110 (f_211 (pc := 310) (e := (310, 110, 0, 0, 0, 0, 0, 311)) rfl) rfl (hT 105 rfl) (by decide) (by decide) ?_
    refine e_130 (f_211 (pc := 311) (e := (311, 130, 180, 0, 11, 231, 1287, 314)) rfl) zA (as := [yr (some 102), yi 8, yi _]) (rest := []) rfl rfl rfl rfl (Nat.le_of_ble_eq_true rfl) (Nat.le_of_ble_eq_true rfl) ⟨_, _, _, rfl, (hT 102 rfl)⟩ (mc := 0) (ms := 0) (Nat.zero_le _) (Nat.zero_le _) ?_
    refine e_K ?_ F
    rintro r h' ⟨r8, I7, rfl, rfl, F⟩
    refine e_20 (f_211 (pc := 314) (e := (314, 20, 2, 0, 0, 0, 0, 315)) rfl) ?_
    refine e_10 (f_211 (pc := 315) (e := (315, 10, 2, 0, 0, 0, 0, 316)) rfl) rfl ?_
    refine e_62 (f_211 (pc := 316) (e := (316, 62, 351, 0, 0, 0, 0, 319)) rfl) (fun c9 => ?_) (fun c9 => ?_)
    · replace F := F.1 c9
      refine e_lo [0] rfl ?_
      exact F
    · replace F := F.2 c9
      refine e_10 (f_211 (pc := 319) (e := (319, 10, 1, 0, 0, 0, 0, 320)) rfl) rfl ?_
      refine e_60 (f_211 (pc := 320) (e := (320, 60, 340, 0, 0, 0, 0, 323)) rfl) (fun c10 => ?_) (fun c10 => ?_)
      · replace F := F.1 c10
        refine e_12 (f_211 (pc := 340) (e := (340, 12, 0, 0, 0, 0, 0, 341)) rfl) rfl ?_
        refine e_90 zA (f_211 (pc := 341) (e := (341, 90, 11, 21, 0, 235, 1221, 344)) rfl) rfl (hT 102 rfl) rfl rfl ?_
        refine e_10 (f_211 (pc := 344) (e := (344, 10, 2, 0, 0, 0, 0, 345)) rfl) rfl ?_
        refine e_132 (f_211 (pc := 345) (e := (345, 132, 164, 2, 11, 238, 1207, 348)) rfl) zA (as := [yi _, yi r8]) (rest := []) rfl rfl rfl rfl (Nat.le_of_ble_eq_true rfl) (Nat.le_of_ble_eq_true rfl) (mc := 0) (ms := 0) (Nat.zero_le _) (Nat.zero_le _) ?_
        refine e_K ?_ F
        rintro r h' ⟨r12, I11, rfl, rfl, F⟩
        refine e_60 (f_211 (pc := 348) (e := (348, 60, 357, 0, 0, 0, 0, 351)) rfl) (fun c13 => ?_) (fun c13 => ?_)
        · replace F := F.1 c13
          refine e_lo [0, 1, 2] rfl ?_
          exact F
        · replace F := F.2 c13
          refine e_lo [0] rfl ?_
          exact F
      · replace F := F.2 c10
        refine e_12 (f_211 (pc := 323) (e := (323, 12, 0, 0, 0, 0, 0, 324)) rfl) rfl ?_
        refine e_90r zA (f_211 (pc := 324) (e := (324, 90, 11, 7, 3, 37, 1160, 327)) rfl) rfl (hT 102 rfl) rfl rfl (hR 102 7 rfl) ?_
        refine e_2 (f_211 (pc := 327) (e := (327, 2, 342, 0, 0, 0, 0, 330)) rfl) (v := 342) rfl ?_
        refine e_10 (f_211 (pc := 330) (e := (330, 10, 2, 0, 0, 0, 0, 331)) rfl) rfl ?_
        refine e_30 (f_211 (pc := 331) (e := (331, 30, 0, 0, 0, 0, 0, 332)) rfl) ?_
        obtain ⟨b14, b15, F⟩ := F
        refine e_110 (f_211 (pc := 332) (e := (332, 110, 0, 0, 0, 0, 0, 333)) rfl) rfl (hT 105 rfl) b14 b15 ?_
        refine e_0 (f_211 (pc := 333) (e := (333, 0, 1, 0, 0, 0, 0, 334)) rfl) (v := 1) rfl ?_
        refine e_71 (f_211 (pc := 334) (e := (334, 71, 357, 0, 0, 0, 0, 337)) rfl) (fun c16 => ?_) (fun c16 => ?_)
        · replace F := F.1 c16
          refine e_lo [0, 1, 2] rfl ?_
          exact F
        · replace F := F.2 c16
          refine e_80 (f_211 (pc := 337) (e := (337, 80, 351, 0, 0, 0, 0, 340)) rfl) ?_
          refine e_lo [0] rfl ?_
          exact F
  · replace F := F.2 c6
    refine e_12 (f_211 (pc := 296) (e := (296, 12, 0, 0, 0, 0, 0, 297)) rfl) rfl ?_
    refine e_0 (f_211 (pc := 297) (e := (297, 0, 1, 0, 0, 0, 0, 298)) rfl) (v := 1) rfl ?_
    refine e_130 (f_211 (pc := 298) (e := (298, 130, 159, 0, 11, 187, 1243, 301)) rfl) zA (as := [yr (some 102), yi 1]) (rest := []) rfl rfl rfl rfl (Nat.le_of_ble_eq_true rfl) (Nat.le_of_ble_eq_true rfl) ⟨_, _, _, rfl, (hT 102 rfl)⟩ (mc := 0) (ms := 0) (Nat.zero_le _) (Nat.zero_le _) ?_
    refine e_K ?_ F
    rintro r h' ⟨r18, I17, rfl, rfl, F⟩
    exact e_121 (f_211 (pc := 301) (e := (301, 121, 0, 0, 0, 0, 0, 302)) rfl) F.1 F.2
set_option maxRecDepth 20000 in
theorem B_211_351 (hT : yLT T) (hR : yLR R) (F : yW l zSS D cy zFk z d 159 0 0 (fun r h' => ∃ r2 I1, r = some (yi r2) ∧ h' = (N, T, R, I1) ∧ ((r2 = 0 ∨ r2 = 1) ∧ K (some (yi r2)) (N, T, R, I1))) 0 0 0 [(0, yr (some 102)), (1, yi 3)] [] (N, T, R, I)) :
    yW l zSS D cy zFk z (d + 1) 211 bc bs K 0 0 351 [(0, yr (some 102))] [] (N, T, R, I) := by
  refine e_12 (f_211 (pc := 351) (e := (351, 12, 0, 0, 0, 0, 0, 352)) rfl) rfl ?_
  refine e_0 (f_211 (pc := 352) (e := (352, 0, 3, 0, 0, 0, 0, 353)) rfl) (v := 3) rfl ?_
  refine e_130 (f_211 (pc := 353) (e := (353, 130, 159, 0, 11, 187, 1243, 356)) rfl) zA (as := [yr (some 102), yi 3]) (rest := []) rfl rfl rfl rfl (Nat.le_of_ble_eq_true rfl) (Nat.le_of_ble_eq_true rfl) ⟨_, _, _, rfl, (hT 102 rfl)⟩ (mc := 0) (ms := 0) (Nat.zero_le _) (Nat.zero_le _) ?_
  refine e_K ?_ F
  rintro r h' ⟨r2, I1, rfl, rfl, F⟩
  exact e_121 (f_211 (pc := 356) (e := (356, 121, 0, 0, 0, 0, 0, 357)) rfl) F.1 F.2
set_option maxRecDepth 20000 in
theorem B_211_357 (hT : yLT T) (hR : yLR R) {x1 x2 : Int} (F : yW l zSS D cy zFk z d 182 0 0 (fun r h' => ∃ I1, r = none ∧ h' = (N, T, R, I1) ∧ ((x1 = 0 → ∀ I3, I3 = yU I1 102 21 (yor (I1 102 21) (yshl 1 x2)) → (yW l zSS D cy zFk z d 245 0 0 (fun r h' => ∃ r5 I4, r = some (yi r5) ∧ h' = (N, T, R, I4) ∧ ((r5 ≠ 0 → 0 ≤ (yadd 350 x2) ∧ (yadd 350 x2) < 458 ∧ (∀ I9, I9 = yU I4 105 ((yadd 350 x2).toNat) (ynar 1 (I4 102 18)) → (K (some (yi 1)) (N, T, R, I9)))) ∧ (¬ (r5 ≠ 0) → K (some (yi 0)) (N, T, R, I4)))) 0 0 0 [(0, yr (some 102)), (1, yi 0), (2, yi 99)] [] (N, T, R, I3))) ∧ (¬ (x1 = 0) → 0 ≤ (yadd 342 x2) ∧ (yadd 342 x2) < 458 ∧ (∀ I12, I12 = yU I1 105 ((yadd 342 x2).toNat) (ynar 1 1) → (K (some (yi 1)) (N, T, R, I12)))))) 0 0 0 [(0, yr (some 102))] [] (N, T, R, I)) :
    yW l zSS D cy zFk z (d + 1) 211 bc bs K 0 0 357 [(0, yr (some 102)), (1, yi x1), (2, yi x2)] [] (N, T, R, I) := by
  refine e_12 (f_211 (pc := 357) (e := (357, 12, 0, 0, 0, 0, 0, 358)) rfl) rfl ?_
  refine e_130 (f_211 (pc := 358) (e := (358, 130, 182, 0, 11, 190, 1224, 361)) rfl) zA (as := [yr (some 102)]) (rest := []) rfl rfl rfl rfl (Nat.le_of_ble_eq_true rfl) (Nat.le_of_ble_eq_true rfl) ⟨_, _, _, rfl, (hT 102 rfl)⟩ (mc := 0) (ms := 0) (Nat.zero_le _) (Nat.zero_le _) ?_
  refine e_K ?_ F
  rintro r h' ⟨I1, rfl, rfl, F⟩
  refine e_10 (f_211 (pc := 361) (e := (361, 10, 1, 0, 0, 0, 0, 362)) rfl) rfl ?_
  refine e_60 (f_211 (pc := 362) (e := (362, 60, 378, 0, 0, 0, 0, 365)) rfl) (fun c2 => ?_) (fun c2 => ?_)
  · replace F := F.1 c2
    refine e_12 (f_211 (pc := 378) (e := (378, 12, 0, 0, 0, 0, 0, 379)) rfl) rfl ?_
    refine e_50 (f_211 (pc := 379) (e := (379, 50, 0, 0, 0, 0, 0, 380)) rfl) rfl ?_
    refine e_90 zA (f_211 (pc := 380) (e := (380, 90, 11, 21, 0, 235, 1221, 383)) rfl) rfl (hT 102 rfl) rfl rfl ?_
    refine e_0 (f_211 (pc := 383) (e := (383, 0, 1, 0, 0, 0, 0, 384)) rfl) (v := 1) rfl ?_
    refine e_10 (f_211 (pc := 384) (e := (384, 10, 2, 0, 0, 0, 0, 385)) rfl) rfl ?_
    refine e_38 (f_211 (pc := 385) (e := (385, 38, 0, 0, 0, 0, 0, 386)) rfl) ?_
    refine e_36 (f_211 (pc := 386) (e := (386, 36, 0, 0, 0, 0, 0, 387)) rfl) ?_
    refine e_91 zA (f_211 (pc := 387) (e := (387, 91, 11, 21, 0, 235, 1221, 390)) rfl) rfl (hT 102 rfl) rfl rfl trivial ?_
    replace F := F _ rfl
    refine e_12 (f_211 (pc := 390) (e := (390, 12, 0, 0, 0, 0, 0, 391)) rfl) rfl ?_
    refine e_0 (f_211 (pc := 391) (e := (391, 0, 0, 0, 0, 0, 0, 392)) rfl) (v := 0) rfl ?_
    refine e_1 (f_211 (pc := 392) (e := (392, 1, 99, 0, 0, 0, 0, 394)) rfl) (v := 99) rfl ?_
    refine e_130 (f_211 (pc := 394) (e := (394, 130, 245, 0, 11, 200, 1280, 397)) rfl) zA (as := [yr (some 102), yi 0, yi 99]) (rest := []) rfl rfl rfl rfl (Nat.le_of_ble_eq_true rfl) (Nat.le_of_ble_eq_true rfl) ⟨_, _, _, rfl, (hT 102 rfl)⟩ (mc := 0) (ms := 0) (Nat.zero_le _) (Nat.zero_le _) ?_
    refine e_K ?_ F
    rintro r h' ⟨r5, I4, rfl, rfl, F⟩
    refine e_61 (f_211 (pc := 397) (e := (397, 61, 402, 0, 0, 0, 0, 400)) rfl) (fun c6 => ?_) (fun c6 => ?_)
    · replace F := F.1 c6
      refine e_12 (f_211 (pc := 402) (e := (402, 12, 0, 0, 0, 0, 0, 403)) rfl) rfl ?_
      refine e_90r zA (f_211 (pc := 403) (e := (403, 90, 11, 7, 3, 37, 1160, 406)) rfl) rfl (hT 102 rfl) rfl rfl (hR 102 7 rfl) ?_
      refine e_2 (f_211 (pc := 406) (e := (406, 2, 350, 0, 0, 0, 0, 409)) rfl) (v := 350) rfl ?_
      refine e_10 (f_211 (pc := 409) (e := (409, 10, 2, 0, 0, 0, 0, 410)) rfl) rfl ?_
      refine e_30 (f_211 (pc := 410) (e := (410, 30, 0, 0, 0, 0, 0, 411)) rfl) ?_
      refine e_12 (f_211 (pc := 411) (e := (411, 12, 0, 0, 0, 0, 0, 412)) rfl) rfl ?_
      refine e_90 zA (f_211 (pc := 412) (e := (412, 90, 11, 18, 0, 197, 1281, 415)) rfl) rfl (hT 102 rfl) rfl rfl ?_
      obtain ⟨b7, b8, F⟩ := F
      refine e_111 (f_211 (pc := 415) (e := (415, 111, 0, 0, 0, 0, 0, 416)) rfl) rfl (hT 105 rfl) b7 b8 ?_
      replace F := F _ rfl
      refine e_0 (f_211 (pc := 416) (e := (416, 0, 1, 0, 0, 0, 0, 417)) rfl) (v := 1) rfl ?_
      exact e_121 (f_211 (pc := 417) (e := (417, 121, 0, 0, 0, 0, 0, 418)) rfl) (.inr rfl) F
    · replace F := F.2 c6
      refine e_0 (f_211 (pc := 400) (e := (400, 0, 0, 0, 0, 0, 0, 401)) rfl) (v := 0) rfl ?_
      exact e_121 (f_211 (pc := 401) (e := (401, 121, 0, 0, 0, 0, 0, 402)) rfl) (.inl rfl) F
  · replace F := F.2 c2
    refine e_12 (f_211 (pc := 365) (e := (365, 12, 0, 0, 0, 0, 0, 366)) rfl) rfl ?_
    refine e_90r zA (f_211 (pc := 366) (e := (366, 90, 11, 7, 3, 37, 1160, 369)) rfl) rfl (hT 102 rfl) rfl rfl (hR 102 7 rfl) ?_
    refine e_2 (f_211 (pc := 369) (e := (369, 2, 342, 0, 0, 0, 0, 372)) rfl) (v := 342) rfl ?_
    refine e_10 (f_211 (pc := 372) (e := (372, 10, 2, 0, 0, 0, 0, 373)) rfl) rfl ?_
    refine e_30 (f_211 (pc := 373) (e := (373, 30, 0, 0, 0, 0, 0, 374)) rfl) ?_
    refine e_0 (f_211 (pc := 374) (e := (374, 0, 1, 0, 0, 0, 0, 375)) rfl) (v := 1) rfl ?_
    obtain ⟨b10, b11, F⟩ := F
    refine e_111 (f_211 (pc := 375) (e := (375, 111, 0, 0, 0, 0, 0, 376)) rfl) rfl (hT 105 rfl) b10 b11 ?_
    replace F := F _ rfl
    refine e_0 (f_211 (pc := 376) (e := (376, 0, 1, 0, 0, 0, 0, 377)) rfl) (v := 1) rfl ?_
    exact e_121 (f_211 (pc := 377) (e := (377, 121, 0, 0, 0, 0, 0, 378)) rfl) (.inr rfl) F
set_option maxRecDepth 20000 in
theorem B_211_458 (hT : yLT T) (hR : yLR R) {x1 : Int} (F : (x1 = 0 → yW l zSS D cy zFk z (d + 1) 211 bc bs K 0 0 471 [(0, yr (some 102)), (1, yi x1)] [] (N, T, R, I)) ∧ (¬ (x1 = 0) → yW l zSS D cy zFk z d 196 0 0 (fun r h' => ∃ r3 I2, r = some (yi r3) ∧ h' = (N, T, R, I2) ∧ ((r3 ≠ 0 → K (some (yi 1)) (N, T, R, I2)) ∧ (¬ (r3 ≠ 0) → yW l zSS D cy zFk z (d + 1) 211 bc bs K 0 0 471 [(0, yr (some 102)), (1, yi x1)] [] (N, T, R, I2)))) 0 0 0 [(0, yr (some 102)), (1, yi 59)] [] (N, T, R, I))) :
    yW l zSS D cy zFk z (d + 1) 211 bc bs K 0 0 458 [(0, yr (some 102)), (1, yi x1)] [] (N, T, R, I) := by
  refine e_10 (f_211 (pc := 458) (e := (458, 10, 1, 0, 0, 0, 0, 459)) rfl) rfl ?_
  refine e_60 (f_211 (pc := 459) (e := (459, 60, 471, 0, 0, 0, 0, 462)) rfl) (fun c1 => ?_) (fun c1 => ?_)
  · replace F := F.1 c1
    refine e_lo [0, 1] rfl ?_
    exact F
  · replace F := F.2 c1
    refine e_12 (f_211 (pc := 462) (e := (462, 12, 0, 0, 0, 0, 0, 463)) rfl) rfl ?_
    refine e_1 (f_211 (pc := 463) (e := (463, 1, 59, 0, 0, 0, 0, 465)) rfl) (v := 59) rfl ?_
    refine e_130 (f_211 (pc := 465) (e := (465, 130, 196, 0, 11, 184, 1242, 468)) rfl) zA (as := [yr (some 102), yi 59]) (rest := []) rfl rfl rfl rfl (Nat.le_of_ble_eq_true rfl) (Nat.le_of_ble_eq_true rfl) ⟨_, _, _, rfl, (hT 102 rfl)⟩ (mc := 0) (ms := 0) (Nat.zero_le _) (Nat.zero_le _) ?_
    refine e_K ?_ F
    rintro r h' ⟨r3, I2, rfl, rfl, F⟩
    refine e_61 (f_211 (pc := 468) (e := (468, 61, 579, 0, 0, 0, 0, 471)) rfl) (fun c4 => ?_) (fun c4 => ?_)
    · replace F := F.1 c4
      refine e_0 (f_211 (pc := 579) (e := (579, 0, 1, 0, 0, 0, 0, 580)) rfl) (v := 1) rfl ?_
      exact e_121 (f_211 (pc := 580) (e := (580, 121, 0, 0, 0, 0, 0, 0)) rfl) (.inr rfl) F
    · replace F := F.2 c4
      refine e_lo [0, 1] rfl ?_
      exact F
set_option maxRecDepth 20000 in
theorem B_211_471 (hT : yLT T) (hR : yLR R) {x1 : Int} (F : yW l zSS D cy zFk z d 199 0 0 (fun r h' => ∃ r2 I1, r = some (yi r2) ∧ h' = (N, T, R, I1) ∧ ((r2 = 0 → yW l zSS D cy zFk z d 199 0 0 (fun r h' => ∃ r5 I4, r = some (yi r5) ∧ h' = (N, T, R, I4) ∧ ((r5 = 0 → yW l zSS D cy zFk z d 199 0 0 (fun r h' => ∃ r8 I7, r = some (yi r8) ∧ h' = (N, T, R, I7) ∧ ((r8 = 0 → yW l zSS D cy zFk z d 159 0 0 (fun r h' => ∃ r11 I10, r = some (yi r11) ∧ h' = (N, T, R, I10) ∧ ((r11 = 0 ∨ r11 = 1) ∧ K (some (yi r11)) (N, T, R, I10))) 0 0 0 [(0, yr (some 102)), (1, yi 1)] [] (N, T, R, I7)) ∧ (¬ (r8 = 0) → yW l zSS D cy zFk z d 164 0 0 (fun r h' => ∃ r13 I12, r = some (yi r13) ∧ h' = (N, T, R, I12) ∧ ((r13 = 0 → 0 ≤ (yadd 7 (I12 105 6)) ∧ (yadd 7 (I12 105 6)) < 458 ∧ (∀ I17, I17 = yU I12 105 ((yadd 7 (I12 105 6)).toNat) (ynar 1 2) → (∀ I18, I18 = yU I17 105 6 (ynar 1 (yadd (I17 105 6) 1)) → (yW l zSS D cy zFk z d 182 0 0 (fun r h' => ∃ I19, r = none ∧ h' = (N, T, R, I19) ∧ (yW l zSS D cy zFk z (d + 1) 211 bc bs K 0 0 458 [(0, yr (some 102)), (1, yi (yor x1 (yshl 1 2)))] [] (N, T, R, I19))) 0 0 0 [(0, yr (some 102))] [] (N, T, R, I18))))) ∧ (¬ (r13 = 0) → yW l zSS D cy zFk z d 159 0 0 (fun r h' => ∃ r21 I20, r = some (yi r21) ∧ h' = (N, T, R, I20) ∧ ((r21 = 0 ∨ r21 = 1) ∧ K (some (yi r21)) (N, T, R, I20))) 0 0 0 [(0, yr (some 102)), (1, yi 3)] [] (N, T, R, I12)))) 0 0 0 [(0, yi x1), (1, yi 2)] [] (N, T, R, I7)))) 0 0 0 [(0, yr (some 102)), (1, yj 1668246885)] [] (N, T, R, I4)) ∧ (¬ (r5 = 0) → yW l zSS D cy zFk z d 164 0 0 (fun r h' => ∃ r23 I22, r = some (yi r23) ∧ h' = (N, T, R, I22) ∧ ((r23 = 0 → 0 ≤ (yadd 7 (I22 105 6)) ∧ (yadd 7 (I22 105 6)) < 458 ∧ (∀ I27, I27 = yU I22 105 ((yadd 7 (I22 105 6)).toNat) (ynar 1 1) → (∀ I28, I28 = yU I27 105 6 (ynar 1 (yadd (I27 105 6) 1)) → (yW l zSS D cy zFk z d 182 0 0 (fun r h' => ∃ I29, r = none ∧ h' = (N, T, R, I29) ∧ (yW l zSS D cy zFk z (d + 1) 211 bc bs K 0 0 458 [(0, yr (some 102)), (1, yi (yor x1 (yshl 1 1)))] [] (N, T, R, I29))) 0 0 0 [(0, yr (some 102))] [] (N, T, R, I28))))) ∧ (¬ (r23 = 0) → yW l zSS D cy zFk z d 159 0 0 (fun r h' => ∃ r31 I30, r = some (yi r31) ∧ h' = (N, T, R, I30) ∧ ((r31 = 0 ∨ r31 = 1) ∧ K (some (yi r31)) (N, T, R, I30))) 0 0 0 [(0, yr (some 102)), (1, yi 3)] [] (N, T, R, I22)))) 0 0 0 [(0, yi x1), (1, yi 1)] [] (N, T, R, I4)))) 0 0 0 [(0, yr (some 102)), (1, yj 1819238756)] [] (N, T, R, I1)) ∧ (¬ (r2 = 0) → yW l zSS D cy zFk z d 164 0 0 (fun r h' => ∃ r33 I32, r = some (yi r33) ∧ h' = (N, T, R, I32) ∧ ((r33 = 0 → 0 ≤ (yadd 7 (I32 105 6)) ∧ (yadd 7 (I32 105 6)) < 458 ∧ (∀ I37, I37 = yU I32 105 ((yadd 7 (I32 105 6)).toNat) (ynar 1 0) → (∀ I38, I38 = yU I37 105 6 (ynar 1 (yadd (I37 105 6) 1)) → (yW l zSS D cy zFk z d 182 0 0 (fun r h' => ∃ I39, r = none ∧ h' = (N, T, R, I39) ∧ (yW l zSS D cy zFk z (d + 1) 211 bc bs K 0 0 458 [(0, yr (some 102)), (1, yi (yor x1 (yshl 1 0)))] [] (N, T, R, I39))) 0 0 0 [(0, yr (some 102))] [] (N, T, R, I38))))) ∧ (¬ (r33 = 0) → yW l zSS D cy zFk z d 159 0 0 (fun r h' => ∃ r41 I40, r = some (yi r41) ∧ h' = (N, T, R, I40) ∧ ((r41 = 0 ∨ r41 = 1) ∧ K (some (yi r41)) (N, T, R, I40))) 0 0 0 [(0, yr (some 102)), (1, yi 3)] [] (N, T, R, I32)))) 0 0 0 [(0, yi x1), (1, yi 0)] [] (N, T, R, I1)))) 0 0 0 [(0, yr (some 102)), (1, yj 1918987883)] [] (N, T, R, I)) :
    yW l zSS D cy zFk z (d + 1) 211 bc bs K 0 0 471 [(0, yr (some 102)), (1, yi x1)] [] (N, T, R, I) := by
  refine e_12 (f_211 (pc := 471) (e := (471, 12, 0, 0, 0, 0, 0, 472)) rfl) rfl ?_
  refine e_5 (f_211 (pc := 472) (e := (472, 5, 1918987883, 0, 0, 121, 1191, 475)) rfl) (v := 1918987883) rfl ?_
  refine e_130 (f_211 (pc := 475) (e := (475, 130, 199, 0, 11, 204, 1238, 478)) rfl) zA (as := [yr (some 102), yj 1918987883]) (rest := []) rfl rfl rfl rfl (Nat.le_of_ble_eq_true rfl) (Nat.le_of_ble_eq_true rfl) ⟨_, _, _, rfl, (hT 102 rfl)⟩ (mc := 0) (ms := 0) (Nat.zero_le _) (Nat.zero_le _) ?_
  refine e_K ?_ F
  rintro r h' ⟨r2, I1, rfl, rfl, F⟩
  refine e_60 (f_211 (pc := 478) (e := (478, 60, 485, 0, 0, 0, 0, 481)) rfl) (fun c3 => ?_) (fun c3 => ?_)
  · replace F := F.1 c3
    refine e_12 (f_211 (pc := 485) (e := (485, 12, 0, 0, 0, 0, 0, 486)) rfl) rfl ?_
    refine e_5 (f_211 (pc := 486) (e := (486, 5, 1819238756, 0, 0, 123, 1192, 489)) rfl) (v := 1819238756) rfl ?_
    refine e_130 (f_211 (pc := 489) (e := (489, 130, 199, 0, 11, 204, 1238, 492)) rfl) zA (as := [yr (some 102), yj 1819238756]) (rest := []) rfl rfl rfl rfl (Nat.le_of_ble_eq_true rfl) (Nat.le_of_ble_eq_true rfl) ⟨_, _, _, rfl, (hT 102 rfl)⟩ (mc := 0) (ms := 0) (Nat.zero_le _) (Nat.zero_le _) ?_
    refine e_K ?_ F
    rintro r h' ⟨r5, I4, rfl, rfl, F⟩
    refine e_60 (f_211 (pc := 492) (e := (492, 60, 499, 0, 0, 0, 0, 495)) rfl) (fun c6 => ?_) (fun c6 => ?_)
    · replace F := F.1 c6
      refine e_12 (f_211 (pc := 499) (e := (499, 12, 0, 0, 0, 0, 0, 500)) rfl) rfl ?_
      refine e_5 (f_211 (pc := 500) (e := (500, 5, 1668246885, 0, 0, 125, 1193, 503)) rfl) (v := 1668246885) rfl ?_
      refine e_130 (f_211 (pc := 503) (e := (503, 130, 199, 0, 11, 204, 1238, 506)) rfl) zA (as := [yr (some 102), yj 1668246885]) (rest := []) rfl rfl rfl rfl (Nat.le_of_ble_eq_true rfl) (Nat.le_of_ble_eq_true rfl) ⟨_, _, _, rfl, (hT 102 rfl)⟩ (mc := 0) (ms := 0) (Nat.zero_le _) (Nat.zero_le _) ?_
      refine e_K ?_ F
      rintro r h' ⟨r8, I7, rfl, rfl, F⟩
      refine e_60 (f_211 (pc := 506) (e := (506, 60, 513, 0, 0, 0, 0, 509)) rfl) (fun c9 => ?_) (fun c9 => ?_)
      · replace F := F.1 c9
        refine e_0 (f_211 (pc := 513) (e := (513, 0, 4294967295, 0, 0, 0, 0, 514)) rfl) (v := (-1)) rfl ?_
        refine e_20 (f_211 (pc := 514) (e := (514, 20, 2, 0, 0, 0, 0, 515)) rfl) ?_
        refine e_10 (f_211 (pc := 515) (e := (515, 10, 2, 0, 0, 0, 0, 516)) rfl) rfl ?_
        refine e_63 (f_211 (pc := 516) (e := (516, 63, 525, 0, 0, 0, 0, 519)) rfl) (fun g => absurd g (by decide)) (fun _ => ?_)
        refine e_12 (f_211 (pc := 519) (e := (519, 12, 0, 0, 0, 0, 0, 520)) rfl) rfl ?_
        refine e_0 (f_211 (pc := 520) (e := (520, 0, 1, 0, 0, 0, 0, 521)) rfl) (v := 1) rfl ?_
        refine e_130 (f_211 (pc := 521) (e := (521, 130, 159, 0, 11, 187, 1243, 524)) rfl) zA (as := [yr (some 102), yi 1]) (rest := []) rfl rfl rfl rfl (Nat.le_of_ble_eq_true rfl) (Nat.le_of_ble_eq_true rfl) ⟨_, _, _, rfl, (hT 102 rfl)⟩ (mc := 0) (ms := 0) (Nat.zero_le _) (Nat.zero_le _) ?_
        refine e_K ?_ F
        rintro r h' ⟨r11, I10, rfl, rfl, F⟩
        exact e_121 (f_211 (pc := 524) (e := (524, 121, 0, 0, 0, 0, 0, 525)) rfl) F.1 F.2
      · replace F := F.2 c9
        refine e_0 (f_211 (pc := 509) (e := (509, 0, 2, 0, 0, 0, 0, 510)) rfl) (v := 2) rfl ?_
        refine e_80 (f_211 (pc := 510) (e := (510, 80, 514, 0, 0, 0, 0, 513)) rfl) ?_
        refine e_20 (f_211 (pc := 514) (e := (514, 20, 2, 0, 0, 0, 0, 515)) rfl) ?_
        refine e_10 (f_211 (pc := 515) (e := (515, 10, 2, 0, 0, 0, 0, 516)) rfl) rfl ?_
        refine e_63 (f_211 (pc := 516) (e := (516, 63, 525, 0, 0, 0, 0, 519)) rfl) (fun _ => ?_) (fun g => absurd (by decide) g)
        refine e_10 (f_211 (pc := 525) (e := (525, 10, 1, 0, 0, 0, 0, 526)) rfl) rfl ?_
        refine e_10 (f_211 (pc := 526) (e := (526, 10, 2, 0, 0, 0, 0, 527)) rfl) rfl ?_
        refine e_132 (f_211 (pc := 527) (e := (527, 132, 164, 2, 11, 238, 1207, 530)) rfl) zA (as := [yi x1, yi 2]) (rest := []) rfl rfl rfl rfl (Nat.le_of_ble_eq_true rfl) (Nat.le_of_ble_eq_true rfl) (mc := 0) (ms := 0) (Nat.zero_le _) (Nat.zero_le _) ?_
        refine e_K ?_ F
        rintro r h' ⟨r13, I12, rfl, rfl, F⟩
        refine e_60 (f_211 (pc := 530) (e := (530, 60, 539, 0, 0, 0, 0, 533)) rfl) (fun c14 => ?_) (fun c14 => ?_)
        · replace F := F.1 c14
          refine e_10 (f_211 (pc := 539) (e := (539, 10, 1, 0, 0, 0, 0, 540)) rfl) rfl ?_
          refine e_0 (f_211 (pc := 540) (e := (540, 0, 1, 0, 0, 0, 0, 541)) rfl) (v := 1) rfl ?_
          refine e_10 (f_211 (pc := 541) (e := (541, 10, 2, 0, 0, 0, 0, 542)) rfl) rfl ?_
          refine e_38 (f_211 (pc := 542) (e := (542, 38, 0, 0, 0, 0, 0, 543)) rfl) ?_
          refine e_36 (f_211 (pc := 543) (e := (543, 36, 0, 0, 0, 0, 0, 544)) rfl) ?_
          refine e_20 (f_211 (pc := 544) (e := (544, 20, 1, 0, 0, 0, 0, 545)) rfl) ?_
          refine e_12 (f_211 (pc := 545) (e := (545, 12, 0, 0, 0, 0, 0, 546)) rfl) rfl ?_
          refine e_90r zA (f_211 (pc := 546) (e := (546, 90, 11, 7, 3, 37, 1160, 549)) rfl) rfl (hT 102 rfl) rfl rfl (hR 102 7 rfl) ?_
          refine e_1 (f_211 (pc := 549) (e := (549, 1, 7, 0, 0, 0, 0, 551)) rfl) (v := 7) rfl ?_
          refine e_12 (f_211 (pc := 551) (e := (551, 12, 0, 0, 0, 0, 0, 552)) rfl) rfl ?_
          refine e_90r zA (f_211 (pc := 552) (e := (552, 90, 11, 7, 3, 37, 1160, 555)) rfl) rfl (hT 102 rfl) rfl rfl (hR 102 7 rfl) ?_
          refine e_1 (f_211 (pc := 555) (e := (555, 1, 6, 0, 0, 0, 0, 557)) rfl) (v := 6) rfl ?_
          refine e_110 (f_211 (pc := 557) (e := (557, 110, 0, 0, 0, 0, 0, 558)) rfl) rfl (hT 105 rfl) (by decide) (by decide) ?_
          refine e_30 (f_211 (pc := 558) (e := (558, 30, 0, 0, 0, 0, 0, 559)) rfl) ?_
          refine e_10 (f_211 (pc := 559) (e := (559, 10, 2, 0, 0, 0, 0, 560)) rfl) rfl ?_
          obtain ⟨b15, b16, F⟩ := F
          refine e_111 (f_211 (pc := 560) (e := (560, 111, 0, 0, 0, 0, 0, 561)) rfl) rfl (hT 105 rfl) b15 b16 ?_
          replace F := F _ rfl
          refine e_12 (f_211 (pc := 561) (e := (561, 12, 0, 0, 0, 0, 0, 562)) rfl) rfl ?_
          refine e_90r zA (f_211 (pc := 562) (e := (562, 90, 11, 7, 3, 37, 1160, 565)) rfl) rfl (hT 102 rfl) rfl rfl (hR 102 7 rfl) ?_
          refine e_1 (f_211 (pc := 565) (e := (565, 1, 6, 0, 0, 0, 0, 567)) rfl) (v := 6) rfl ?_
          refine e_51 (f_211 (pc := 567) (e := (567, 51, 0, 0, 0, 0, 0, 568)) rfl) rfl rfl ?_
          refine e_110 (f_211 (pc := 568) (e := (568, 110, 0, 0, 0, 0, 0, 569)) rfl) rfl (hT 105 rfl) (by decide) (by decide) ?_
          refine e_0 (f_211 (pc := 569) (e := (569, 0, 1, 0, 0, 0, 0, 570)) rfl) (v := 1) rfl ?_
          refine e_30 (f_211 (pc := 570) (e := (570, 30, 0, 0, 0, 0, 0, 571)) rfl) ?_
          refine e_111 (f_211 (pc := 571) (e := (571, 111, 0, 0, 0, 0, 0, 572)) rfl) rfl (hT 105 rfl) (by decide) (by decide) ?_
          replace F := F _ rfl
          refine e_12 (f_211 (pc := 572) (e := (572, 12, 0, 0, 0, 0, 0, 573)) rfl) rfl ?_
          refine e_130 (f_211 (pc := 573) (e := (573, 130, 182, 0, 11, 190, 1224, 576)) rfl) zA (as := [yr (some 102)]) (rest := []) rfl rfl rfl rfl (Nat.le_of_ble_eq_true rfl) (Nat.le_of_ble_eq_true rfl) ⟨_, _, _, rfl, (hT 102 rfl)⟩ (mc := 0) (ms := 0) (Nat.zero_le _) (Nat.zero_le _) ?_
          refine e_K ?_ F
          rintro r h' ⟨I19, rfl, rfl, F⟩
          refine e_80 (f_211 (pc := 576) (e := (576, 80, 458, 0, 0, 0, 0, 579)) rfl) ?_
          refine e_lo [0, 1] rfl ?_
          exact F
        · replace F := F.2 c14
          refine e_12 (f_211 (pc := 533) (e := (533, 12, 0, 0, 0, 0, 0, 534)) rfl) rfl ?_
          refine e_0 (f_211 (pc := 534) (e := (534, 0, 3, 0, 0, 0, 0, 535)) rfl) (v := 3) rfl ?_
          refine e_130 (f_211 (pc := 535) (e := (535, 130, 159, 0, 11, 187, 1243, 538)) rfl) zA (as := [yr (some 102), yi 3]) (rest := []) rfl rfl rfl rfl (Nat.le_of_ble_eq_true rfl) (Nat.le_of_ble_eq_true rfl) ⟨_, _, _, rfl, (hT 102 rfl)⟩ (mc := 0) (ms := 0) (Nat.zero_le _) (Nat.zero_le _) ?_
          refine e_K ?_ F
          rintro r h' ⟨r21, I20, rfl, rfl, F⟩
          exact e_121 (f_211 (pc := 538) (e := (538, 121, 0, 0, 0, 0, 0, 539)) rfl) F.1 F.2
    · replace F := F.2 c6
      refine e_0 (f_211 (pc := 495) (e := (495, 0, 1, 0, 0, 0, 0, 496)) rfl) (v := 1) rfl ?_
      refine e_80 (f_211 (pc := 496) (e := (496, 80, 514, 0, 0, 0, 0, 499)) rfl) ?_
      refine e_20 (f_211 (pc := 514) (e := (514, 20, 2, 0, 0, 0, 0, 515)) rfl) ?_
      refine e_10 (f_211 (pc := 515) (e := (515, 10, 2, 0, 0, 0, 0, 516)) rfl) rfl ?_
      refine e_63 (f_211 (pc := 516) (e := (516, 63, 525, 0, 0, 0, 0, 519)) rfl) (fun _ => ?_) (fun g => absurd (by decide) g)
      refine e_10 (f_211 (pc := 525) (e := (525, 10, 1, 0, 0, 0, 0, 526)) rfl) rfl ?_
      refine e_10 (f_211 (pc := 526) (e := (526, 10, 2, 0, 0, 0, 0, 527)) rfl) rfl ?_
      refine e_132 (f_211 (pc := 527) (e := (527, 132, 164, 2, 11, 238, 1207, 530)) rfl) zA (as := [yi x1, yi 1]) (rest := []) rfl rfl rfl rfl (Nat.le_of_ble_eq_true rfl) (Nat.le_of_ble_eq_true rfl) (mc := 0) (ms := 0) (Nat.zero_le _) (Nat.zero_le _) ?_
      refine e_K ?_ F
      rintro r h' ⟨r23, I22, rfl, rfl, F⟩
      refine e_60 (f_211 (pc := 530) (e := (530, 60, 539, 0, 0, 0, 0, 533)) rfl) (fun c24 => ?_) (fun c24 => ?_)
      · replace F := F.1 c24
        refine e_10 (f_211 (pc := 539) (e := (539, 10, 1, 0, 0, 0, 0, 540)) rfl) rfl ?_
        refine e_0 (f_211 (pc := 540) (e := (540, 0, 1, 0, 0, 0, 0, 541)) rfl) (v := 1) rfl ?_
        refine e_10 (f_211 (pc := 541) (e := (541, 10, 2, 0, 0, 0, 0, 542)) rfl) rfl ?_
        refine e_38 (f_211 (pc := 542) (e := (542, 38, 0, 0, 0, 0, 0, 543)) rfl) ?_
        refine e_36 (f_211 (pc := 543) (e := (543, 36, 0, 0, 0, 0, 0, 544)) rfl) ?_
        refine e_20 (f_211 (pc := 544) (e := (544, 20, 1, 0, 0, 0, 0, 545)) rfl) ?_
        refine e_12 (f_211 (pc := 545) (e := (545, 12, 0, 0, 0, 0, 0, 546)) rfl) rfl ?_
        refine e_90r zA (f_211 (pc := 546) (e := (546, 90, 11, 7, 3, 37, 1160, 549)) rfl) rfl (hT 102 rfl) rfl rfl (hR 102 7 rfl) ?_
        refine e_1 (f_211 (pc := 549) (e := (549, 1, 7, 0, 0, 0, 0, 551)) rfl) (v := 7) rfl ?_
        refine e_12 (f_211 (pc := 551) (e := (551, 12, 0, 0, 0, 0, 0, 552)) rfl) rfl ?_
        refine e_90r zA (f_211 (pc := 552) (e := (552, 90, 11, 7, 3, 37, 1160, 555)) rfl) rfl (hT 102 rfl) rfl rfl (hR 102 7 rfl) ?_
        refine e_1 (f_211 (pc := 555) (e := (555, 1, 6, 0, 0, 0, 0, 557)) rfl) (v := 6) rfl ?_
        refine e_110 (f_211 (pc := 557) (e := (557, 110, 0, 0, 0, 0, 0, 558)) rfl) rfl (hT 105 rfl) (by decide) (by decide) ?_
        refine e_30 (f_211 (pc := 558) (e := (558, 30, 0, 0, 0, 0, 0, 559)) rfl) ?_
        refine e_10 (f_211 (pc := 559) (e := (559, 10, 2, 0, 0, 0, 0, 560)) rfl) rfl ?_
        obtain ⟨b25, b26, F⟩ := F
        refine e_111 (f_211 (pc := 560) (e := (560, 111, 0, 0, 0, 0, 0, 561)) rfl) rfl (hT 105 rfl) b25 b26 ?_
        replace F := F _ rfl
        refine e_12 (f_211 (pc := 561) (e := (561, 12, 0, 0, 0, 0, 0, 562)) rfl) rfl ?_
        refine e_90r zA (f_211 (pc := 562) (e := (562, 90, 11, 7, 3, 37, 1160, 565)) rfl) rfl (hT 102 rfl) rfl rfl (hR 102 7 rfl) ?_
        refine e_1 (f_211 (pc := 565) (e := (565, 1, 6, 0, 0, 0, 0, 567)) rfl) (v := 6) rfl ?_
        refine e_51 (f_211 (pc := 567) (e := (567, 51, 0, 0, 0, 0, 0, 568)) rfl) rfl rfl ?_
        refine e_110 (f_211 (pc := 568) (e := (568, 110, 0, 0, 0, 0, 0, 569)) rfl) rfl (hT 105 rfl) (by decide) (by decide) ?_
        refine e_0 (f_211 (pc := 569) (e := (569, 0, 1, 0, 0, 0, 0, 570)) rfl) (v := 1) rfl ?_
        refine e_30 (f_211 (pc := 570) (e := (570, 30, 0, 0, 0, 0, 0, 571)) rfl) ?_
        refine e_111 (f_211 (pc := 571) (e := (571, 111, 0, 0, 0, 0, 0, 572)) rfl) rfl (hT 105 rfl) (by decide) (by decide) ?_
        replace F := F _ rfl
        refine e_12 (f_211 (pc := 572) (e := (572, 12, 0, 0, 0, 0, 0, 573)) rfl) rfl ?_
        refine e_130 (f_211 (pc := 573) (e := (573, 130, 182, 0, 11, 190, 1224, 576)) rfl) zA (as := [yr (some 102)]) (rest := []) rfl rfl rfl rfl (Nat.le_of_ble_eq_true rfl) (Nat.le_of_ble_eq_true rfl) ⟨_, _, _, rfl, (hT 102 rfl)⟩ (mc := 0) (ms := 0) (Nat.zero_le _) (Nat.zero_le _) ?_
        refine e_K ?_ F
        rintro r h' ⟨I29, rfl, rfl, F⟩
        refine e_80 (f_211 (pc := 576) (e := (576, 80, 458, 0, 0, 0, 0, 579)) rfl) ?_
        refine e_lo [0, 1] rfl ?_
        exact F
      · replace F := F.2 c24
        refine e_12 (f_211 (pc := 533) (e := (533, 12, 0, 0, 0, 0, 0, 534)) rfl) rfl ?_
        refine e_0 (f_211 (pc := 534) (e := (534, 0, 3, 0, 0, 0, 0, 535)) rfl) (v := 3) rfl ?_
        refine e_130 (f_211 (pc := 535) (e := (535, 130, 159, 0, 11, 187, 1243, 538)) rfl) zA (as := [yr (some 102), yi 3]) (rest := []) rfl rfl rfl rfl (Nat.le_of_ble_eq_true rfl) (Nat.le_of_ble_eq_true rfl) ⟨_, _, _, rfl, (hT 102 rfl)⟩ (mc := 0) (ms := 0) (Nat.zero_le _) (Nat.zero_le _) ?_
        refine e_K ?_ F
        rintro r h' ⟨r31, I30, rfl, rfl, F⟩
        exact e_121 (f_211 (pc := 538) (e := (538, 121, 0, 0, 0, 0, 0, 539)) rfl) F.1 F.2
  · replace F := F.2 c3
    refine e_0 (f_211 (pc := 481) (e := (481, 0, 0, 0, 0, 0, 0, 482)) rfl) (v := 0) rfl ?_
    refine e_80 (f_211 (pc := 482) (e := (482, 80, 514, 0, 0, 0, 0, 485)) rfl) ?_
    refine e_20 (f_211 (pc := 514) (e := (514, 20, 2, 0, 0, 0, 0, 515)) rfl) ?_
    refine e_10 (f_211 (pc := 515) (e := (515, 10, 2, 0, 0, 0, 0, 516)) rfl) rfl ?_
    refine e_63 (f_211 (pc := 516) (e := (516, 63, 525, 0, 0, 0, 0, 519)) rfl) (fun _ => ?_) (fun g => absurd (by decide) g)
    refine e_10 (f_211 (pc := 525) (e := (525, 10, 1, 0, 0, 0, 0, 526)) rfl) rfl ?_
    refine e_10 (f_211 (pc := 526) (e := (526, 10, 2, 0, 0, 0, 0, 527)) rfl) rfl ?_
    refine e_132 (f_211 (pc := 527) (e := (527, 132, 164, 2, 11, 238, 1207, 530)) rfl) zA (as := [yi x1, yi 0]) (rest := []) rfl rfl rfl rfl (Nat.le_of_ble_eq_true rfl) (Nat.le_of_ble_eq_true rfl) (mc := 0) (ms := 0) (Nat.zero_le _) (Nat.zero_le _) ?_
    refine e_K ?_ F
    rintro r h' ⟨r33, I32, rfl, rfl, F⟩
    refine e_60 (f_211 (pc := 530) (e := (530, 60, 539, 0, 0, 0, 0, 533)) rfl) (fun c34 => ?_) (fun c34 => ?_)
    · replace F := F.1 c34
      refine e_10 (f_211 (pc := 539) (e := (539, 10, 1, 0, 0, 0, 0, 540)) rfl) rfl ?_
      refine e_0 (f_211 (pc := 540) (e := (540, 0, 1, 0, 0, 0, 0, 541)) rfl) (v := 1) rfl ?_
      refine e_10 (f_211 (pc := 541) (e := (541, 10, 2, 0, 0, 0, 0, 542)) rfl) rfl ?_
      refine e_38 (f_211 (pc := 542) (e := (542, 38, 0, 0, 0, 0, 0, 543)) rfl) ?_
      refine e_36 (f_211 (pc := 543) (e := (543, 36, 0, 0, 0, 0, 0, 544)) rfl) ?_
      refine e_20 (f_211 (pc := 544) (e := (544, 20, 1, 0, 0, 0, 0, 545)) rfl) ?_
      refine e_12 (f_211 (pc := 545) (e := (545, 12, 0, 0, 0, 0, 0, 546)) rfl) rfl ?_
      refine e_90r zA (f_211 (pc := 546) (e := (546, 90, 11, 7, 3, 37, 1160, 549)) rfl) rfl (hT 102 rfl) rfl rfl (hR 102 7 rfl) ?_
      refine e_1 (f_211 (pc := 549) (e := (549, 1, 7, 0, 0, 0, 0, 551)) rfl) (v := 7) rfl ?_
      refine e_12 (f_211 (pc := 551) (e := (551, 12, 0, 0, 0, 0, 0, 552)) rfl) rfl ?_
      refine e_90r zA (f_211 (pc := 552) (e := (552, 90, 11, 7, 3, 37, 1160, 555)) rfl) rfl (hT 102 rfl) rfl rfl (hR 102 7 rfl) ?_
      refine e_1 (f_211 (pc := 555) (e := (555, 1, 6, 0, 0, 0, 0, 557)) rfl) (v := 6) rfl ?_
      refine e_110 (f_211 (pc := 557) (e := (557, 110, 0, 0, 0, 0, 0, 558)) rfl) rfl (hT 105 rfl) (by decide) (by decide) ?_
      refine e_30 (f_211 (pc := 558) (e := (558, 30, 0, 0, 0, 0, 0, 559)) rfl) ?_
      refine e_10 (f_211 (pc := 559) (e := (559, 10, 2, 0, 0, 0, 0, 560)) rfl) rfl ?_
      obtain ⟨b35, b36, F⟩ := F
      refine e_111 (f_211 (pc := 560) (e := (560, 111, 0, 0, 0, 0, 0, 561)) rfl) rfl (hT 105 rfl) b35 b36 ?_
      replace F := F _ rfl
      refine e_12 (f_211 (pc := 561) (e := (561, 12, 0, 0, 0, 0, 0, 562)) rfl) rfl ?_
      refine e_90r zA (f_211 (pc := 562) (e := (562, 90, 11, 7, 3, 37, 1160, 565)) rfl) rfl (hT 102 rfl) rfl rfl (hR 102 7 rfl) ?_
      refine e_1 (f_211 (pc := 565) (e := (565, 1, 6, 0, 0, 0, 0, 567)) rfl) (v := 6) rfl ?_
      refine e_51 (f_211 (pc := 567) (e := (567, 51, 0, 0, 0, 0, 0, 568)) rfl) rfl rfl ?_
      refine e_110 (f_211 (pc := 568) (e := (568, 110, 0, 0, 0, 0, 0, 569)) rfl) rfl (hT 105 rfl) (by decide) (by decide) ?_
      refine e_0 (f_211 (pc := 569) (e := (569, 0, 1, 0, 0, 0, 0, 570)) rfl) (v := 1) rfl ?_
      refine e_30 (f_211 (pc := 570) (e := (570, 30, 0, 0, 0, 0, 0, 571)) rfl) ?_
      refine e_111 (f_211 (pc := 571) (e := (571, 111, 0, 0, 0, 0, 0, 572)) rfl) rfl (hT 105 rfl) (by decide) (by decide) ?_
      replace F := F _ rfl
      refine e_12 (f_211 (pc := 572) (e := (572, 12, 0, 0, 0, 0, 0, 573)) rfl) rfl ?_
      refine e_130 (f_211 (pc := 573) (e := (573, 130, 182, 0, 11, 190, 1224, 576)) rfl) zA (as := [yr (some 102)]) (rest := []) rfl rfl rfl rfl (Nat.le_of_ble_eq_true rfl) (Nat.le_of_ble_eq_true rfl) ⟨_, _, _, rfl, (hT 102 rfl)⟩ (mc := 0) (ms := 0) (Nat.zero_le _) (Nat.zero_le _) ?_
      refine e_K ?_ F
      rintro r h' ⟨I39, rfl, rfl, F⟩
      refine e_80 (f_211 (pc := 576) (e := (576, 80, 458, 0, 0, 0, 0, 579)) rfl) ?_
      refine e_lo [0, 1] rfl ?_
      exact F
    · replace F := F.2 c34
      refine e_12 (f_211 (pc := 533) (e := (533, 12, 0, 0, 0, 0, 0, 534)) rfl) rfl ?_
      refine e_0 (f_211 (pc := 534) (e := (534, 0, 3, 0, 0, 0, 0, 535)) rfl) (v := 3) rfl ?_
      refine e_130 (f_211 (pc := 535) (e := (535, 130, 159, 0, 11, 187, 1243, 538)) rfl) zA (as := [yr (some 102), yi 3]) (rest := []) rfl rfl rfl rfl (Nat.le_of_ble_eq_true rfl) (Nat.le_of_ble_eq_true rfl) ⟨_, _, _, rfl, (hT 102 rfl)⟩ (mc := 0) (ms := 0) (Nat.zero_le _) (Nat.zero_le _) ?_
      refine e_K ?_ F
      rintro r h' ⟨r41, I40, rfl, rfl, F⟩
      exact e_121 (f_211 (pc := 538) (e := (538, 121, 0, 0, 0, 0, 0, 539)) rfl) F.1 F.2

/-! looksAtCell()Z -/
set_option maxRecDepth 20000 in
theorem B_212_0 (hT : yLT T) (hR : yLR R) (F : yW l zSS D cy zFk z d 245 0 0 (fun r h' => ∃ r2 I1, r = some (yi r2) ∧ h' = (N, T, R, I1) ∧ ((r2 ≠ 0 → ((I1 102 11) = 2 → ((I1 102 14) < (I1 105 1) → ∀ I6, I6 = yU I1 102 18 (yadd (ymul 10 (I1 102 14)) (I1 102 18)) → (K (some (yi 1)) (N, T, R, I6))) ∧ (¬ ((I1 102 14) < (I1 105 1)) → yW l zSS D cy zFk z d 159 0 0 (fun r h' => ∃ r8 I7, r = some (yi r8) ∧ h' = (N, T, R, I7) ∧ ((r8 = 0 ∨ r8 = 1) ∧ K (some (yi r8)) (N, T, R, I7))) 0 0 0 [(0, yr (some 102)), (1, yi 2)] [] (N, T, R, I1))) ∧ (¬ ((I1 102 11) = 2) → yW l zSS D cy zFk z d 159 0 0 (fun r h' => ∃ r10 I9, r = some (yi r10) ∧ h' = (N, T, R, I9) ∧ ((r10 = 0 ∨ r10 = 1) ∧ K (some (yi r10)) (N, T, R, I9))) 0 0 0 [(0, yr (some 102)), (1, yi 1)] [] (N, T, R, I1))) ∧ (¬ (r2 ≠ 0) → K (some (yi 0)) (N, T, R, I1)))) 0 0 0 [(0, yr (some 102)), (1, yi 0), (2, yi (ysub (I 105 0) 1))] [] (N, T, R, I)) :
    yW l zSS D cy zFk z (d + 1) 212 bc bs K 0 0 0 [(0, yr (some 102))] [] (N, T, R, I) := by
  refine e_12 (f_212 (pc := 0) (e := (0, 12, 0, 0, 0, 0, 0, 1)) rfl) rfl ?_
  refine e_0 (f_212 (pc := 1) (e := (1, 0, 0, 0, 0, 0, 0, 2)) rfl) (v := 0) rfl ?_
  refine e_12 (f_212 (pc := 2) (e := (2, 12, 0, 0, 0, 0, 0, 3)) rfl) rfl ?_
  refine e_90r zA (f_212 (pc := 3) (e := (3, 90, 11, 7, 3, 37, 1160, 6)) rfl) rfl (hT 102 rfl) rfl rfl (hR 102 7 rfl) ?_
  refine e_0 (f_212 (pc := 6) (e := (6, 0, 0, 0, 0, 0, 0, 7)) rfl) (v := 0) rfl ?_
  refine e_110 (f_212 (pc := 7) (e := (7, 110, 0, 0, 0, 0, 0, 8)) rfl) rfl (hT 105 rfl) (by decide) (by decide) ?_
  refine e_0 (f_212 (pc := 8) (e := (8, 0, 1, 0, 0, 0, 0, 9)) rfl) (v := 1) rfl ?_
  refine e_31 (f_212 (pc := 9) (e := (9, 31, 0, 0, 0, 0, 0, 10)) rfl) ?_
  refine e_130 (f_212 (pc := 10) (e := (10, 130, 245, 0, 11, 200, 1280, 13)) rfl) zA (as := [yr (some 102), yi 0, yi _]) (rest := []) rfl rfl rfl rfl (Nat.le_of_ble_eq_true rfl) (Nat.le_of_ble_eq_true rfl) ⟨_, _, _, rfl, (hT 102 rfl)⟩ (mc := 0) (ms := 0) (Nat.zero_le _) (Nat.zero_le _) ?_
  refine e_K ?_ F
  rintro r h' ⟨r2, I1, rfl, rfl, F⟩
  refine e_61 (f_212 (pc := 13) (e := (13, 61, 18, 0, 0, 0, 0, 16)) rfl) (fun c3 => ?_) (fun c3 => ?_)
  · replace F := F.1 c3
    refine e_12 (f_212 (pc := 18) (e := (18, 12, 0, 0, 0, 0, 0, 19)) rfl) rfl ?_
    refine e_90 zA (f_212 (pc := 19) (e := (19, 90, 11, 18, 0, 197, 1281, 22)) rfl) rfl (hT 102 rfl) rfl rfl ?_
    refine e_20 (f_212 (pc := 22) (e := (22, 20, 1, 0, 0, 0, 0, 23)) rfl) ?_
    refine e_12 (f_212 (pc := 23) (e := (23, 12, 0, 0, 0, 0, 0, 24)) rfl) rfl ?_
    refine e_90 zA (f_212 (pc := 24) (e := (24, 90, 11, 11, 0, 161, 1225, 27)) rfl) rfl (hT 102 rfl) rfl rfl ?_
    refine e_0 (f_212 (pc := 27) (e := (27, 0, 2, 0, 0, 0, 0, 28)) rfl) (v := 2) rfl ?_
    refine e_70 (f_212 (pc := 28) (e := (28, 70, 37, 0, 0, 0, 0, 31)) rfl) (fun c4 => ?_) (fun c4 => ?_)
    · replace F := F.1 c4
      refine e_12 (f_212 (pc := 37) (e := (37, 12, 0, 0, 0, 0, 0, 38)) rfl) rfl ?_
      refine e_90 zA (f_212 (pc := 38) (e := (38, 90, 11, 14, 0, 171, 1266, 41)) rfl) rfl (hT 102 rfl) rfl rfl ?_
      refine e_12 (f_212 (pc := 41) (e := (41, 12, 0, 0, 0, 0, 0, 42)) rfl) rfl ?_
      refine e_90r zA (f_212 (pc := 42) (e := (42, 90, 11, 7, 3, 37, 1160, 45)) rfl) rfl (hT 102 rfl) rfl rfl (hR 102 7 rfl) ?_
      refine e_0 (f_212 (pc := 45) (e := (45, 0, 1, 0, 0, 0, 0, 46)) rfl) (v := 1) rfl ?_
      refine e_110 (f_212 (pc := 46) (e := (46, 110, 0, 0, 0, 0, 0, 47)) rfl) rfl (hT 105 rfl) (by decide) (by decide) ?_
      refine e_72 (f_212 (pc := 47) (e := (47, 72, 56, 0, 0, 0, 0, 50)) rfl) (fun c5 => ?_) (fun c5 => ?_)
      · replace F := F.1 c5
        refine e_12 (f_212 (pc := 56) (e := (56, 12, 0, 0, 0, 0, 0, 57)) rfl) rfl ?_
        refine e_1 (f_212 (pc := 57) (e := (57, 1, 10, 0, 0, 0, 0, 59)) rfl) (v := 10) rfl ?_
        refine e_12 (f_212 (pc := 59) (e := (59, 12, 0, 0, 0, 0, 0, 60)) rfl) rfl ?_
        refine e_90 zA (f_212 (pc := 60) (e := (60, 90, 11, 14, 0, 171, 1266, 63)) rfl) rfl (hT 102 rfl) rfl rfl ?_
        refine e_32 (f_212 (pc := 63) (e := (63, 32, 0, 0, 0, 0, 0, 64)) rfl) ?_
        refine e_10 (f_212 (pc := 64) (e := (64, 10, 1, 0, 0, 0, 0, 65)) rfl) rfl ?_
        refine e_30 (f_212 (pc := 65) (e := (65, 30, 0, 0, 0, 0, 0, 66)) rfl) ?_
        refine e_91 zA (f_212 (pc := 66) (e := (66, 91, 11, 18, 0, 197, 1281, 69)) rfl) rfl (hT 102 rfl) rfl rfl trivial ?_
        replace F := F _ rfl
        refine e_0 (f_212 (pc := 69) (e := (69, 0, 1, 0, 0, 0, 0, 70)) rfl) (v := 1) rfl ?_
        exact e_121 (f_212 (pc := 70) (e := (70, 121, 0, 0, 0, 0, 0, 0)) rfl) (.inr rfl) F
      · replace F := F.2 c5
        refine e_12 (f_212 (pc := 50) (e := (50, 12, 0, 0, 0, 0, 0, 51)) rfl) rfl ?_
        refine e_0 (f_212 (pc := 51) (e := (51, 0, 2, 0, 0, 0, 0, 52)) rfl) (v := 2) rfl ?_
        refine e_130 (f_212 (pc := 52) (e := (52, 130, 159, 0, 11, 187, 1243, 55)) rfl) zA (as := [yr (some 102), yi 2]) (rest := []) rfl rfl rfl rfl (Nat.le_of_ble_eq_true rfl) (Nat.le_of_ble_eq_true rfl) ⟨_, _, _, rfl, (hT 102 rfl)⟩ (mc := 0) (ms := 0) (Nat.zero_le _) (Nat.zero_le _) ?_
        refine e_K ?_ F
        rintro r h' ⟨r8, I7, rfl, rfl, F⟩
        exact e_121 (f_212 (pc := 55) (e := (55, 121, 0, 0, 0, 0, 0, 56)) rfl) F.1 F.2
    · replace F := F.2 c4
      refine e_12 (f_212 (pc := 31) (e := (31, 12, 0, 0, 0, 0, 0, 32)) rfl) rfl ?_
      refine e_0 (f_212 (pc := 32) (e := (32, 0, 1, 0, 0, 0, 0, 33)) rfl) (v := 1) rfl ?_
      refine e_130 (f_212 (pc := 33) (e := (33, 130, 159, 0, 11, 187, 1243, 36)) rfl) zA (as := [yr (some 102), yi 1]) (rest := []) rfl rfl rfl rfl (Nat.le_of_ble_eq_true rfl) (Nat.le_of_ble_eq_true rfl) ⟨_, _, _, rfl, (hT 102 rfl)⟩ (mc := 0) (ms := 0) (Nat.zero_le _) (Nat.zero_le _) ?_
      refine e_K ?_ F
      rintro r h' ⟨r10, I9, rfl, rfl, F⟩
      exact e_121 (f_212 (pc := 36) (e := (36, 121, 0, 0, 0, 0, 0, 37)) rfl) F.1 F.2
  · replace F := F.2 c3
    refine e_0 (f_212 (pc := 16) (e := (16, 0, 0, 0, 0, 0, 0, 17)) rfl) (v := 0) rfl ?_
    exact e_121 (f_212 (pc := 17) (e := (17, 121, 0, 0, 0, 0, 0, 18)) rfl) (.inl rfl) F

/-! meets(IIII)V -/
set_option maxRecDepth 20000 in
theorem B_213_0 (hT : yLT T) (hR : yLR R) {x1 x2 x3 x4 : Int} (F : ∀ I1, I1 = yU I 104 459 (ynar 1 (yadd (I 104 459) 1)) → (((I1 104 461) ≠ 60 → 0 ≤ (yadd 626 (ymul 5 (I1 104 461))) ∧ (yadd 626 (ymul 5 (I1 104 461))) < 1188 ∧ (∀ I5, I5 = yU I1 104 ((yadd 626 (ymul 5 (I1 104 461))).toNat) (ynar 1 (I1 104 458)) → (0 ≤ (yadd (yadd 626 (ymul 5 (I1 104 461))) 1) ∧ (yadd (yadd 626 (ymul 5 (I1 104 461))) 1) < 1188 ∧ (∀ I8, I8 = yU I5 104 ((yadd (yadd 626 (ymul 5 (I1 104 461))) 1).toNat) (ynar 1 x1) → (0 ≤ (yadd (yadd 626 (ymul 5 (I1 104 461))) 2) ∧ (yadd (yadd 626 (ymul 5 (I1 104 461))) 2) < 1188 ∧ (∀ I11, I11 = yU I8 104 ((yadd (yadd 626 (ymul 5 (I1 104 461))) 2).toNat) (ynar 1 x2) → (0 ≤ (yadd (yadd 626 (ymul 5 (I1 104 461))) 3) ∧ (yadd (yadd 626 (ymul 5 (I1 104 461))) 3) < 1188 ∧ (∀ I14, I14 = yU I11 104 ((yadd (yadd 626 (ymul 5 (I1 104 461))) 3).toNat) (ynar 1 x3) → (0 ≤ (yadd (yadd 626 (ymul 5 (I1 104 461))) 4) ∧ (yadd (yadd 626 (ymul 5 (I1 104 461))) 4) < 1188 ∧ (∀ I17, I17 = yU I14 104 ((yadd (yadd 626 (ymul 5 (I1 104 461))) 4).toNat) (ynar 1 x4) → (∀ I18, I18 = yU I17 104 461 (ynar 1 (yadd (I17 104 461) 1)) → (K none (N, T, R, I18))))))))))))) ∧ (¬ ((I1 104 461) ≠ 60) → K none (N, T, R, I1)))) :
    yW l zSS D cy zFk z d 213 bc bs K 0 0 0 [(0, yr (some 102)), (1, yi x1), (2, yi x2), (3, yi x3), (4, yi x4)] [] (N, T, R, I) := by
  refine e_12 (f_213 (pc := 0) (e := (0, 12, 0, 0, 0, 0, 0, 1)) rfl) rfl ?_
  refine e_90r zA (f_213 (pc := 1) (e := (1, 90, 11, 6, 3, 33, 1159, 4)) rfl) rfl (hT 102 rfl) rfl rfl (hR 102 6 rfl) ?_
  refine e_2 (f_213 (pc := 4) (e := (4, 2, 459, 0, 0, 0, 0, 7)) rfl) (v := 459) rfl ?_
  refine e_51 (f_213 (pc := 7) (e := (7, 51, 0, 0, 0, 0, 0, 8)) rfl) rfl rfl ?_
  refine e_110 (f_213 (pc := 8) (e := (8, 110, 0, 0, 0, 0, 0, 9)) rfl) rfl (hT 104 rfl) (by decide) (by decide) ?_
  refine e_0 (f_213 (pc := 9) (e := (9, 0, 1, 0, 0, 0, 0, 10)) rfl) (v := 1) rfl ?_
  refine e_30 (f_213 (pc := 10) (e := (10, 30, 0, 0, 0, 0, 0, 11)) rfl) ?_
  refine e_111 (f_213 (pc := 11) (e := (11, 111, 0, 0, 0, 0, 0, 12)) rfl) rfl (hT 104 rfl) (by decide) (by decide) ?_
  replace F := F _ rfl
  refine e_12 (f_213 (pc := 12) (e := (12, 12, 0, 0, 0, 0, 0, 13)) rfl) rfl ?_
  refine e_90r zA (f_213 (pc := 13) (e := (13, 90, 11, 6, 3, 33, 1159, 16)) rfl) rfl (hT 102 rfl) rfl rfl (hR 102 6 rfl) ?_
  refine e_2 (f_213 (pc := 16) (e := (16, 2, 461, 0, 0, 0, 0, 19)) rfl) (v := 461) rfl ?_
  refine e_110 (f_213 (pc := 19) (e := (19, 110, 0, 0, 0, 0, 0, 20)) rfl) rfl (hT 104 rfl) (by decide) (by decide) ?_
  refine e_1 (f_213 (pc := 20) (e := (20, 1, 60, 0, 0, 0, 0, 22)) rfl) (v := 60) rfl ?_
  refine e_71 (f_213 (pc := 22) (e := (22, 71, 26, 0, 0, 0, 0, 25)) rfl) (fun c2 => ?_) (fun c2 => ?_)
  · replace F := F.1 c2
    refine e_2 (f_213 (pc := 26) (e := (26, 2, 626, 0, 0, 0, 0, 29)) rfl) (v := 626) rfl ?_
    refine e_0 (f_213 (pc := 29) (e := (29, 0, 5, 0, 0, 0, 0, 30)) rfl) (v := 5) rfl ?_
    refine e_12 (f_213 (pc := 30) (e := (30, 12, 0, 0, 0, 0, 0, 31)) rfl) rfl ?_
    refine e_90r zA (f_213 (pc := 31) (e := (31, 90, 11, 6, 3, 33, 1159, 34)) rfl) rfl (hT 102 rfl) rfl rfl (hR 102 6 rfl) ?_
    refine e_2 (f_213 (pc := 34) (e := (34, 2, 461, 0, 0, 0, 0, 37)) rfl) (v := 461) rfl ?_
    refine e_110 (f_213 (pc := 37) (e := (37, 110, 0, 0, 0, 0, 0, 38)) rfl) rfl (hT 104 rfl) (by decide) (by decide) ?_
    refine e_32 (f_213 (pc := 38) (e := (38, 32, 0, 0, 0, 0, 0, 39)) rfl) ?_
    refine e_30 (f_213 (pc := 39) (e := (39, 30, 0, 0, 0, 0, 0, 40)) rfl) ?_
    refine e_21 (f_213 (pc := 40) (e := (40, 21, 5, 0, 0, 0, 0, 42)) rfl) ?_
    refine e_12 (f_213 (pc := 42) (e := (42, 12, 0, 0, 0, 0, 0, 43)) rfl) rfl ?_
    refine e_90r zA (f_213 (pc := 43) (e := (43, 90, 11, 6, 3, 33, 1159, 46)) rfl) rfl (hT 102 rfl) rfl rfl (hR 102 6 rfl) ?_
    refine e_11 (f_213 (pc := 46) (e := (46, 11, 5, 0, 0, 0, 0, 48)) rfl) rfl ?_
    refine e_12 (f_213 (pc := 48) (e := (48, 12, 0, 0, 0, 0, 0, 49)) rfl) rfl ?_
    refine e_90r zA (f_213 (pc := 49) (e := (49, 90, 11, 6, 3, 33, 1159, 52)) rfl) rfl (hT 102 rfl) rfl rfl (hR 102 6 rfl) ?_
    refine e_2 (f_213 (pc := 52) (e := (52, 2, 458, 0, 0, 0, 0, 55)) rfl) (v := 458) rfl ?_
    refine e_110 (f_213 (pc := 55) (e := (55, 110, 0, 0, 0, 0, 0, 56)) rfl) rfl (hT 104 rfl) (by decide) (by decide) ?_
    obtain ⟨b3, b4, F⟩ := F
    refine e_111 (f_213 (pc := 56) (e := (56, 111, 0, 0, 0, 0, 0, 57)) rfl) rfl (hT 104 rfl) b3 b4 ?_
    replace F := F _ rfl
    refine e_12 (f_213 (pc := 57) (e := (57, 12, 0, 0, 0, 0, 0, 58)) rfl) rfl ?_
    refine e_90r zA (f_213 (pc := 58) (e := (58, 90, 11, 6, 3, 33, 1159, 61)) rfl) rfl (hT 102 rfl) rfl rfl (hR 102 6 rfl) ?_
    refine e_11 (f_213 (pc := 61) (e := (61, 11, 5, 0, 0, 0, 0, 63)) rfl) rfl ?_
    refine e_0 (f_213 (pc := 63) (e := (63, 0, 1, 0, 0, 0, 0, 64)) rfl) (v := 1) rfl ?_
    refine e_30 (f_213 (pc := 64) (e := (64, 30, 0, 0, 0, 0, 0, 65)) rfl) ?_
    refine e_10 (f_213 (pc := 65) (e := (65, 10, 1, 0, 0, 0, 0, 66)) rfl) rfl ?_
    obtain ⟨b6, b7, F⟩ := F
    refine e_111 (f_213 (pc := 66) (e := (66, 111, 0, 0, 0, 0, 0, 67)) rfl) rfl (hT 104 rfl) b6 b7 ?_
    replace F := F _ rfl
    refine e_12 (f_213 (pc := 67) (e := (67, 12, 0, 0, 0, 0, 0, 68)) rfl) rfl ?_
    refine e_90r zA (f_213 (pc := 68) (e := (68, 90, 11, 6, 3, 33, 1159, 71)) rfl) rfl (hT 102 rfl) rfl rfl (hR 102 6 rfl) ?_
    refine e_11 (f_213 (pc := 71) (e := (71, 11, 5, 0, 0, 0, 0, 73)) rfl) rfl ?_
    refine e_0 (f_213 (pc := 73) (e := (73, 0, 2, 0, 0, 0, 0, 74)) rfl) (v := 2) rfl ?_
    refine e_30 (f_213 (pc := 74) (e := (74, 30, 0, 0, 0, 0, 0, 75)) rfl) ?_
    refine e_10 (f_213 (pc := 75) (e := (75, 10, 2, 0, 0, 0, 0, 76)) rfl) rfl ?_
    obtain ⟨b9, b10, F⟩ := F
    refine e_111 (f_213 (pc := 76) (e := (76, 111, 0, 0, 0, 0, 0, 77)) rfl) rfl (hT 104 rfl) b9 b10 ?_
    replace F := F _ rfl
    refine e_12 (f_213 (pc := 77) (e := (77, 12, 0, 0, 0, 0, 0, 78)) rfl) rfl ?_
    refine e_90r zA (f_213 (pc := 78) (e := (78, 90, 11, 6, 3, 33, 1159, 81)) rfl) rfl (hT 102 rfl) rfl rfl (hR 102 6 rfl) ?_
    refine e_11 (f_213 (pc := 81) (e := (81, 11, 5, 0, 0, 0, 0, 83)) rfl) rfl ?_
    refine e_0 (f_213 (pc := 83) (e := (83, 0, 3, 0, 0, 0, 0, 84)) rfl) (v := 3) rfl ?_
    refine e_30 (f_213 (pc := 84) (e := (84, 30, 0, 0, 0, 0, 0, 85)) rfl) ?_
    refine e_10 (f_213 (pc := 85) (e := (85, 10, 3, 0, 0, 0, 0, 86)) rfl) rfl ?_
    obtain ⟨b12, b13, F⟩ := F
    refine e_111 (f_213 (pc := 86) (e := (86, 111, 0, 0, 0, 0, 0, 87)) rfl) rfl (hT 104 rfl) b12 b13 ?_
    replace F := F _ rfl
    refine e_12 (f_213 (pc := 87) (e := (87, 12, 0, 0, 0, 0, 0, 88)) rfl) rfl ?_
    refine e_90r zA (f_213 (pc := 88) (e := (88, 90, 11, 6, 3, 33, 1159, 91)) rfl) rfl (hT 102 rfl) rfl rfl (hR 102 6 rfl) ?_
    refine e_11 (f_213 (pc := 91) (e := (91, 11, 5, 0, 0, 0, 0, 93)) rfl) rfl ?_
    refine e_0 (f_213 (pc := 93) (e := (93, 0, 4, 0, 0, 0, 0, 94)) rfl) (v := 4) rfl ?_
    refine e_30 (f_213 (pc := 94) (e := (94, 30, 0, 0, 0, 0, 0, 95)) rfl) ?_
    refine e_11 (f_213 (pc := 95) (e := (95, 11, 4, 0, 0, 0, 0, 97)) rfl) rfl ?_
    obtain ⟨b15, b16, F⟩ := F
    refine e_111 (f_213 (pc := 97) (e := (97, 111, 0, 0, 0, 0, 0, 98)) rfl) rfl (hT 104 rfl) b15 b16 ?_
    replace F := F _ rfl
    refine e_12 (f_213 (pc := 98) (e := (98, 12, 0, 0, 0, 0, 0, 99)) rfl) rfl ?_
    refine e_90r zA (f_213 (pc := 99) (e := (99, 90, 11, 6, 3, 33, 1159, 102)) rfl) rfl (hT 102 rfl) rfl rfl (hR 102 6 rfl) ?_
    refine e_2 (f_213 (pc := 102) (e := (102, 2, 461, 0, 0, 0, 0, 105)) rfl) (v := 461) rfl ?_
    refine e_51 (f_213 (pc := 105) (e := (105, 51, 0, 0, 0, 0, 0, 106)) rfl) rfl rfl ?_
    refine e_110 (f_213 (pc := 106) (e := (106, 110, 0, 0, 0, 0, 0, 107)) rfl) rfl (hT 104 rfl) (by decide) (by decide) ?_
    refine e_0 (f_213 (pc := 107) (e := (107, 0, 1, 0, 0, 0, 0, 108)) rfl) (v := 1) rfl ?_
    refine e_30 (f_213 (pc := 108) (e := (108, 30, 0, 0, 0, 0, 0, 109)) rfl) ?_
    refine e_111 (f_213 (pc := 109) (e := (109, 111, 0, 0, 0, 0, 0, 110)) rfl) rfl (hT 104 rfl) (by decide) (by decide) ?_
    replace F := F _ rfl
    exact e_122 (f_213 (pc := 110) (e := (110, 122, 0, 0, 0, 0, 0, 0)) rfl) F
  · replace F := F.2 c2
    exact e_122 (f_213 (pc := 25) (e := (25, 122, 0, 0, 0, 0, 0, 26)) rfl) F

/-! met(II)I -/
set_option maxRecDepth 20000 in
theorem B_214_0 (hT : yLT T) (hR : yLR R) {x1 x2 : Int} (F : ∀ I1, I1 = yU I 102 0 0 → (yW l zSS D cy zFk z d 191 0 0 (fun r h' => ∃ r3 I2, r = some (yi r3) ∧ h' = (N, T, R, I2) ∧ ((r3 = 0 → K (some (yi (-1))) (N, T, R, I2)) ∧ (¬ (r3 = 0) → yW l zSS D cy zFk z d 191 0 0 (fun r h' => ∃ r6 I5, r = some (yi r6) ∧ h' = (N, T, R, I5) ∧ ((r6 = 0 → K (some (yi (-1))) (N, T, R, I5)) ∧ (¬ (r6 = 0) → 0 ≤ (yadd (yadd 626 (ymul 5 x1)) x2) ∧ (yadd (yadd 626 (ymul 5 x1)) x2) < 1188 ∧ (K (some (yi (I5 104 (yadd (yadd 626 (ymul 5 x1)) x2).toNat))) (N, T, R, I5))))) 0 0 0 [(0, yi x2), (1, yi 0), (2, yi 4)] [] (N, T, R, I2)))) 0 0 0 [(0, yi x1), (1, yi 0), (2, yi (ysub (I1 104 461) 1))] [] (N, T, R, I1))) :
    yW l zSS D cy zFk z (d + 1) 214 bc bs K 0 0 0 [(0, yr (some 102)), (1, yi x1), (2, yi x2)] [] (N, T, R, I) := by
  refine e_12 (f_214 (pc := 0) (e := (0, 12, 0, 0, 0, 0, 0, 1)) rfl) rfl ?_
  refine e_0 (f_214 (pc := 1) (e := (1, 0, 0, 0, 0, 0, 0, 2)) rfl) (v := 0) rfl ?_
  refine e_91 zA (f_214 (pc := 2) (e := (2, 91, 11, 0, 0, 1, 1216, 5)) rfl) rfl (hT 102 rfl) rfl rfl trivial ?_
  replace F := F _ rfl
  refine e_10 (f_214 (pc := 5) (e := (5, 10, 1, 0, 0, 0, 0, 6)) rfl) rfl ?_
  refine e_0 (f_214 (pc := 6) (e := (6, 0, 0, 0, 0, 0, 0, 7)) rfl) (v := 0) rfl ?_
  refine e_12 (f_214 (pc := 7) (e := (7, 12, 0, 0, 0, 0, 0, 8)) rfl) rfl ?_
  refine e_90r zA (f_214 (pc := 8) (e := (8, 90, 11, 6, 3, 33, 1159, 11)) rfl) rfl (hT 102 rfl) rfl rfl (hR 102 6 rfl) ?_
  refine e_2 (f_214 (pc := 11) (e := (11, 2, 461, 0, 0, 0, 0, 14)) rfl) (v := 461) rfl ?_
  refine e_110 (f_214 (pc := 14) (e := (14, 110, 0, 0, 0, 0, 0, 15)) rfl) rfl (hT 104 rfl) (by decide) (by decide) ?_
  refine e_0 (f_214 (pc := 15) (e := (15, 0, 1, 0, 0, 0, 0, 16)) rfl) (v := 1) rfl ?_
  refine e_31 (f_214 (pc := 16) (e := (16, 31, 0, 0, 0, 0, 0, 17)) rfl) ?_
  refine e_132 (f_214 (pc := 17) (e := (17, 132, 191, 2, 11, 193, 1245, 20)) rfl) zA (as := [yi x1, yi 0, yi _]) (rest := []) rfl rfl rfl rfl (Nat.le_of_ble_eq_true rfl) (Nat.le_of_ble_eq_true rfl) (mc := 0) (ms := 0) (Nat.zero_le _) (Nat.zero_le _) ?_
  refine e_K ?_ F
  rintro r h' ⟨r3, I2, rfl, rfl, F⟩
  refine e_60 (f_214 (pc := 20) (e := (20, 60, 49, 0, 0, 0, 0, 23)) rfl) (fun c4 => ?_) (fun c4 => ?_)
  · replace F := F.1 c4
    refine e_0 (f_214 (pc := 49) (e := (49, 0, 4294967295, 0, 0, 0, 0, 50)) rfl) (v := (-1)) rfl ?_
    exact e_120 (f_214 (pc := 50) (e := (50, 120, 0, 0, 0, 0, 0, 0)) rfl) F
  · replace F := F.2 c4
    refine e_10 (f_214 (pc := 23) (e := (23, 10, 2, 0, 0, 0, 0, 24)) rfl) rfl ?_
    refine e_0 (f_214 (pc := 24) (e := (24, 0, 0, 0, 0, 0, 0, 25)) rfl) (v := 0) rfl ?_
    refine e_0 (f_214 (pc := 25) (e := (25, 0, 4, 0, 0, 0, 0, 26)) rfl) (v := 4) rfl ?_
    refine e_132 (f_214 (pc := 26) (e := (26, 132, 191, 2, 11, 193, 1245, 29)) rfl) zA (as := [yi x2, yi 0, yi 4]) (rest := []) rfl rfl rfl rfl (Nat.le_of_ble_eq_true rfl) (Nat.le_of_ble_eq_true rfl) (mc := 0) (ms := 0) (Nat.zero_le _) (Nat.zero_le _) ?_
    refine e_K ?_ F
    rintro r h' ⟨r6, I5, rfl, rfl, F⟩
    refine e_60 (f_214 (pc := 29) (e := (29, 60, 49, 0, 0, 0, 0, 32)) rfl) (fun c7 => ?_) (fun c7 => ?_)
    · replace F := F.1 c7
      refine e_0 (f_214 (pc := 49) (e := (49, 0, 4294967295, 0, 0, 0, 0, 50)) rfl) (v := (-1)) rfl ?_
      exact e_120 (f_214 (pc := 50) (e := (50, 120, 0, 0, 0, 0, 0, 0)) rfl) F
    · replace F := F.2 c7
      refine e_12 (f_214 (pc := 32) (e := (32, 12, 0, 0, 0, 0, 0, 33)) rfl) rfl ?_
      refine e_90r zA (f_214 (pc := 33) (e := (33, 90, 11, 6, 3, 33, 1159, 36)) rfl) rfl (hT 102 rfl) rfl rfl (hR 102 6 rfl) ?_
      refine e_2 (f_214 (pc := 36) (e := (36, 2, 626, 0, 0, 0, 0, 39)) rfl) (v := 626) rfl ?_
      refine e_0 (f_214 (pc := 39) (e := (39, 0, 5, 0, 0, 0, 0, 40)) rfl) (v := 5) rfl ?_
      refine e_10 (f_214 (pc := 40) (e := (40, 10, 1, 0, 0, 0, 0, 41)) rfl) rfl ?_
      refine e_32 (f_214 (pc := 41) (e := (41, 32, 0, 0, 0, 0, 0, 42)) rfl) ?_
      refine e_30 (f_214 (pc := 42) (e := (42, 30, 0, 0, 0, 0, 0, 43)) rfl) ?_
      refine e_10 (f_214 (pc := 43) (e := (43, 10, 2, 0, 0, 0, 0, 44)) rfl) rfl ?_
      refine e_30 (f_214 (pc := 44) (e := (44, 30, 0, 0, 0, 0, 0, 45)) rfl) ?_
      obtain ⟨b8, b9, F⟩ := F
      refine e_110 (f_214 (pc := 45) (e := (45, 110, 0, 0, 0, 0, 0, 46)) rfl) rfl (hT 104 rfl) b8 b9 ?_
      refine e_80 (f_214 (pc := 46) (e := (46, 80, 50, 0, 0, 0, 0, 49)) rfl) ?_
      exact e_120 (f_214 (pc := 50) (e := (50, 120, 0, 0, 0, 0, 0, 0)) rfl) F

/-! minute()V -/
set_option maxRecDepth 20000 in
theorem B_215_0 (hT : yLT T) (hR : yLR R) (F : yW l zSS D cy zFk z d 235 0 0 (fun r h' => ∃ I1, r = none ∧ h' = (N, T, R, I1) ∧ (yW l zSS D cy zFk z d 224 0 0 (fun r h' => ∃ I2, r = none ∧ h' = (N, T, R, I2) ∧ (∀ I3, I3 = yU I2 102 31 0 → (∀ I4, I4 = yU I3 102 32 0 → (yW l zSS D cy zFk z (d + 1) 215 bc bs K 0 0 20 [(0, yr (some 102)), (1, yi 0)] [] (N, T, R, I4))))) 0 0 0 [(0, yr (some 102))] [] (N, T, R, I1))) 0 0 0 [(0, yr (some 102))] [] (N, T, R, I)) :
    yW l zSS D cy zFk z (d + 1) 215 bc bs K 0 0 0 [(0, yr (some 102))] [] (N, T, R, I) := by
  refine e_12 (f_215 (pc := 0) (e := (0, 12, 0, 0, 0, 0, 0, 1)) rfl) rfl ?_
  refine e_130 (f_215 (pc := 1) (e := (1, 130, 235, 0, 11, 327, 1288, 4)) rfl) zA (as := [yr (some 102)]) (rest := []) rfl rfl rfl rfl (Nat.le_of_ble_eq_true rfl) (Nat.le_of_ble_eq_true rfl) ⟨_, _, _, rfl, (hT 102 rfl)⟩ (mc := 0) (ms := 0) (Nat.zero_le _) (Nat.zero_le _) ?_
  refine e_K ?_ F
  rintro r h' ⟨I1, rfl, rfl, F⟩
  refine e_12 (f_215 (pc := 4) (e := (4, 12, 0, 0, 0, 0, 0, 5)) rfl) rfl ?_
  refine e_130 (f_215 (pc := 5) (e := (5, 130, 224, 0, 11, 298, 1289, 8)) rfl) zA (as := [yr (some 102)]) (rest := []) rfl rfl rfl rfl (Nat.le_of_ble_eq_true rfl) (Nat.le_of_ble_eq_true rfl) ⟨_, _, _, rfl, (hT 102 rfl)⟩ (mc := 0) (ms := 0) (Nat.zero_le _) (Nat.zero_le _) ?_
  refine e_K ?_ F
  rintro r h' ⟨I2, rfl, rfl, F⟩
  refine e_12 (f_215 (pc := 8) (e := (8, 12, 0, 0, 0, 0, 0, 9)) rfl) rfl ?_
  refine e_0 (f_215 (pc := 9) (e := (9, 0, 0, 0, 0, 0, 0, 10)) rfl) (v := 0) rfl ?_
  refine e_91 zA (f_215 (pc := 10) (e := (10, 91, 11, 31, 0, 307, 1206, 13)) rfl) rfl (hT 102 rfl) rfl rfl trivial ?_
  replace F := F _ rfl
  refine e_12 (f_215 (pc := 13) (e := (13, 12, 0, 0, 0, 0, 0, 14)) rfl) rfl ?_
  refine e_0 (f_215 (pc := 14) (e := (14, 0, 0, 0, 0, 0, 0, 15)) rfl) (v := 0) rfl ?_
  refine e_91 zA (f_215 (pc := 15) (e := (15, 91, 11, 32, 0, 310, 1208, 18)) rfl) rfl (hT 102 rfl) rfl rfl trivial ?_
  replace F := F _ rfl
  refine e_0 (f_215 (pc := 18) (e := (18, 0, 0, 0, 0, 0, 0, 19)) rfl) (v := 0) rfl ?_
  refine e_20 (f_215 (pc := 19) (e := (19, 20, 1, 0, 0, 0, 0, 20)) rfl) ?_
  refine e_lo [0, 1] rfl ?_
  exact F
set_option maxRecDepth 20000 in
theorem B_215_20 (hT : yLT T) (hR : yLR R) {x1 : Int} (F : ((I 104 2) ≤ x1 → yW l zSS D cy zFk z d 215 bc bs K 0 0 79 [(0, yr (some 102)), (1, yi 0)] [] (N, T, R, I)) ∧ (¬ ((I 104 2) ≤ x1) → 0 ≤ (yadd 518 x1) ∧ (yadd 518 x1) < 1188 ∧ (((I 104 (yadd 518 x1).toNat) ≠ 1 → ∀ I5, I5 = yU I 102 32 (yor (I 102 32) 0) → (0 ≤ (yadd 518 x1) ∧ (yadd 518 x1) < 1188 ∧ (∀ I8, I8 = yU I5 104 ((yadd 518 x1).toNat) (ynar 1 0) → (yW l zSS D cy zFk z d 215 bc bs K 0 0 20 [(0, yr (some 102)), (1, yi (yadd x1 1))] [] (N, T, R, I8))))) ∧ (¬ ((I 104 (yadd 518 x1).toNat) ≠ 1) → ∀ I9, I9 = yU I 102 32 (yor (I 102 32) (yshl 1 x1)) → (0 ≤ (yadd 518 x1) ∧ (yadd 518 x1) < 1188 ∧ (∀ I12, I12 = yU I9 104 ((yadd 518 x1).toNat) (ynar 1 0) → (yW l zSS D cy zFk z d 215 bc bs K 0 0 20 [(0, yr (some 102)), (1, yi (yadd x1 1))] [] (N, T, R, I12)))))))) :
    yW l zSS D cy zFk z d 215 bc bs K 0 0 20 [(0, yr (some 102)), (1, yi x1)] [] (N, T, R, I) := by
  refine e_10 (f_215 (pc := 20) (e := (20, 10, 1, 0, 0, 0, 0, 21)) rfl) rfl ?_
  refine e_12 (f_215 (pc := 21) (e := (21, 12, 0, 0, 0, 0, 0, 22)) rfl) rfl ?_
  refine e_90r zA (f_215 (pc := 22) (e := (22, 90, 11, 6, 3, 33, 1159, 25)) rfl) rfl (hT 102 rfl) rfl rfl (hR 102 6 rfl) ?_
  refine e_0 (f_215 (pc := 25) (e := (25, 0, 2, 0, 0, 0, 0, 26)) rfl) (v := 2) rfl ?_
  refine e_110 (f_215 (pc := 26) (e := (26, 110, 0, 0, 0, 0, 0, 27)) rfl) rfl (hT 104 rfl) (by decide) (by decide) ?_
  refine e_73 (f_215 (pc := 27) (e := (27, 73, 77, 0, 0, 0, 0, 30)) rfl) (fun c1 => ?_) (fun c1 => ?_)
  · replace F := F.1 c1
    refine e_0 (f_215 (pc := 77) (e := (77, 0, 0, 0, 0, 0, 0, 78)) rfl) (v := 0) rfl ?_
    refine e_20 (f_215 (pc := 78) (e := (78, 20, 1, 0, 0, 0, 0, 79)) rfl) ?_
    refine e_lo [0, 1] rfl ?_
    exact F
  · replace F := F.2 c1
    refine e_12 (f_215 (pc := 30) (e := (30, 12, 0, 0, 0, 0, 0, 31)) rfl) rfl ?_
    refine e_50 (f_215 (pc := 31) (e := (31, 50, 0, 0, 0, 0, 0, 32)) rfl) rfl ?_
    refine e_90 zA (f_215 (pc := 32) (e := (32, 90, 11, 32, 0, 310, 1208, 35)) rfl) rfl (hT 102 rfl) rfl rfl ?_
    refine e_12 (f_215 (pc := 35) (e := (35, 12, 0, 0, 0, 0, 0, 36)) rfl) rfl ?_
    refine e_90r zA (f_215 (pc := 36) (e := (36, 90, 11, 6, 3, 33, 1159, 39)) rfl) rfl (hT 102 rfl) rfl rfl (hR 102 6 rfl) ?_
    refine e_2 (f_215 (pc := 39) (e := (39, 2, 518, 0, 0, 0, 0, 42)) rfl) (v := 518) rfl ?_
    refine e_10 (f_215 (pc := 42) (e := (42, 10, 1, 0, 0, 0, 0, 43)) rfl) rfl ?_
    refine e_30 (f_215 (pc := 43) (e := (43, 30, 0, 0, 0, 0, 0, 44)) rfl) ?_
    obtain ⟨b2, b3, F⟩ := F
    refine e_110 (f_215 (pc := 44) (e := (44, 110, 0, 0, 0, 0, 0, 45)) rfl) rfl (hT 104 rfl) b2 b3 ?_
    refine e_0 (f_215 (pc := 45) (e := (45, 0, 1, 0, 0, 0, 0, 46)) rfl) (v := 1) rfl ?_
    refine e_71 (f_215 (pc := 46) (e := (46, 71, 55, 0, 0, 0, 0, 49)) rfl) (fun c4 => ?_) (fun c4 => ?_)
    · replace F := F.1 c4
      refine e_0 (f_215 (pc := 55) (e := (55, 0, 0, 0, 0, 0, 0, 56)) rfl) (v := 0) rfl ?_
      refine e_36 (f_215 (pc := 56) (e := (56, 36, 0, 0, 0, 0, 0, 57)) rfl) ?_
      refine e_91 zA (f_215 (pc := 57) (e := (57, 91, 11, 32, 0, 310, 1208, 60)) rfl) rfl (hT 102 rfl) rfl rfl trivial ?_
      replace F := F _ rfl
      refine e_12 (f_215 (pc := 60) (e := (60, 12, 0, 0, 0, 0, 0, 61)) rfl) rfl ?_
      refine e_90r zA (f_215 (pc := 61) (e := (61, 90, 11, 6, 3, 33, 1159, 64)) rfl) rfl (hT 102 rfl) rfl rfl (hR 102 6 rfl) ?_
      refine e_2 (f_215 (pc := 64) (e := (64, 2, 518, 0, 0, 0, 0, 67)) rfl) (v := 518) rfl ?_
      refine e_10 (f_215 (pc := 67) (e := (67, 10, 1, 0, 0, 0, 0, 68)) rfl) rfl ?_
      refine e_30 (f_215 (pc := 68) (e := (68, 30, 0, 0, 0, 0, 0, 69)) rfl) ?_
      refine e_0 (f_215 (pc := 69) (e := (69, 0, 0, 0, 0, 0, 0, 70)) rfl) (v := 0) rfl ?_
      obtain ⟨b6, b7, F⟩ := F
      refine e_111 (f_215 (pc := 70) (e := (70, 111, 0, 0, 0, 0, 0, 71)) rfl) rfl (hT 104 rfl) b6 b7 ?_
      replace F := F _ rfl
      refine e_26 (f_215 (pc := 71) (e := (71, 26, 1, 1, 0, 0, 0, 74)) rfl) (w := 1) rfl rfl ?_
      refine e_80 (f_215 (pc := 74) (e := (74, 80, 20, 0, 0, 0, 0, 77)) rfl) ?_
      refine e_lo [0, 1] rfl ?_
      exact F
    · replace F := F.2 c4
      refine e_0 (f_215 (pc := 49) (e := (49, 0, 1, 0, 0, 0, 0, 50)) rfl) (v := 1) rfl ?_
      refine e_10 (f_215 (pc := 50) (e := (50, 10, 1, 0, 0, 0, 0, 51)) rfl) rfl ?_
      refine e_38 (f_215 (pc := 51) (e := (51, 38, 0, 0, 0, 0, 0, 52)) rfl) ?_
      refine e_80 (f_215 (pc := 52) (e := (52, 80, 56, 0, 0, 0, 0, 55)) rfl) ?_
      refine e_36 (f_215 (pc := 56) (e := (56, 36, 0, 0, 0, 0, 0, 57)) rfl) ?_
      refine e_91 zA (f_215 (pc := 57) (e := (57, 91, 11, 32, 0, 310, 1208, 60)) rfl) rfl (hT 102 rfl) rfl rfl trivial ?_
      replace F := F _ rfl
      refine e_12 (f_215 (pc := 60) (e := (60, 12, 0, 0, 0, 0, 0, 61)) rfl) rfl ?_
      refine e_90r zA (f_215 (pc := 61) (e := (61, 90, 11, 6, 3, 33, 1159, 64)) rfl) rfl (hT 102 rfl) rfl rfl (hR 102 6 rfl) ?_
      refine e_2 (f_215 (pc := 64) (e := (64, 2, 518, 0, 0, 0, 0, 67)) rfl) (v := 518) rfl ?_
      refine e_10 (f_215 (pc := 67) (e := (67, 10, 1, 0, 0, 0, 0, 68)) rfl) rfl ?_
      refine e_30 (f_215 (pc := 68) (e := (68, 30, 0, 0, 0, 0, 0, 69)) rfl) ?_
      refine e_0 (f_215 (pc := 69) (e := (69, 0, 0, 0, 0, 0, 0, 70)) rfl) (v := 0) rfl ?_
      obtain ⟨b10, b11, F⟩ := F
      refine e_111 (f_215 (pc := 70) (e := (70, 111, 0, 0, 0, 0, 0, 71)) rfl) rfl (hT 104 rfl) b10 b11 ?_
      replace F := F _ rfl
      refine e_26 (f_215 (pc := 71) (e := (71, 26, 1, 1, 0, 0, 0, 74)) rfl) (w := 1) rfl rfl ?_
      refine e_80 (f_215 (pc := 74) (e := (74, 80, 20, 0, 0, 0, 0, 77)) rfl) ?_
      refine e_lo [0, 1] rfl ?_
      exact F
set_option maxRecDepth 20000 in
theorem B_215_79 (hT : yLT T) (hR : yLR R) {x1 : Int} (F : ((I 104 2) ≤ x1 → yW l zSS D cy zFk z (d + 1) 215 bc bs K 0 0 107 [(0, yr (some 102)), (1, yi 0)] [] (N, T, R, I)) ∧ (¬ ((I 104 2) ≤ x1) → 0 ≤ x1 ∧ x1 < 8 ∧ (yW l zSS D cy zFk z d 155 0 0 (fun r h' => ∃ I4, r = none ∧ h' = (N, T, R, I4) ∧ (yW l zSS D cy zFk z (d + 1) 215 bc bs K 0 0 79 [(0, yr (some 102)), (1, yi (yadd x1 1))] [] (N, T, R, I4))) 0 0 0 [(0, yr (some 102)), (1, yi (I 111 x1.toNat))] [] (N, T, R, I)))) :
    yW l zSS D cy zFk z (d + 1) 215 bc bs K 0 0 79 [(0, yr (some 102)), (1, yi x1)] [] (N, T, R, I) := by
  refine e_10 (f_215 (pc := 79) (e := (79, 10, 1, 0, 0, 0, 0, 80)) rfl) rfl ?_
  refine e_12 (f_215 (pc := 80) (e := (80, 12, 0, 0, 0, 0, 0, 81)) rfl) rfl ?_
  refine e_90r zA (f_215 (pc := 81) (e := (81, 90, 11, 6, 3, 33, 1159, 84)) rfl) rfl (hT 102 rfl) rfl rfl (hR 102 6 rfl) ?_
  refine e_0 (f_215 (pc := 84) (e := (84, 0, 2, 0, 0, 0, 0, 85)) rfl) (v := 2) rfl ?_
  refine e_110 (f_215 (pc := 85) (e := (85, 110, 0, 0, 0, 0, 0, 86)) rfl) rfl (hT 104 rfl) (by decide) (by decide) ?_
  refine e_73 (f_215 (pc := 86) (e := (86, 73, 105, 0, 0, 0, 0, 89)) rfl) (fun c1 => ?_) (fun c1 => ?_)
  · replace F := F.1 c1
    refine e_0 (f_215 (pc := 105) (e := (105, 0, 0, 0, 0, 0, 0, 106)) rfl) (v := 0) rfl ?_
    refine e_20 (f_215 (pc := 106) (e := (106, 20, 1, 0, 0, 0, 0, 107)) rfl) ?_
    refine e_lo [0, 1] rfl ?_
    exact F
  · replace F := F.2 c1
    refine e_12 (f_215 (pc := 89) (e := (89, 12, 0, 0, 0, 0, 0, 90)) rfl) rfl ?_
    refine e_12 (f_215 (pc := 90) (e := (90, 12, 0, 0, 0, 0, 0, 91)) rfl) rfl ?_
    refine e_90r zA (f_215 (pc := 91) (e := (91, 90, 11, 26, 3, 56, 1166, 94)) rfl) rfl (hT 102 rfl) rfl rfl (hR 102 26 rfl) ?_
    refine e_10 (f_215 (pc := 94) (e := (94, 10, 1, 0, 0, 0, 0, 95)) rfl) rfl ?_
    obtain ⟨b2, b3, F⟩ := F
    refine e_110 (f_215 (pc := 95) (e := (95, 110, 0, 0, 0, 0, 0, 96)) rfl) rfl (hT 111 rfl) b2 b3 ?_
    refine e_130 (f_215 (pc := 96) (e := (96, 130, 155, 0, 11, 330, 1290, 99)) rfl) zA (as := [yr (some 102), yi _]) (rest := []) rfl rfl rfl rfl (Nat.le_of_ble_eq_true rfl) (Nat.le_of_ble_eq_true rfl) ⟨_, _, _, rfl, (hT 102 rfl)⟩ (mc := 0) (ms := 0) (Nat.zero_le _) (Nat.zero_le _) ?_
    refine e_K ?_ F
    rintro r h' ⟨I4, rfl, rfl, F⟩
    refine e_26 (f_215 (pc := 99) (e := (99, 26, 1, 1, 0, 0, 0, 102)) rfl) (w := 1) rfl rfl ?_
    refine e_80 (f_215 (pc := 102) (e := (102, 80, 79, 0, 0, 0, 0, 105)) rfl) ?_
    refine e_lo [0, 1] rfl ?_
    exact F
set_option maxRecDepth 20000 in
theorem B_215_107 (hT : yLT T) (hR : yLR R) {x1 : Int} (F : ((I 104 2) ≤ x1 → ∀ I2, I2 = yU I 104 458 (ynar 1 (yadd (I 104 458) 1)) → (K none (N, T, R, I2))) ∧ (¬ ((I 104 2) ≤ x1) → 0 ≤ (yadd 470 x1) ∧ (yadd 470 x1) < 1188 ∧ (((I 104 (yadd 470 x1).toNat) < 0 → yW l zSS D cy zFk z d 215 bc bs K 0 0 107 [(0, yr (some 102)), (1, yi (yadd x1 1))] [] (N, T, R, I)) ∧ (¬ ((I 104 (yadd 470 x1).toNat) < 0) → 0 ≤ (yadd 470 x1) ∧ (yadd 470 x1) < 1188 ∧ (0 ≤ (yadd 334 x1) ∧ (yadd 334 x1) < 1188 ∧ (((I 104 (yadd 470 x1).toNat) = (I 104 (yadd 334 x1).toNat) → 0 ≤ (yadd 510 x1) ∧ (yadd 510 x1) < 1188 ∧ (∀ I13, I13 = yU I 104 ((yadd 510 x1).toNat) (ynar 1 (I 104 458)) → (0 ≤ (yadd 470 x1) ∧ (yadd 470 x1) < 1188 ∧ (∀ I16, I16 = yU I13 104 ((yadd 470 x1).toNat) (ynar 1 (-1)) → (yW l zSS D cy zFk z d 215 bc bs K 0 0 107 [(0, yr (some 102)), (1, yi (yadd x1 1))] [] (N, T, R, I16)))))) ∧ (¬ ((I 104 (yadd 470 x1).toNat) = (I 104 (yadd 334 x1).toNat)) → yW l zSS D cy zFk z d 215 bc bs K 0 0 107 [(0, yr (some 102)), (1, yi (yadd x1 1))] [] (N, T, R, I)))))))) :
    yW l zSS D cy zFk z d 215 bc bs K 0 0 107 [(0, yr (some 102)), (1, yi x1)] [] (N, T, R, I) := by
  refine e_10 (f_215 (pc := 107) (e := (107, 10, 1, 0, 0, 0, 0, 108)) rfl) rfl ?_
  refine e_12 (f_215 (pc := 108) (e := (108, 12, 0, 0, 0, 0, 0, 109)) rfl) rfl ?_
  refine e_90r zA (f_215 (pc := 109) (e := (109, 90, 11, 6, 3, 33, 1159, 112)) rfl) rfl (hT 102 rfl) rfl rfl (hR 102 6 rfl) ?_
  refine e_0 (f_215 (pc := 112) (e := (112, 0, 2, 0, 0, 0, 0, 113)) rfl) (v := 2) rfl ?_
  refine e_110 (f_215 (pc := 113) (e := (113, 110, 0, 0, 0, 0, 0, 114)) rfl) rfl (hT 104 rfl) (by decide) (by decide) ?_
  refine e_73 (f_215 (pc := 114) (e := (114, 73, 191, 0, 0, 0, 0, 117)) rfl) (fun c1 => ?_) (fun c1 => ?_)
  · replace F := F.1 c1
    refine e_12 (f_215 (pc := 191) (e := (191, 12, 0, 0, 0, 0, 0, 192)) rfl) rfl ?_
    refine e_90r zA (f_215 (pc := 192) (e := (192, 90, 11, 6, 3, 33, 1159, 195)) rfl) rfl (hT 102 rfl) rfl rfl (hR 102 6 rfl) ?_
    refine e_2 (f_215 (pc := 195) (e := (195, 2, 458, 0, 0, 0, 0, 198)) rfl) (v := 458) rfl ?_
    refine e_51 (f_215 (pc := 198) (e := (198, 51, 0, 0, 0, 0, 0, 199)) rfl) rfl rfl ?_
    refine e_110 (f_215 (pc := 199) (e := (199, 110, 0, 0, 0, 0, 0, 200)) rfl) rfl (hT 104 rfl) (by decide) (by decide) ?_
    refine e_0 (f_215 (pc := 200) (e := (200, 0, 1, 0, 0, 0, 0, 201)) rfl) (v := 1) rfl ?_
    refine e_30 (f_215 (pc := 201) (e := (201, 30, 0, 0, 0, 0, 0, 202)) rfl) ?_
    refine e_111 (f_215 (pc := 202) (e := (202, 111, 0, 0, 0, 0, 0, 203)) rfl) rfl (hT 104 rfl) (by decide) (by decide) ?_
    replace F := F _ rfl
    exact e_122 (f_215 (pc := 203) (e := (203, 122, 0, 0, 0, 0, 0, 0)) rfl) F
  · replace F := F.2 c1
    refine e_12 (f_215 (pc := 117) (e := (117, 12, 0, 0, 0, 0, 0, 118)) rfl) rfl ?_
    refine e_90r zA (f_215 (pc := 118) (e := (118, 90, 11, 6, 3, 33, 1159, 121)) rfl) rfl (hT 102 rfl) rfl rfl (hR 102 6 rfl) ?_
    refine e_2 (f_215 (pc := 121) (e := (121, 2, 470, 0, 0, 0, 0, 124)) rfl) (v := 470) rfl ?_
    refine e_10 (f_215 (pc := 124) (e := (124, 10, 1, 0, 0, 0, 0, 125)) rfl) rfl ?_
    refine e_30 (f_215 (pc := 125) (e := (125, 30, 0, 0, 0, 0, 0, 126)) rfl) ?_
    obtain ⟨b3, b4, F⟩ := F
    refine e_110 (f_215 (pc := 126) (e := (126, 110, 0, 0, 0, 0, 0, 127)) rfl) rfl (hT 104 rfl) b3 b4 ?_
    refine e_62 (f_215 (pc := 127) (e := (127, 62, 185, 0, 0, 0, 0, 130)) rfl) (fun c5 => ?_) (fun c5 => ?_)
    · replace F := F.1 c5
      refine e_26 (f_215 (pc := 185) (e := (185, 26, 1, 1, 0, 0, 0, 188)) rfl) (w := 1) rfl rfl ?_
      refine e_80 (f_215 (pc := 188) (e := (188, 80, 107, 0, 0, 0, 0, 191)) rfl) ?_
      refine e_lo [0, 1] rfl ?_
      exact F
    · replace F := F.2 c5
      refine e_12 (f_215 (pc := 130) (e := (130, 12, 0, 0, 0, 0, 0, 131)) rfl) rfl ?_
      refine e_90r zA (f_215 (pc := 131) (e := (131, 90, 11, 6, 3, 33, 1159, 134)) rfl) rfl (hT 102 rfl) rfl rfl (hR 102 6 rfl) ?_
      refine e_2 (f_215 (pc := 134) (e := (134, 2, 470, 0, 0, 0, 0, 137)) rfl) (v := 470) rfl ?_
      refine e_10 (f_215 (pc := 137) (e := (137, 10, 1, 0, 0, 0, 0, 138)) rfl) rfl ?_
      refine e_30 (f_215 (pc := 138) (e := (138, 30, 0, 0, 0, 0, 0, 139)) rfl) ?_
      obtain ⟨b6, b7, F⟩ := F
      refine e_110 (f_215 (pc := 139) (e := (139, 110, 0, 0, 0, 0, 0, 140)) rfl) rfl (hT 104 rfl) b6 b7 ?_
      refine e_12 (f_215 (pc := 140) (e := (140, 12, 0, 0, 0, 0, 0, 141)) rfl) rfl ?_
      refine e_90r zA (f_215 (pc := 141) (e := (141, 90, 11, 6, 3, 33, 1159, 144)) rfl) rfl (hT 102 rfl) rfl rfl (hR 102 6 rfl) ?_
      refine e_2 (f_215 (pc := 144) (e := (144, 2, 334, 0, 0, 0, 0, 147)) rfl) (v := 334) rfl ?_
      refine e_10 (f_215 (pc := 147) (e := (147, 10, 1, 0, 0, 0, 0, 148)) rfl) rfl ?_
      refine e_30 (f_215 (pc := 148) (e := (148, 30, 0, 0, 0, 0, 0, 149)) rfl) ?_
      obtain ⟨b8, b9, F⟩ := F
      refine e_110 (f_215 (pc := 149) (e := (149, 110, 0, 0, 0, 0, 0, 150)) rfl) rfl (hT 104 rfl) b8 b9 ?_
      refine e_70 (f_215 (pc := 150) (e := (150, 70, 156, 0, 0, 0, 0, 153)) rfl) (fun c10 => ?_) (fun c10 => ?_)
      · replace F := F.1 c10
        refine e_12 (f_215 (pc := 156) (e := (156, 12, 0, 0, 0, 0, 0, 157)) rfl) rfl ?_
        refine e_90r zA (f_215 (pc := 157) (e := (157, 90, 11, 6, 3, 33, 1159, 160)) rfl) rfl (hT 102 rfl) rfl rfl (hR 102 6 rfl) ?_
        refine e_2 (f_215 (pc := 160) (e := (160, 2, 510, 0, 0, 0, 0, 163)) rfl) (v := 510) rfl ?_
        refine e_10 (f_215 (pc := 163) (e := (163, 10, 1, 0, 0, 0, 0, 164)) rfl) rfl ?_
        refine e_30 (f_215 (pc := 164) (e := (164, 30, 0, 0, 0, 0, 0, 165)) rfl) ?_
        refine e_12 (f_215 (pc := 165) (e := (165, 12, 0, 0, 0, 0, 0, 166)) rfl) rfl ?_
        refine e_90r zA (f_215 (pc := 166) (e := (166, 90, 11, 6, 3, 33, 1159, 169)) rfl) rfl (hT 102 rfl) rfl rfl (hR 102 6 rfl) ?_
        refine e_2 (f_215 (pc := 169) (e := (169, 2, 458, 0, 0, 0, 0, 172)) rfl) (v := 458) rfl ?_
        refine e_110 (f_215 (pc := 172) (e := (172, 110, 0, 0, 0, 0, 0, 173)) rfl) rfl (hT 104 rfl) (by decide) (by decide) ?_
        obtain ⟨b11, b12, F⟩ := F
        refine e_111 (f_215 (pc := 173) (e := (173, 111, 0, 0, 0, 0, 0, 174)) rfl) rfl (hT 104 rfl) b11 b12 ?_
        replace F := F _ rfl
        refine e_12 (f_215 (pc := 174) (e := (174, 12, 0, 0, 0, 0, 0, 175)) rfl) rfl ?_
        refine e_90r zA (f_215 (pc := 175) (e := (175, 90, 11, 6, 3, 33, 1159, 178)) rfl) rfl (hT 102 rfl) rfl rfl (hR 102 6 rfl) ?_
        refine e_2 (f_215 (pc := 178) (e := (178, 2, 470, 0, 0, 0, 0, 181)) rfl) (v := 470) rfl ?_
        refine e_10 (f_215 (pc := 181) (e := (181, 10, 1, 0, 0, 0, 0, 182)) rfl) rfl ?_
        refine e_30 (f_215 (pc := 182) (e := (182, 30, 0, 0, 0, 0, 0, 183)) rfl) ?_
        refine e_0 (f_215 (pc := 183) (e := (183, 0, 4294967295, 0, 0, 0, 0, 184)) rfl) (v := (-1)) rfl ?_
        obtain ⟨b14, b15, F⟩ := F
        refine e_111 (f_215 (pc := 184) (e := (184, 111, 0, 0, 0, 0, 0, 185)) rfl) rfl (hT 104 rfl) b14 b15 ?_
        replace F := F _ rfl
        refine e_26 (f_215 (pc := 185) (e := (185, 26, 1, 1, 0, 0, 0, 188)) rfl) (w := 1) rfl rfl ?_
        refine e_80 (f_215 (pc := 188) (e := (188, 80, 107, 0, 0, 0, 0, 191)) rfl) ?_
        refine e_lo [0, 1] rfl ?_
        exact F
      · replace F := F.2 c10
        refine e_80 (f_215 (pc := 153) (e := (153, 80, 185, 0, 0, 0, 0, 156)) rfl) ?_
        refine e_26 (f_215 (pc := 185) (e := (185, 26, 1, 1, 0, 0, 0, 188)) rfl) (w := 1) rfl rfl ?_
        refine e_80 (f_215 (pc := 188) (e := (188, 80, 107, 0, 0, 0, 0, 191)) rfl) ?_
        refine e_lo [0, 1] rfl ?_
        exact F

/-! next(I)I -/
set_option maxRecDepth 20000 in
theorem B_216_0 (hT : yLT T) (hR : yLR R) {x1 : Int} (F : ∀ I1, I1 = yU I 102 0 0 → (yW l zSS D cy zFk z d 188 0 0 (fun r h' => ∃ r3 I2, r = some (yi r3) ∧ h' = (N, T, R, I2) ∧ ((r3 ≠ 0 → yW l zSS D cy zFk z d 255 0 0 (fun r h' => ∃ I5, r = none ∧ h' = (N, T, R, I5) ∧ (yW l zSS D cy zFk z d 241 0 0 (fun r h' => ∃ r7 I6, r = some (yi r7) ∧ h' = (N, T, R, I6) ∧ (K (some (yi r7)) (N, T, R, I6))) 0 0 0 [(0, yr (some 102)), (1, yi x1)] [] (N, T, R, I5))) 0 0 0 [(0, yr (some 102))] [] (N, T, R, I2)) ∧ (¬ (r3 ≠ 0) → K (some (yi (-1))) (N, T, R, I2)))) 0 0 0 [(0, yr (some 102)), (1, yi x1)] [] (N, T, R, I1))) :
    yW l zSS D cy zFk z (d + 1) 216 bc bs K 0 0 0 [(0, yr (some 102)), (1, yi x1)] [] (N, T, R, I) := by
  refine e_12 (f_216 (pc := 0) (e := (0, 12, 0, 0, 0, 0, 0, 1)) rfl) rfl ?_
  refine e_0 (f_216 (pc := 1) (e := (1, 0, 0, 0, 0, 0, 0, 2)) rfl) (v := 0) rfl ?_
  refine e_91 zA (f_216 (pc := 2) (e := (2, 91, 11, 0, 0, 1, 1216, 5)) rfl) rfl (hT 102 rfl) rfl rfl trivial ?_
  replace F := F _ rfl
  refine e_12 (f_216 (pc := 5) (e := (5, 12, 0, 0, 0, 0, 0, 6)) rfl) rfl ?_
  refine e_10 (f_216 (pc := 6) (e := (6, 10, 1, 0, 0, 0, 0, 7)) rfl) rfl ?_
  refine e_130 (f_216 (pc := 7) (e := (7, 130, 188, 0, 11, 269, 1249, 10)) rfl) zA (as := [yr (some 102), yi x1]) (rest := []) rfl rfl rfl rfl (Nat.le_of_ble_eq_true rfl) (Nat.le_of_ble_eq_true rfl) ⟨_, _, _, rfl, (hT 102 rfl)⟩ (mc := 0) (ms := 0) (Nat.zero_le _) (Nat.zero_le _) ?_
  refine e_K ?_ F
  rintro r h' ⟨r3, I2, rfl, rfl, F⟩
  refine e_61 (f_216 (pc := 10) (e := (10, 61, 15, 0, 0, 0, 0, 13)) rfl) (fun c4 => ?_) (fun c4 => ?_)
  · replace F := F.1 c4
    refine e_12 (f_216 (pc := 15) (e := (15, 12, 0, 0, 0, 0, 0, 16)) rfl) rfl ?_
    refine e_130 (f_216 (pc := 16) (e := (16, 130, 255, 0, 11, 289, 1268, 19)) rfl) zA (as := [yr (some 102)]) (rest := []) rfl rfl rfl rfl (Nat.le_of_ble_eq_true rfl) (Nat.le_of_ble_eq_true rfl) ⟨_, _, _, rfl, (hT 102 rfl)⟩ (mc := 0) (ms := 0) (Nat.zero_le _) (Nat.zero_le _) ?_
    refine e_K ?_ F
    rintro r h' ⟨I5, rfl, rfl, F⟩
    refine e_12 (f_216 (pc := 19) (e := (19, 12, 0, 0, 0, 0, 0, 20)) rfl) rfl ?_
    refine e_10 (f_216 (pc := 20) (e := (20, 10, 1, 0, 0, 0, 0, 21)) rfl) rfl ?_
    refine e_130 (f_216 (pc := 21) (e := (21, 130, 241, 0, 11, 292, 1212, 24)) rfl) zA (as := [yr (some 102), yi x1]) (rest := []) rfl rfl rfl rfl (Nat.le_of_ble_eq_true rfl) (Nat.le_of_ble_eq_true rfl) ⟨_, _, _, rfl, (hT 102 rfl)⟩ (mc := 0) (ms := 0) (Nat.zero_le _) (Nat.zero_le _) ?_
    refine e_K ?_ F
    rintro r h' ⟨r7, I6, rfl, rfl, F⟩
    exact e_120 (f_216 (pc := 24) (e := (24, 120, 0, 0, 0, 0, 0, 0)) rfl) F
  · replace F := F.2 c4
    refine e_0 (f_216 (pc := 13) (e := (13, 0, 4294967295, 0, 0, 0, 0, 14)) rfl) (v := (-1)) rfl ?_
    exact e_120 (f_216 (pc := 14) (e := (14, 120, 0, 0, 0, 0, 0, 15)) rfl) F

/-! nots()V -/
set_option maxRecDepth 20000 in
theorem B_217_0 (hT : yLT T) (hR : yLR R) (F : ((I 102 50) ≤ 0 → K none (N, T, R, I)) ∧ (¬ ((I 102 50) ≤ 0) → 0 ≤ (ysub (I 102 50) 1) ∧ (ysub (I 102 50) 1) < 45 ∧ (((I 121 (ysub (I 102 50) 1).toNat) ≠ 20 → K none (N, T, R, I)) ∧ (¬ ((I 121 (ysub (I 102 50) 1).toNat) ≠ 20) → ∀ I5, I5 = yU I 102 50 (ysub (I 102 50) 1) → (∀ I6, I6 = yU I5 102 51 (ysub (I5 102 51) 1) → (yW l zSS D cy zFk z d 169 0 0 (fun r h' => ∃ I7, r = none ∧ h' = (N, T, R, I7) ∧ (yW l zSS D cy zFk z (d + 1) 217 bc bs K 0 0 0 [(0, yr (some 102))] [] (N, T, R, I7))) 0 0 0 [(0, yr (some 102)), (1, yi 20), (2, yi 0), (3, yi 0)] [] (N, T, R, I6))))))) :
    yW l zSS D cy zFk z (d + 1) 217 bc bs K 0 0 0 [(0, yr (some 102))] [] (N, T, R, I) := by
  refine e_12 (f_217 (pc := 0) (e := (0, 12, 0, 0, 0, 0, 0, 1)) rfl) rfl ?_
  refine e_90 zA (f_217 (pc := 1) (e := (1, 90, 11, 50, 0, 417, 1240, 4)) rfl) rfl (hT 102 rfl) rfl rfl ?_
  refine e_65 (f_217 (pc := 4) (e := (4, 65, 54, 0, 0, 0, 0, 7)) rfl) (fun c1 => ?_) (fun c1 => ?_)
  · replace F := F.1 c1
    exact e_122 (f_217 (pc := 54) (e := (54, 122, 0, 0, 0, 0, 0, 0)) rfl) F
  · replace F := F.2 c1
    refine e_12 (f_217 (pc := 7) (e := (7, 12, 0, 0, 0, 0, 0, 8)) rfl) rfl ?_
    refine e_90r zA (f_217 (pc := 8) (e := (8, 90, 11, 47, 3, 87, 1177, 11)) rfl) rfl (hT 102 rfl) rfl rfl (hR 102 47 rfl) ?_
    refine e_12 (f_217 (pc := 11) (e := (11, 12, 0, 0, 0, 0, 0, 12)) rfl) rfl ?_
    refine e_90 zA (f_217 (pc := 12) (e := (12, 90, 11, 50, 0, 417, 1240, 15)) rfl) rfl (hT 102 rfl) rfl rfl ?_
    refine e_0 (f_217 (pc := 15) (e := (15, 0, 1, 0, 0, 0, 0, 16)) rfl) (v := 1) rfl ?_
    refine e_31 (f_217 (pc := 16) (e := (16, 31, 0, 0, 0, 0, 0, 17)) rfl) ?_
    obtain ⟨b2, b3, F⟩ := F
    refine e_110 (f_217 (pc := 17) (e := (17, 110, 0, 0, 0, 0, 0, 18)) rfl) rfl (hT 121 rfl) b2 b3 ?_
    refine e_1 (f_217 (pc := 18) (e := (18, 1, 20, 0, 0, 0, 0, 20)) rfl) (v := 20) rfl ?_
    refine e_71 (f_217 (pc := 20) (e := (20, 71, 54, 0, 0, 0, 0, 23)) rfl) (fun c4 => ?_) (fun c4 => ?_)
    · replace F := F.1 c4
      exact e_122 (f_217 (pc := 54) (e := (54, 122, 0, 0, 0, 0, 0, 0)) rfl) F
    · replace F := F.2 c4
      refine e_12 (f_217 (pc := 23) (e := (23, 12, 0, 0, 0, 0, 0, 24)) rfl) rfl ?_
      refine e_50 (f_217 (pc := 24) (e := (24, 50, 0, 0, 0, 0, 0, 25)) rfl) rfl ?_
      refine e_90 zA (f_217 (pc := 25) (e := (25, 90, 11, 50, 0, 417, 1240, 28)) rfl) rfl (hT 102 rfl) rfl rfl ?_
      refine e_0 (f_217 (pc := 28) (e := (28, 0, 1, 0, 0, 0, 0, 29)) rfl) (v := 1) rfl ?_
      refine e_31 (f_217 (pc := 29) (e := (29, 31, 0, 0, 0, 0, 0, 30)) rfl) ?_
      refine e_91 zA (f_217 (pc := 30) (e := (30, 91, 11, 50, 0, 417, 1240, 33)) rfl) rfl (hT 102 rfl) rfl rfl trivial ?_
      replace F := F _ rfl
      refine e_12 (f_217 (pc := 33) (e := (33, 12, 0, 0, 0, 0, 0, 34)) rfl) rfl ?_
      refine e_50 (f_217 (pc := 34) (e := (34, 50, 0, 0, 0, 0, 0, 35)) rfl) rfl ?_
      refine e_90 zA (f_217 (pc := 35) (e := (35, 90, 11, 51, 0, 423, 1244, 38)) rfl) rfl (hT 102 rfl) rfl rfl ?_
      refine e_0 (f_217 (pc := 38) (e := (38, 0, 1, 0, 0, 0, 0, 39)) rfl) (v := 1) rfl ?_
      refine e_31 (f_217 (pc := 39) (e := (39, 31, 0, 0, 0, 0, 0, 40)) rfl) ?_
      refine e_91 zA (f_217 (pc := 40) (e := (40, 91, 11, 51, 0, 423, 1244, 43)) rfl) rfl (hT 102 rfl) rfl rfl trivial ?_
      replace F := F _ rfl
      refine e_12 (f_217 (pc := 43) (e := (43, 12, 0, 0, 0, 0, 0, 44)) rfl) rfl ?_
      refine e_1 (f_217 (pc := 44) (e := (44, 1, 20, 0, 0, 0, 0, 46)) rfl) (v := 20) rfl ?_
      refine e_0 (f_217 (pc := 46) (e := (46, 0, 0, 0, 0, 0, 0, 47)) rfl) (v := 0) rfl ?_
      refine e_0 (f_217 (pc := 47) (e := (47, 0, 0, 0, 0, 0, 0, 48)) rfl) (v := 0) rfl ?_
      refine e_130 (f_217 (pc := 48) (e := (48, 130, 169, 0, 11, 420, 1271, 51)) rfl) zA (as := [yr (some 102), yi 20, yi 0, yi 0]) (rest := []) rfl rfl rfl rfl (Nat.le_of_ble_eq_true rfl) (Nat.le_of_ble_eq_true rfl) ⟨_, _, _, rfl, (hT 102 rfl)⟩ (mc := 0) (ms := 0) (Nat.zero_le _) (Nat.zero_le _) ?_
      refine e_K ?_ F
      rintro r h' ⟨I7, rfl, rfl, F⟩
      refine e_80 (f_217 (pc := 51) (e := (51, 80, 0, 0, 0, 0, 0, 54)) rfl) ?_
      refine e_lo [0] rfl ?_
      exact F

/-! now(I)I -/
set_option maxRecDepth 20000 in
theorem B_218_0 (hT : yLT T) (hR : yLR R) {x1 : Int} (F : ∀ I1, I1 = yU I 102 0 0 → (yW l zSS D cy zFk z d 218 bc bs K 0 0 15 [(0, yr (some 102)), (1, yi x1), (2, yi 0), (3, yi 0), (4, yi 0), (5, yi 0)] [] (N, T, R, I1))) :
    yW l zSS D cy zFk z d 218 bc bs K 0 0 0 [(0, yr (some 102)), (1, yi x1)] [] (N, T, R, I) := by
  refine e_12 (f_218 (pc := 0) (e := (0, 12, 0, 0, 0, 0, 0, 1)) rfl) rfl ?_
  refine e_0 (f_218 (pc := 1) (e := (1, 0, 0, 0, 0, 0, 0, 2)) rfl) (v := 0) rfl ?_
  refine e_91 zA (f_218 (pc := 2) (e := (2, 91, 11, 0, 0, 1, 1216, 5)) rfl) rfl (hT 102 rfl) rfl rfl trivial ?_
  replace F := F _ rfl
  refine e_0 (f_218 (pc := 5) (e := (5, 0, 0, 0, 0, 0, 0, 6)) rfl) (v := 0) rfl ?_
  refine e_20 (f_218 (pc := 6) (e := (6, 20, 2, 0, 0, 0, 0, 7)) rfl) ?_
  refine e_0 (f_218 (pc := 7) (e := (7, 0, 0, 0, 0, 0, 0, 8)) rfl) (v := 0) rfl ?_
  refine e_20 (f_218 (pc := 8) (e := (8, 20, 3, 0, 0, 0, 0, 9)) rfl) ?_
  refine e_0 (f_218 (pc := 9) (e := (9, 0, 0, 0, 0, 0, 0, 10)) rfl) (v := 0) rfl ?_
  refine e_21 (f_218 (pc := 10) (e := (10, 21, 4, 0, 0, 0, 0, 12)) rfl) ?_
  refine e_0 (f_218 (pc := 12) (e := (12, 0, 0, 0, 0, 0, 0, 13)) rfl) (v := 0) rfl ?_
  refine e_21 (f_218 (pc := 13) (e := (13, 21, 5, 0, 0, 0, 0, 15)) rfl) ?_
  refine e_lo [0, 1, 2, 3, 4, 5] rfl ?_
  exact F
set_option maxRecDepth 20000 in
theorem B_218_15 (hT : yLT T) (hR : yLR R) {x1 x2 x3 x4 x5 : Int} (F : ((I 104 2) ≤ x5 → (x1 = 0 → K (some (yi (I 104 458))) (N, T, R, I)) ∧ (¬ (x1 = 0) → (x1 = 1 → K (some (yi x2)) (N, T, R, I)) ∧ (¬ (x1 = 1) → (x1 = 2 → K (some (yi x3)) (N, T, R, I)) ∧ (¬ (x1 = 2) → (x1 = 3 → K (some (yi (I 104 459))) (N, T, R, I)) ∧ (¬ (x1 = 3) → (x1 = 4 → K (some (yi (I 104 460))) (N, T, R, I)) ∧ (¬ (x1 = 4) → (x1 = 5 → K (some (yi x4)) (N, T, R, I)) ∧ (¬ (x1 = 5) → K (some (yi (-1))) (N, T, R, I)))))))) ∧ (¬ ((I 104 2) ≤ x5) → 0 ≤ (yadd 470 x5) ∧ (yadd 470 x5) < 1188 ∧ (((I 104 (yadd 470 x5).toNat) < 0 → 0 ≤ (yadd 510 x5) ∧ (yadd 510 x5) < 1188 ∧ (((I 104 (yadd 510 x5).toNat) < 0 → 0 ≤ (yadd 502 x5) ∧ (yadd 502 x5) < 1188 ∧ (yW l zSS D cy zFk z d 218 bc bs K 0 0 15 [(0, yr (some 102)), (1, yi x1), (2, yi (yadd x2 0)), (3, yi (yadd x3 0)), (4, yi (yadd x4 (I 104 (yadd 502 x5).toNat))), (5, yi (yadd x5 1))] [] (N, T, R, I))) ∧ (¬ ((I 104 (yadd 510 x5).toNat) < 0) → 0 ≤ (yadd 502 x5) ∧ (yadd 502 x5) < 1188 ∧ (yW l zSS D cy zFk z d 218 bc bs K 0 0 15 [(0, yr (some 102)), (1, yi x1), (2, yi (yadd x2 0)), (3, yi (yadd x3 1)), (4, yi (yadd x4 (I 104 (yadd 502 x5).toNat))), (5, yi (yadd x5 1))] [] (N, T, R, I))))) ∧ (¬ ((I 104 (yadd 470 x5).toNat) < 0) → 0 ≤ (yadd 510 x5) ∧ (yadd 510 x5) < 1188 ∧ (((I 104 (yadd 510 x5).toNat) < 0 → 0 ≤ (yadd 502 x5) ∧ (yadd 502 x5) < 1188 ∧ (yW l zSS D cy zFk z d 218 bc bs K 0 0 15 [(0, yr (some 102)), (1, yi x1), (2, yi (yadd x2 1)), (3, yi (yadd x3 0)), (4, yi (yadd x4 (I 104 (yadd 502 x5).toNat))), (5, yi (yadd x5 1))] [] (N, T, R, I))) ∧ (¬ ((I 104 (yadd 510 x5).toNat) < 0) → 0 ≤ (yadd 502 x5) ∧ (yadd 502 x5) < 1188 ∧ (yW l zSS D cy zFk z d 218 bc bs K 0 0 15 [(0, yr (some 102)), (1, yi x1), (2, yi (yadd x2 1)), (3, yi (yadd x3 1)), (4, yi (yadd x4 (I 104 (yadd 502 x5).toNat))), (5, yi (yadd x5 1))] [] (N, T, R, I)))))))) :
    yW l zSS D cy zFk z d 218 bc bs K 0 0 15 [(0, yr (some 102)), (1, yi x1), (2, yi x2), (3, yi x3), (4, yi x4), (5, yi x5)] [] (N, T, R, I) := by
  refine e_11 (f_218 (pc := 15) (e := (15, 11, 5, 0, 0, 0, 0, 17)) rfl) rfl ?_
  refine e_12 (f_218 (pc := 17) (e := (17, 12, 0, 0, 0, 0, 0, 18)) rfl) rfl ?_
  refine e_90r zA (f_218 (pc := 18) (e := (18, 90, 11, 6, 3, 33, 1159, 21)) rfl) rfl (hT 102 rfl) rfl rfl (hR 102 6 rfl) ?_
  refine e_0 (f_218 (pc := 21) (e := (21, 0, 2, 0, 0, 0, 0, 22)) rfl) (v := 2) rfl ?_
  refine e_110 (f_218 (pc := 22) (e := (22, 110, 0, 0, 0, 0, 0, 23)) rfl) rfl (hT 104 rfl) (by decide) (by decide) ?_
  refine e_73 (f_218 (pc := 23) (e := (23, 73, 92, 0, 0, 0, 0, 26)) rfl) (fun c1 => ?_) (fun c1 => ?_)
  · replace F := F.1 c1
    refine e_10 (f_218 (pc := 92) (e := (92, 10, 1, 0, 0, 0, 0, 93)) rfl) rfl ?_
    refine e_83 (f_218 (pc := 93) (e := (93, 83, 2147483648, 6, 12, 0, 0, 166)) rfl) (v := x1) (low := 0) rfl ?_
    by_cases c2 : x1 = 0
    · replace F := F.1 c2
      rw [show ySw 0 (yTg zGG 12) 166 x1 = 132 from by rw [c2]; rfl]
      refine e_12 (f_218 (pc := 132) (e := (132, 12, 0, 0, 0, 0, 0, 133)) rfl) rfl ?_
      refine e_90r zA (f_218 (pc := 133) (e := (133, 90, 11, 6, 3, 33, 1159, 136)) rfl) rfl (hT 102 rfl) rfl rfl (hR 102 6 rfl) ?_
      refine e_2 (f_218 (pc := 136) (e := (136, 2, 458, 0, 0, 0, 0, 139)) rfl) (v := 458) rfl ?_
      refine e_110 (f_218 (pc := 139) (e := (139, 110, 0, 0, 0, 0, 0, 140)) rfl) rfl (hT 104 rfl) (by decide) (by decide) ?_
      exact e_120 (f_218 (pc := 140) (e := (140, 120, 0, 0, 0, 0, 0, 141)) rfl) F
    · replace F := F.2 c2
      by_cases c3 : x1 = 1
      · replace F := F.1 c3
        rw [show ySw 0 (yTg zGG 12) 166 x1 = 141 from by rw [c3]; rfl]
        refine e_10 (f_218 (pc := 141) (e := (141, 10, 2, 0, 0, 0, 0, 142)) rfl) rfl ?_
        exact e_120 (f_218 (pc := 142) (e := (142, 120, 0, 0, 0, 0, 0, 143)) rfl) F
      · replace F := F.2 c3
        by_cases c4 : x1 = 2
        · replace F := F.1 c4
          rw [show ySw 0 (yTg zGG 12) 166 x1 = 143 from by rw [c4]; rfl]
          refine e_10 (f_218 (pc := 143) (e := (143, 10, 3, 0, 0, 0, 0, 144)) rfl) rfl ?_
          exact e_120 (f_218 (pc := 144) (e := (144, 120, 0, 0, 0, 0, 0, 145)) rfl) F
        · replace F := F.2 c4
          by_cases c5 : x1 = 3
          · replace F := F.1 c5
            rw [show ySw 0 (yTg zGG 12) 166 x1 = 145 from by rw [c5]; rfl]
            refine e_12 (f_218 (pc := 145) (e := (145, 12, 0, 0, 0, 0, 0, 146)) rfl) rfl ?_
            refine e_90r zA (f_218 (pc := 146) (e := (146, 90, 11, 6, 3, 33, 1159, 149)) rfl) rfl (hT 102 rfl) rfl rfl (hR 102 6 rfl) ?_
            refine e_2 (f_218 (pc := 149) (e := (149, 2, 459, 0, 0, 0, 0, 152)) rfl) (v := 459) rfl ?_
            refine e_110 (f_218 (pc := 152) (e := (152, 110, 0, 0, 0, 0, 0, 153)) rfl) rfl (hT 104 rfl) (by decide) (by decide) ?_
            exact e_120 (f_218 (pc := 153) (e := (153, 120, 0, 0, 0, 0, 0, 154)) rfl) F
          · replace F := F.2 c5
            by_cases c6 : x1 = 4
            · replace F := F.1 c6
              rw [show ySw 0 (yTg zGG 12) 166 x1 = 154 from by rw [c6]; rfl]
              refine e_12 (f_218 (pc := 154) (e := (154, 12, 0, 0, 0, 0, 0, 155)) rfl) rfl ?_
              refine e_90r zA (f_218 (pc := 155) (e := (155, 90, 11, 6, 3, 33, 1159, 158)) rfl) rfl (hT 102 rfl) rfl rfl (hR 102 6 rfl) ?_
              refine e_2 (f_218 (pc := 158) (e := (158, 2, 460, 0, 0, 0, 0, 161)) rfl) (v := 460) rfl ?_
              refine e_110 (f_218 (pc := 161) (e := (161, 110, 0, 0, 0, 0, 0, 162)) rfl) rfl (hT 104 rfl) (by decide) (by decide) ?_
              exact e_120 (f_218 (pc := 162) (e := (162, 120, 0, 0, 0, 0, 0, 163)) rfl) F
            · replace F := F.2 c6
              by_cases c7 : x1 = 5
              · replace F := F.1 c7
                rw [show ySw 0 (yTg zGG 12) 166 x1 = 163 from by rw [c7]; rfl]
                refine e_11 (f_218 (pc := 163) (e := (163, 11, 4, 0, 0, 0, 0, 165)) rfl) rfl ?_
                exact e_120 (f_218 (pc := 165) (e := (165, 120, 0, 0, 0, 0, 0, 166)) rfl) F
              · replace F := F.2 c7
                rw [show ySw 0 (yTg zGG 12) 166 x1 = 166 from ySw_out (n := 6) rfl (by omega)]
                refine e_0 (f_218 (pc := 166) (e := (166, 0, 4294967295, 0, 0, 0, 0, 167)) rfl) (v := (-1)) rfl ?_
                exact e_120 (f_218 (pc := 167) (e := (167, 120, 0, 0, 0, 0, 0, 0)) rfl) F
  · replace F := F.2 c1
    refine e_10 (f_218 (pc := 26) (e := (26, 10, 2, 0, 0, 0, 0, 27)) rfl) rfl ?_
    refine e_12 (f_218 (pc := 27) (e := (27, 12, 0, 0, 0, 0, 0, 28)) rfl) rfl ?_
    refine e_90r zA (f_218 (pc := 28) (e := (28, 90, 11, 6, 3, 33, 1159, 31)) rfl) rfl (hT 102 rfl) rfl rfl (hR 102 6 rfl) ?_
    refine e_2 (f_218 (pc := 31) (e := (31, 2, 470, 0, 0, 0, 0, 34)) rfl) (v := 470) rfl ?_
    refine e_11 (f_218 (pc := 34) (e := (34, 11, 5, 0, 0, 0, 0, 36)) rfl) rfl ?_
    refine e_30 (f_218 (pc := 36) (e := (36, 30, 0, 0, 0, 0, 0, 37)) rfl) ?_
    obtain ⟨b8, b9, F⟩ := F
    refine e_110 (f_218 (pc := 37) (e := (37, 110, 0, 0, 0, 0, 0, 38)) rfl) rfl (hT 104 rfl) b8 b9 ?_
    refine e_62 (f_218 (pc := 38) (e := (38, 62, 45, 0, 0, 0, 0, 41)) rfl) (fun c10 => ?_) (fun c10 => ?_)
    · replace F := F.1 c10
      refine e_0 (f_218 (pc := 45) (e := (45, 0, 0, 0, 0, 0, 0, 46)) rfl) (v := 0) rfl ?_
      refine e_30 (f_218 (pc := 46) (e := (46, 30, 0, 0, 0, 0, 0, 47)) rfl) ?_
      refine e_20 (f_218 (pc := 47) (e := (47, 20, 2, 0, 0, 0, 0, 48)) rfl) ?_
      refine e_10 (f_218 (pc := 48) (e := (48, 10, 3, 0, 0, 0, 0, 49)) rfl) rfl ?_
      refine e_12 (f_218 (pc := 49) (e := (49, 12, 0, 0, 0, 0, 0, 50)) rfl) rfl ?_
      refine e_90r zA (f_218 (pc := 50) (e := (50, 90, 11, 6, 3, 33, 1159, 53)) rfl) rfl (hT 102 rfl) rfl rfl (hR 102 6 rfl) ?_
      refine e_2 (f_218 (pc := 53) (e := (53, 2, 510, 0, 0, 0, 0, 56)) rfl) (v := 510) rfl ?_
      refine e_11 (f_218 (pc := 56) (e := (56, 11, 5, 0, 0, 0, 0, 58)) rfl) rfl ?_
      refine e_30 (f_218 (pc := 58) (e := (58, 30, 0, 0, 0, 0, 0, 59)) rfl) ?_
      obtain ⟨b11, b12, F⟩ := F
      refine e_110 (f_218 (pc := 59) (e := (59, 110, 0, 0, 0, 0, 0, 60)) rfl) rfl (hT 104 rfl) b11 b12 ?_
      refine e_62 (f_218 (pc := 60) (e := (60, 62, 67, 0, 0, 0, 0, 63)) rfl) (fun c13 => ?_) (fun c13 => ?_)
      · replace F := F.1 c13
        refine e_0 (f_218 (pc := 67) (e := (67, 0, 0, 0, 0, 0, 0, 68)) rfl) (v := 0) rfl ?_
        refine e_30 (f_218 (pc := 68) (e := (68, 30, 0, 0, 0, 0, 0, 69)) rfl) ?_
        refine e_20 (f_218 (pc := 69) (e := (69, 20, 3, 0, 0, 0, 0, 70)) rfl) ?_
        refine e_11 (f_218 (pc := 70) (e := (70, 11, 4, 0, 0, 0, 0, 72)) rfl) rfl ?_
        refine e_12 (f_218 (pc := 72) (e := (72, 12, 0, 0, 0, 0, 0, 73)) rfl) rfl ?_
        refine e_90r zA (f_218 (pc := 73) (e := (73, 90, 11, 6, 3, 33, 1159, 76)) rfl) rfl (hT 102 rfl) rfl rfl (hR 102 6 rfl) ?_
        refine e_2 (f_218 (pc := 76) (e := (76, 2, 502, 0, 0, 0, 0, 79)) rfl) (v := 502) rfl ?_
        refine e_11 (f_218 (pc := 79) (e := (79, 11, 5, 0, 0, 0, 0, 81)) rfl) rfl ?_
        refine e_30 (f_218 (pc := 81) (e := (81, 30, 0, 0, 0, 0, 0, 82)) rfl) ?_
        obtain ⟨b14, b15, F⟩ := F
        refine e_110 (f_218 (pc := 82) (e := (82, 110, 0, 0, 0, 0, 0, 83)) rfl) rfl (hT 104 rfl) b14 b15 ?_
        refine e_30 (f_218 (pc := 83) (e := (83, 30, 0, 0, 0, 0, 0, 84)) rfl) ?_
        refine e_21 (f_218 (pc := 84) (e := (84, 21, 4, 0, 0, 0, 0, 86)) rfl) ?_
        refine e_26 (f_218 (pc := 86) (e := (86, 26, 5, 1, 0, 0, 0, 89)) rfl) (w := 1) rfl rfl ?_
        refine e_80 (f_218 (pc := 89) (e := (89, 80, 15, 0, 0, 0, 0, 92)) rfl) ?_
        refine e_lo [0, 1, 2, 3, 4, 5] rfl ?_
        exact F
      · replace F := F.2 c13
        refine e_0 (f_218 (pc := 63) (e := (63, 0, 1, 0, 0, 0, 0, 64)) rfl) (v := 1) rfl ?_
        refine e_80 (f_218 (pc := 64) (e := (64, 80, 68, 0, 0, 0, 0, 67)) rfl) ?_
        refine e_30 (f_218 (pc := 68) (e := (68, 30, 0, 0, 0, 0, 0, 69)) rfl) ?_
        refine e_20 (f_218 (pc := 69) (e := (69, 20, 3, 0, 0, 0, 0, 70)) rfl) ?_
        refine e_11 (f_218 (pc := 70) (e := (70, 11, 4, 0, 0, 0, 0, 72)) rfl) rfl ?_
        refine e_12 (f_218 (pc := 72) (e := (72, 12, 0, 0, 0, 0, 0, 73)) rfl) rfl ?_
        refine e_90r zA (f_218 (pc := 73) (e := (73, 90, 11, 6, 3, 33, 1159, 76)) rfl) rfl (hT 102 rfl) rfl rfl (hR 102 6 rfl) ?_
        refine e_2 (f_218 (pc := 76) (e := (76, 2, 502, 0, 0, 0, 0, 79)) rfl) (v := 502) rfl ?_
        refine e_11 (f_218 (pc := 79) (e := (79, 11, 5, 0, 0, 0, 0, 81)) rfl) rfl ?_
        refine e_30 (f_218 (pc := 81) (e := (81, 30, 0, 0, 0, 0, 0, 82)) rfl) ?_
        obtain ⟨b16, b17, F⟩ := F
        refine e_110 (f_218 (pc := 82) (e := (82, 110, 0, 0, 0, 0, 0, 83)) rfl) rfl (hT 104 rfl) b16 b17 ?_
        refine e_30 (f_218 (pc := 83) (e := (83, 30, 0, 0, 0, 0, 0, 84)) rfl) ?_
        refine e_21 (f_218 (pc := 84) (e := (84, 21, 4, 0, 0, 0, 0, 86)) rfl) ?_
        refine e_26 (f_218 (pc := 86) (e := (86, 26, 5, 1, 0, 0, 0, 89)) rfl) (w := 1) rfl rfl ?_
        refine e_80 (f_218 (pc := 89) (e := (89, 80, 15, 0, 0, 0, 0, 92)) rfl) ?_
        refine e_lo [0, 1, 2, 3, 4, 5] rfl ?_
        exact F
    · replace F := F.2 c10
      refine e_0 (f_218 (pc := 41) (e := (41, 0, 1, 0, 0, 0, 0, 42)) rfl) (v := 1) rfl ?_
      refine e_80 (f_218 (pc := 42) (e := (42, 80, 46, 0, 0, 0, 0, 45)) rfl) ?_
      refine e_30 (f_218 (pc := 46) (e := (46, 30, 0, 0, 0, 0, 0, 47)) rfl) ?_
      refine e_20 (f_218 (pc := 47) (e := (47, 20, 2, 0, 0, 0, 0, 48)) rfl) ?_
      refine e_10 (f_218 (pc := 48) (e := (48, 10, 3, 0, 0, 0, 0, 49)) rfl) rfl ?_
      refine e_12 (f_218 (pc := 49) (e := (49, 12, 0, 0, 0, 0, 0, 50)) rfl) rfl ?_
      refine e_90r zA (f_218 (pc := 50) (e := (50, 90, 11, 6, 3, 33, 1159, 53)) rfl) rfl (hT 102 rfl) rfl rfl (hR 102 6 rfl) ?_
      refine e_2 (f_218 (pc := 53) (e := (53, 2, 510, 0, 0, 0, 0, 56)) rfl) (v := 510) rfl ?_
      refine e_11 (f_218 (pc := 56) (e := (56, 11, 5, 0, 0, 0, 0, 58)) rfl) rfl ?_
      refine e_30 (f_218 (pc := 58) (e := (58, 30, 0, 0, 0, 0, 0, 59)) rfl) ?_
      obtain ⟨b18, b19, F⟩ := F
      refine e_110 (f_218 (pc := 59) (e := (59, 110, 0, 0, 0, 0, 0, 60)) rfl) rfl (hT 104 rfl) b18 b19 ?_
      refine e_62 (f_218 (pc := 60) (e := (60, 62, 67, 0, 0, 0, 0, 63)) rfl) (fun c20 => ?_) (fun c20 => ?_)
      · replace F := F.1 c20
        refine e_0 (f_218 (pc := 67) (e := (67, 0, 0, 0, 0, 0, 0, 68)) rfl) (v := 0) rfl ?_
        refine e_30 (f_218 (pc := 68) (e := (68, 30, 0, 0, 0, 0, 0, 69)) rfl) ?_
        refine e_20 (f_218 (pc := 69) (e := (69, 20, 3, 0, 0, 0, 0, 70)) rfl) ?_
        refine e_11 (f_218 (pc := 70) (e := (70, 11, 4, 0, 0, 0, 0, 72)) rfl) rfl ?_
        refine e_12 (f_218 (pc := 72) (e := (72, 12, 0, 0, 0, 0, 0, 73)) rfl) rfl ?_
        refine e_90r zA (f_218 (pc := 73) (e := (73, 90, 11, 6, 3, 33, 1159, 76)) rfl) rfl (hT 102 rfl) rfl rfl (hR 102 6 rfl) ?_
        refine e_2 (f_218 (pc := 76) (e := (76, 2, 502, 0, 0, 0, 0, 79)) rfl) (v := 502) rfl ?_
        refine e_11 (f_218 (pc := 79) (e := (79, 11, 5, 0, 0, 0, 0, 81)) rfl) rfl ?_
        refine e_30 (f_218 (pc := 81) (e := (81, 30, 0, 0, 0, 0, 0, 82)) rfl) ?_
        obtain ⟨b21, b22, F⟩ := F
        refine e_110 (f_218 (pc := 82) (e := (82, 110, 0, 0, 0, 0, 0, 83)) rfl) rfl (hT 104 rfl) b21 b22 ?_
        refine e_30 (f_218 (pc := 83) (e := (83, 30, 0, 0, 0, 0, 0, 84)) rfl) ?_
        refine e_21 (f_218 (pc := 84) (e := (84, 21, 4, 0, 0, 0, 0, 86)) rfl) ?_
        refine e_26 (f_218 (pc := 86) (e := (86, 26, 5, 1, 0, 0, 0, 89)) rfl) (w := 1) rfl rfl ?_
        refine e_80 (f_218 (pc := 89) (e := (89, 80, 15, 0, 0, 0, 0, 92)) rfl) ?_
        refine e_lo [0, 1, 2, 3, 4, 5] rfl ?_
        exact F
      · replace F := F.2 c20
        refine e_0 (f_218 (pc := 63) (e := (63, 0, 1, 0, 0, 0, 0, 64)) rfl) (v := 1) rfl ?_
        refine e_80 (f_218 (pc := 64) (e := (64, 80, 68, 0, 0, 0, 0, 67)) rfl) ?_
        refine e_30 (f_218 (pc := 68) (e := (68, 30, 0, 0, 0, 0, 0, 69)) rfl) ?_
        refine e_20 (f_218 (pc := 69) (e := (69, 20, 3, 0, 0, 0, 0, 70)) rfl) ?_
        refine e_11 (f_218 (pc := 70) (e := (70, 11, 4, 0, 0, 0, 0, 72)) rfl) rfl ?_
        refine e_12 (f_218 (pc := 72) (e := (72, 12, 0, 0, 0, 0, 0, 73)) rfl) rfl ?_
        refine e_90r zA (f_218 (pc := 73) (e := (73, 90, 11, 6, 3, 33, 1159, 76)) rfl) rfl (hT 102 rfl) rfl rfl (hR 102 6 rfl) ?_
        refine e_2 (f_218 (pc := 76) (e := (76, 2, 502, 0, 0, 0, 0, 79)) rfl) (v := 502) rfl ?_
        refine e_11 (f_218 (pc := 79) (e := (79, 11, 5, 0, 0, 0, 0, 81)) rfl) rfl ?_
        refine e_30 (f_218 (pc := 81) (e := (81, 30, 0, 0, 0, 0, 0, 82)) rfl) ?_
        obtain ⟨b23, b24, F⟩ := F
        refine e_110 (f_218 (pc := 82) (e := (82, 110, 0, 0, 0, 0, 0, 83)) rfl) rfl (hT 104 rfl) b23 b24 ?_
        refine e_30 (f_218 (pc := 83) (e := (83, 30, 0, 0, 0, 0, 0, 84)) rfl) ?_
        refine e_21 (f_218 (pc := 84) (e := (84, 21, 4, 0, 0, 0, 0, 86)) rfl) ?_
        refine e_26 (f_218 (pc := 86) (e := (86, 26, 5, 1, 0, 0, 0, 89)) rfl) (w := 1) rfl rfl ?_
        refine e_80 (f_218 (pc := 89) (e := (89, 80, 15, 0, 0, 0, 0, 92)) rfl) ?_
        refine e_lo [0, 1, 2, 3, 4, 5] rfl ?_
        exact F

/-! odds(II)I -/
set_option maxRecDepth 20000 in
theorem B_219_0 (hT : yLT T) (hR : yLR R) {x1 x2 : Int} (F : ∀ I1, I1 = yU I 102 0 0 → (yW l zSS D cy zFk z d 191 0 0 (fun r h' => ∃ r3 I2, r = some (yi r3) ∧ h' = (N, T, R, I2) ∧ ((r3 = 0 → K (some (yi (-1))) (N, T, R, I2)) ∧ (¬ (r3 = 0) → ((I2 104 2) ≠ 0 → yW l zSS D cy zFk z d 249 0 0 (fun r h' => ∃ I6, r = none ∧ h' = (N, T, R, I6) ∧ (yW l zSS D cy zFk z (d + 1) 219 bc bs K 0 0 35 [(0, yr (some 102)), (1, yi x1), (2, yi x2), (3, yi 0), (4, yi 0)] [] (N, T, R, I6))) 0 0 0 [(0, yr (some 102))] [] (N, T, R, I2)) ∧ (¬ ((I2 104 2) ≠ 0) → K (some (yi (-1))) (N, T, R, I2))))) 0 0 0 [(0, yi x1), (1, yi 1), (2, yi 40)] [] (N, T, R, I1))) :
    yW l zSS D cy zFk z (d + 1) 219 bc bs K 0 0 0 [(0, yr (some 102)), (1, yi x1), (2, yi x2)] [] (N, T, R, I) := by
  refine e_12 (f_219 (pc := 0) (e := (0, 12, 0, 0, 0, 0, 0, 1)) rfl) rfl ?_
  refine e_0 (f_219 (pc := 1) (e := (1, 0, 0, 0, 0, 0, 0, 2)) rfl) (v := 0) rfl ?_
  refine e_91 zA (f_219 (pc := 2) (e := (2, 91, 11, 0, 0, 1, 1216, 5)) rfl) rfl (hT 102 rfl) rfl rfl trivial ?_
  replace F := F _ rfl
  refine e_10 (f_219 (pc := 5) (e := (5, 10, 1, 0, 0, 0, 0, 6)) rfl) rfl ?_
  refine e_0 (f_219 (pc := 6) (e := (6, 0, 1, 0, 0, 0, 0, 7)) rfl) (v := 1) rfl ?_
  refine e_1 (f_219 (pc := 7) (e := (7, 1, 40, 0, 0, 0, 0, 9)) rfl) (v := 40) rfl ?_
  refine e_132 (f_219 (pc := 9) (e := (9, 132, 191, 2, 11, 193, 1245, 12)) rfl) zA (as := [yi x1, yi 1, yi 40]) (rest := []) rfl rfl rfl rfl (Nat.le_of_ble_eq_true rfl) (Nat.le_of_ble_eq_true rfl) (mc := 0) (ms := 0) (Nat.zero_le _) (Nat.zero_le _) ?_
  refine e_K ?_ F
  rintro r h' ⟨r3, I2, rfl, rfl, F⟩
  refine e_60 (f_219 (pc := 12) (e := (12, 60, 24, 0, 0, 0, 0, 15)) rfl) (fun c4 => ?_) (fun c4 => ?_)
  · replace F := F.1 c4
    refine e_0 (f_219 (pc := 24) (e := (24, 0, 4294967295, 0, 0, 0, 0, 25)) rfl) (v := (-1)) rfl ?_
    exact e_120 (f_219 (pc := 25) (e := (25, 120, 0, 0, 0, 0, 0, 26)) rfl) F
  · replace F := F.2 c4
    refine e_12 (f_219 (pc := 15) (e := (15, 12, 0, 0, 0, 0, 0, 16)) rfl) rfl ?_
    refine e_90r zA (f_219 (pc := 16) (e := (16, 90, 11, 6, 3, 33, 1159, 19)) rfl) rfl (hT 102 rfl) rfl rfl (hR 102 6 rfl) ?_
    refine e_0 (f_219 (pc := 19) (e := (19, 0, 2, 0, 0, 0, 0, 20)) rfl) (v := 2) rfl ?_
    refine e_110 (f_219 (pc := 20) (e := (20, 110, 0, 0, 0, 0, 0, 21)) rfl) rfl (hT 104 rfl) (by decide) (by decide) ?_
    refine e_61 (f_219 (pc := 21) (e := (21, 61, 26, 0, 0, 0, 0, 24)) rfl) (fun c5 => ?_) (fun c5 => ?_)
    · replace F := F.1 c5
      refine e_12 (f_219 (pc := 26) (e := (26, 12, 0, 0, 0, 0, 0, 27)) rfl) rfl ?_
      refine e_130 (f_219 (pc := 27) (e := (27, 130, 249, 0, 11, 374, 1234, 30)) rfl) zA (as := [yr (some 102)]) (rest := []) rfl rfl rfl rfl (Nat.le_of_ble_eq_true rfl) (Nat.le_of_ble_eq_true rfl) ⟨_, _, _, rfl, (hT 102 rfl)⟩ (mc := 0) (ms := 0) (Nat.zero_le _) (Nat.zero_le _) ?_
      refine e_K ?_ F
      rintro r h' ⟨I6, rfl, rfl, F⟩
      refine e_0 (f_219 (pc := 30) (e := (30, 0, 0, 0, 0, 0, 0, 31)) rfl) (v := 0) rfl ?_
      refine e_20 (f_219 (pc := 31) (e := (31, 20, 3, 0, 0, 0, 0, 32)) rfl) ?_
      refine e_0 (f_219 (pc := 32) (e := (32, 0, 0, 0, 0, 0, 0, 33)) rfl) (v := 0) rfl ?_
      refine e_21 (f_219 (pc := 33) (e := (33, 21, 4, 0, 0, 0, 0, 35)) rfl) ?_
      refine e_lo [0, 1, 2, 3, 4] rfl ?_
      exact F
    · replace F := F.2 c5
      refine e_0 (f_219 (pc := 24) (e := (24, 0, 4294967295, 0, 0, 0, 0, 25)) rfl) (v := (-1)) rfl ?_
      exact e_120 (f_219 (pc := 25) (e := (25, 120, 0, 0, 0, 0, 0, 26)) rfl) F
set_option maxRecDepth 20000 in
theorem B_219_35 (hT : yLT T) (hR : yLR R) {x1 x2 x3 x4 : Int} (F : (x1 ≤ x4 → K (some (yi x3)) (N, T, R, I)) ∧ (¬ (x1 ≤ x4) → yW l zSS D cy zFk z d 239 0 0 (fun r h' => ∃ I2, r = none ∧ h' = (N, T, R, I2) ∧ (yW l zSS D cy zFk z d 193 0 0 (fun r h' => ∃ r4 I3, r = some (yi r4) ∧ h' = (N, T, R, I3) ∧ ((r4 = 0 → yW l zSS D cy zFk z d 158 0 0 (fun r h' => ∃ I6, r = none ∧ h' = (N, T, R, I6) ∧ (yW l zSS D cy zFk z (d + 1) 219 bc bs K 0 0 35 [(0, yr (some 102)), (1, yi x1), (2, yi x2), (3, yi (yadd x3 0)), (4, yi (yadd x4 1))] [] (N, T, R, I6))) 0 0 0 [(0, yr (some 102))] [] (N, T, R, I3)) ∧ (¬ (r4 = 0) → yW l zSS D cy zFk z d 158 0 0 (fun r h' => ∃ I7, r = none ∧ h' = (N, T, R, I7) ∧ (yW l zSS D cy zFk z (d + 1) 219 bc bs K 0 0 35 [(0, yr (some 102)), (1, yi x1), (2, yi x2), (3, yi (yadd x3 1)), (4, yi (yadd x4 1))] [] (N, T, R, I7))) 0 0 0 [(0, yr (some 102))] [] (N, T, R, I3)))) 0 0 0 [(0, yr (some 102))] [] (N, T, R, I2))) 0 0 0 [(0, yr (some 102)), (1, yi (yadd x2 x4))] [] (N, T, R, I))) :
    yW l zSS D cy zFk z (d + 1) 219 bc bs K 0 0 35 [(0, yr (some 102)), (1, yi x1), (2, yi x2), (3, yi x3), (4, yi x4)] [] (N, T, R, I) := by
  refine e_11 (f_219 (pc := 35) (e := (35, 11, 4, 0, 0, 0, 0, 37)) rfl) rfl ?_
  refine e_10 (f_219 (pc := 37) (e := (37, 10, 1, 0, 0, 0, 0, 38)) rfl) rfl ?_
  refine e_73 (f_219 (pc := 38) (e := (38, 73, 74, 0, 0, 0, 0, 41)) rfl) (fun c1 => ?_) (fun c1 => ?_)
  · replace F := F.1 c1
    refine e_10 (f_219 (pc := 74) (e := (74, 10, 3, 0, 0, 0, 0, 75)) rfl) rfl ?_
    exact e_120 (f_219 (pc := 75) (e := (75, 120, 0, 0, 0, 0, 0, 0)) rfl) F
  · replace F := F.2 c1
    refine e_12 (f_219 (pc := 41) (e := (41, 12, 0, 0, 0, 0, 0, 42)) rfl) rfl ?_
    refine e_10 (f_219 (pc := 42) (e := (42, 10, 2, 0, 0, 0, 0, 43)) rfl) rfl ?_
    refine e_11 (f_219 (pc := 43) (e := (43, 11, 4, 0, 0, 0, 0, 45)) rfl) rfl ?_
    refine e_30 (f_219 (pc := 45) (e := (45, 30, 0, 0, 0, 0, 0, 46)) rfl) ?_
    refine e_130 (f_219 (pc := 46) (e := (46, 130, 239, 0, 11, 402, 1256, 49)) rfl) zA (as := [yr (some 102), yi _]) (rest := []) rfl rfl rfl rfl (Nat.le_of_ble_eq_true rfl) (Nat.le_of_ble_eq_true rfl) ⟨_, _, _, rfl, (hT 102 rfl)⟩ (mc := 0) (ms := 0) (Nat.zero_le _) (Nat.zero_le _) ?_
    refine e_K ?_ F
    rintro r h' ⟨I2, rfl, rfl, F⟩
    refine e_10 (f_219 (pc := 49) (e := (49, 10, 3, 0, 0, 0, 0, 50)) rfl) rfl ?_
    refine e_12 (f_219 (pc := 50) (e := (50, 12, 0, 0, 0, 0, 0, 51)) rfl) rfl ?_
    refine e_130 (f_219 (pc := 51) (e := (51, 130, 193, 0, 11, 389, 1235, 54)) rfl) zA (as := [yr (some 102)]) (rest := [yi x3]) rfl rfl rfl rfl (Nat.le_of_ble_eq_true rfl) (Nat.le_of_ble_eq_true rfl) ⟨_, _, _, rfl, (hT 102 rfl)⟩ (mc := 0) (ms := 0) (Nat.zero_le _) (Nat.zero_le _) ?_
    refine e_K ?_ F
    rintro r h' ⟨r4, I3, rfl, rfl, F⟩
    refine e_60 (f_219 (pc := 54) (e := (54, 60, 61, 0, 0, 0, 0, 57)) rfl) (fun c5 => ?_) (fun c5 => ?_)
    · replace F := F.1 c5
      refine e_0 (f_219 (pc := 61) (e := (61, 0, 0, 0, 0, 0, 0, 62)) rfl) (v := 0) rfl ?_
      refine e_30 (f_219 (pc := 62) (e := (62, 30, 0, 0, 0, 0, 0, 63)) rfl) ?_
      refine e_20 (f_219 (pc := 63) (e := (63, 20, 3, 0, 0, 0, 0, 64)) rfl) ?_
      refine e_12 (f_219 (pc := 64) (e := (64, 12, 0, 0, 0, 0, 0, 65)) rfl) rfl ?_
      refine e_130 (f_219 (pc := 65) (e := (65, 130, 158, 0, 11, 383, 1236, 68)) rfl) zA (as := [yr (some 102)]) (rest := []) rfl rfl rfl rfl (Nat.le_of_ble_eq_true rfl) (Nat.le_of_ble_eq_true rfl) ⟨_, _, _, rfl, (hT 102 rfl)⟩ (mc := 0) (ms := 0) (Nat.zero_le _) (Nat.zero_le _) ?_
      refine e_K ?_ F
      rintro r h' ⟨I6, rfl, rfl, F⟩
      refine e_26 (f_219 (pc := 68) (e := (68, 26, 4, 1, 0, 0, 0, 71)) rfl) (w := 1) rfl rfl ?_
      refine e_80 (f_219 (pc := 71) (e := (71, 80, 35, 0, 0, 0, 0, 74)) rfl) ?_
      refine e_lo [0, 1, 2, 3, 4] rfl ?_
      exact F
    · replace F := F.2 c5
      refine e_0 (f_219 (pc := 57) (e := (57, 0, 1, 0, 0, 0, 0, 58)) rfl) (v := 1) rfl ?_
      refine e_80 (f_219 (pc := 58) (e := (58, 80, 62, 0, 0, 0, 0, 61)) rfl) ?_
      refine e_30 (f_219 (pc := 62) (e := (62, 30, 0, 0, 0, 0, 0, 63)) rfl) ?_
      refine e_20 (f_219 (pc := 63) (e := (63, 20, 3, 0, 0, 0, 0, 64)) rfl) ?_
      refine e_12 (f_219 (pc := 64) (e := (64, 12, 0, 0, 0, 0, 0, 65)) rfl) rfl ?_
      refine e_130 (f_219 (pc := 65) (e := (65, 130, 158, 0, 11, 383, 1236, 68)) rfl) zA (as := [yr (some 102)]) (rest := []) rfl rfl rfl rfl (Nat.le_of_ble_eq_true rfl) (Nat.le_of_ble_eq_true rfl) ⟨_, _, _, rfl, (hT 102 rfl)⟩ (mc := 0) (ms := 0) (Nat.zero_le _) (Nat.zero_le _) ?_
      refine e_K ?_ F
      rintro r h' ⟨I7, rfl, rfl, F⟩
      refine e_26 (f_219 (pc := 68) (e := (68, 26, 4, 1, 0, 0, 0, 71)) rfl) (w := 1) rfl rfl ?_
      refine e_80 (f_219 (pc := 71) (e := (71, 80, 35, 0, 0, 0, 0, 74)) rfl) ?_
      refine e_lo [0, 1, 2, 3, 4] rfl ?_
      exact F
end Sy
