/-! BLOCKS of the reference, printed by wip/whole/y/gen73.py (4) -/
section Sy
variable {l : Launch} {D : va_G} {cy : Nat → ClassId} {z d bc bs N : Nat} {T : Nat → Nat × Nat} {R : Nat → Nat → Option Nat} {I : Nat → Nat → Int} {K : yKo}
/-! spreadsKnot(I)V -/
set_option maxRecDepth 20000 in
theorem B_238_0 (hT : yLT T) (hR : yLR R) {x1 : Int} (F : 0 ≤ x1 ∧ x1 < 50653 ∧ (yW l zSS D cy zFk z d 238 bc bs K 0 0 9 [(0, yr (some 102)), (1, yi x1), (2, yi (I 116 x1.toNat)), (3, yi 0)] [] (N, T, R, I))) :
    yW l zSS D cy zFk z d 238 bc bs K 0 0 0 [(0, yr (some 102)), (1, yi x1)] [] (N, T, R, I) := by
  refine e_12 (f_238 (pc := 0) (e := (0, 12, 0, 0, 0, 0, 0, 1)) rfl) rfl ?_
  refine e_90r zA (f_238 (pc := 1) (e := (1, 90, 11, 37, 3, 72, 1172, 4)) rfl) rfl (hT 102 rfl) rfl rfl (hR 102 37 rfl) ?_
  refine e_10 (f_238 (pc := 4) (e := (4, 10, 1, 0, 0, 0, 0, 5)) rfl) rfl ?_
  obtain ⟨b1, b2, F⟩ := F
  refine e_110 (f_238 (pc := 5) (e := (5, 110, 0, 0, 0, 0, 0, 6)) rfl) rfl (hT 116 rfl) b1 b2 ?_
  refine e_20 (f_238 (pc := 6) (e := (6, 20, 2, 0, 0, 0, 0, 7)) rfl) ?_
  refine e_0 (f_238 (pc := 7) (e := (7, 0, 0, 0, 0, 0, 0, 8)) rfl) (v := 0) rfl ?_
  refine e_20 (f_238 (pc := 8) (e := (8, 20, 3, 0, 0, 0, 0, 9)) rfl) ?_
  refine e_lo [0, 1, 2, 3] rfl ?_
  exact F
set_option maxRecDepth 20000 in
theorem B_238_9 (hT : yLT T) (hR : yLR R) {x1 x2 x3 : Int} (F : ((I 102 40) ≤ x3 → K none (N, T, R, I)) ∧ (¬ ((I 102 40) ≤ x3) → yW l zSS D cy zFk z d 171 0 0 (fun r h' => ∃ r3 I2, r = some (yi r3) ∧ h' = (N, T, R, I2) ∧ (yW l zSS D cy zFk z d 166 0 0 (fun r h' => ∃ r5 I4, r = some (yi r5) ∧ h' = (N, T, R, I4) ∧ (yW l zSS D cy zFk z (d + 1) 238 bc bs K 0 0 31 [(0, yr (some 102)), (1, yi x1), (2, yi x2), (3, yi x3), (4, yi r5), (5, yi 0)] [] (N, T, R, I4))) 0 0 0 [(0, yr (some 102)), (1, yi r3)] [] (N, T, R, I2))) 0 0 0 [(0, yi x2), (1, yi x3)] [] (N, T, R, I))) :
    yW l zSS D cy zFk z (d + 1) 238 bc bs K 0 0 9 [(0, yr (some 102)), (1, yi x1), (2, yi x2), (3, yi x3)] [] (N, T, R, I) := by
  refine e_10 (f_238 (pc := 9) (e := (9, 10, 3, 0, 0, 0, 0, 10)) rfl) rfl ?_
  refine e_12 (f_238 (pc := 10) (e := (10, 12, 0, 0, 0, 0, 0, 11)) rfl) rfl ?_
  refine e_90 zA (f_238 (pc := 11) (e := (11, 90, 11, 40, 0, 348, 1300, 14)) rfl) rfl (hT 102 rfl) rfl rfl ?_
  refine e_73 (f_238 (pc := 14) (e := (14, 73, 223, 0, 0, 0, 0, 17)) rfl) (fun c1 => ?_) (fun c1 => ?_)
  · replace F := F.1 c1
    exact e_122 (f_238 (pc := 223) (e := (223, 122, 0, 0, 0, 0, 0, 0)) rfl) F
  · replace F := F.2 c1
    refine e_12 (f_238 (pc := 17) (e := (17, 12, 0, 0, 0, 0, 0, 18)) rfl) rfl ?_
    refine e_10 (f_238 (pc := 18) (e := (18, 10, 2, 0, 0, 0, 0, 19)) rfl) rfl ?_
    refine e_10 (f_238 (pc := 19) (e := (19, 10, 3, 0, 0, 0, 0, 20)) rfl) rfl ?_
    refine e_132 (f_238 (pc := 20) (e := (20, 132, 171, 2, 11, 351, 1301, 23)) rfl) zA (as := [yi x2, yi x3]) (rest := [yr (some 102)]) rfl rfl rfl rfl (Nat.le_of_ble_eq_true rfl) (Nat.le_of_ble_eq_true rfl) (mc := 0) (ms := 0) (Nat.zero_le _) (Nat.zero_le _) ?_
    refine e_K ?_ F
    rintro r h' ⟨r3, I2, rfl, rfl, F⟩
    refine e_130 (f_238 (pc := 23) (e := (23, 130, 166, 0, 11, 354, 1302, 26)) rfl) zA (as := [yr (some 102), yi r3]) (rest := []) rfl rfl rfl rfl (Nat.le_of_ble_eq_true rfl) (Nat.le_of_ble_eq_true rfl) ⟨_, _, _, rfl, (hT 102 rfl)⟩ (mc := 0) (ms := 0) (Nat.zero_le _) (Nat.zero_le _) ?_
    refine e_K ?_ F
    rintro r h' ⟨r5, I4, rfl, rfl, F⟩
    refine e_21 (f_238 (pc := 26) (e := (26, 21, 4, 0, 0, 0, 0, 28)) rfl) ?_
    refine e_0 (f_238 (pc := 28) (e := (28, 0, 0, 0, 0, 0, 0, 29)) rfl) (v := 0) rfl ?_
    refine e_21 (f_238 (pc := 29) (e := (29, 21, 5, 0, 0, 0, 0, 31)) rfl) ?_
    refine e_lo [0, 1, 2, 3, 4, 5] rfl ?_
    exact F
set_option maxRecDepth 20000 in
theorem B_238_31 (hT : yLT T) (hR : yLR R) {x1 x2 x3 x4 x5 : Int} (F : (4 ≤ x5 → yW l zSS D cy zFk z (d + 1) 238 bc bs K 0 0 217 [(0, yr (some 102)), (1, yi x1), (2, yi x2), (3, yi x3)] [] (N, T, R, I)) ∧ (¬ (4 ≤ x5) → (x4 < 0 → yW l zSS D cy zFk z (d + 1) 238 bc bs K 0 0 217 [(0, yr (some 102)), (1, yi x1), (2, yi x2), (3, yi x3)] [] (N, T, R, I)) ∧ (¬ (x4 < 0) → yW l zSS D cy zFk z d 242 0 0 (fun r h' => ∃ r4 I3, r = some (yi r4) ∧ h' = (N, T, R, I3) ∧ ((0 ≤ r4 → yW l zSS D cy zFk z (d + 1) 238 bc bs K 0 0 66 [(0, yr (some 102)), (1, yi x1), (2, yi x2), (3, yi x3), (4, yi x4), (5, yi x5), (6, yi r4), (7, yi 0), (8, yi 0)] [] (N, T, R, I3)) ∧ (¬ (0 ≤ r4) → yW l zSS D cy zFk z (d + 1) 238 bc bs K 0 0 211 [(0, yr (some 102)), (1, yi x1), (2, yi x2), (3, yi x3), (4, yi x4), (5, yi x5)] [] (N, T, R, I3)))) 0 0 0 [(0, yr (some 102)), (1, yi x4), (2, yi x5)] [] (N, T, R, I)))) :
    yW l zSS D cy zFk z (d + 1) 238 bc bs K 0 0 31 [(0, yr (some 102)), (1, yi x1), (2, yi x2), (3, yi x3), (4, yi x4), (5, yi x5)] [] (N, T, R, I) := by
  refine e_11 (f_238 (pc := 31) (e := (31, 11, 5, 0, 0, 0, 0, 33)) rfl) rfl ?_
  refine e_0 (f_238 (pc := 33) (e := (33, 0, 4, 0, 0, 0, 0, 34)) rfl) (v := 4) rfl ?_
  refine e_73 (f_238 (pc := 34) (e := (34, 73, 217, 0, 0, 0, 0, 37)) rfl) (fun c1 => ?_) (fun c1 => ?_)
  · replace F := F.1 c1
    refine e_lo [0, 1, 2, 3] rfl ?_
    exact F
  · replace F := F.2 c1
    refine e_11 (f_238 (pc := 37) (e := (37, 11, 4, 0, 0, 0, 0, 39)) rfl) rfl ?_
    refine e_62 (f_238 (pc := 39) (e := (39, 62, 217, 0, 0, 0, 0, 42)) rfl) (fun c2 => ?_) (fun c2 => ?_)
    · replace F := F.1 c2
      refine e_lo [0, 1, 2, 3] rfl ?_
      exact F
    · replace F := F.2 c2
      refine e_12 (f_238 (pc := 42) (e := (42, 12, 0, 0, 0, 0, 0, 43)) rfl) rfl ?_
      refine e_11 (f_238 (pc := 43) (e := (43, 11, 4, 0, 0, 0, 0, 45)) rfl) rfl ?_
      refine e_11 (f_238 (pc := 45) (e := (45, 11, 5, 0, 0, 0, 0, 47)) rfl) rfl ?_
      refine e_130 (f_238 (pc := 47) (e := (47, 130, 242, 0, 11, 282, 1252, 50)) rfl) zA (as := [yr (some 102), yi x4, yi x5]) (rest := []) rfl rfl rfl rfl (Nat.le_of_ble_eq_true rfl) (Nat.le_of_ble_eq_true rfl) ⟨_, _, _, rfl, (hT 102 rfl)⟩ (mc := 0) (ms := 0) (Nat.zero_le _) (Nat.zero_le _) ?_
      refine e_K ?_ F
      rintro r h' ⟨r4, I3, rfl, rfl, F⟩
      refine e_21 (f_238 (pc := 50) (e := (50, 21, 6, 0, 0, 0, 0, 52)) rfl) ?_
      refine e_11 (f_238 (pc := 52) (e := (52, 11, 6, 0, 0, 0, 0, 54)) rfl) rfl ?_
      refine e_63 (f_238 (pc := 54) (e := (54, 63, 60, 0, 0, 0, 0, 57)) rfl) (fun c5 => ?_) (fun c5 => ?_)
      · replace F := F.1 c5
        refine e_0 (f_238 (pc := 60) (e := (60, 0, 0, 0, 0, 0, 0, 61)) rfl) (v := 0) rfl ?_
        refine e_21 (f_238 (pc := 61) (e := (61, 21, 7, 0, 0, 0, 0, 63)) rfl) ?_
        refine e_0 (f_238 (pc := 63) (e := (63, 0, 0, 0, 0, 0, 0, 64)) rfl) (v := 0) rfl ?_
        refine e_21 (f_238 (pc := 64) (e := (64, 21, 8, 0, 0, 0, 0, 66)) rfl) ?_
        refine e_lo [0, 1, 2, 3, 4, 5, 6, 7, 8] rfl ?_
        exact F
      · replace F := F.2 c5
        refine e_80 (f_238 (pc := 57) (e := (57, 80, 211, 0, 0, 0, 0, 60)) rfl) ?_
        refine e_lo [0, 1, 2, 3, 4, 5] rfl ?_
        exact F
set_option maxRecDepth 20000 in
theorem B_238_66 (hT : yLT T) (hR : yLR R) {x1 x2 x3 x4 x5 x6 x7 x8 : Int} (F : ((I 102 40) ≤ x8 → 0 ≤ (yadd 210 x6) ∧ (yadd 210 x6) < 1188 ∧ ((x7 ≤ (I 104 (yadd 210 x6).toNat) → (x3 ≠ 0 → (x3 ≠ 1 → yW l zSS D cy zFk z (d + 1) 238 bc bs K 0 0 152 [(0, yr (some 102)), (1, yi x1), (2, yi x2), (3, yi x3), (4, yi x4), (5, yi x5), (6, yi x6)] [yi 1369] (N, T, R, I)) ∧ (¬ (x3 ≠ 1) → yW l zSS D cy zFk z (d + 1) 238 bc bs K 0 0 152 [(0, yr (some 102)), (1, yi x1), (2, yi x2), (3, yi x3), (4, yi x4), (5, yi x5), (6, yi x6)] [yi 37] (N, T, R, I))) ∧ (¬ (x3 ≠ 0) → yW l zSS D cy zFk z (d + 1) 238 bc bs K 0 0 152 [(0, yr (some 102)), (1, yi x1), (2, yi x2), (3, yi x3), (4, yi x4), (5, yi x5), (6, yi x6)] [yi 1] (N, T, R, I))) ∧ (¬ (x7 ≤ (I 104 (yadd 210 x6).toNat)) → yW l zSS D cy zFk z (d + 1) 238 bc bs K 0 0 211 [(0, yr (some 102)), (1, yi x1), (2, yi x2), (3, yi x3), (4, yi x4), (5, yi x5)] [] (N, T, R, I)))) ∧ (¬ ((I 102 40) ≤ x8) → (x8 = x3 → yW l zSS D cy zFk z (d + 1) 238 bc bs K 0 0 102 [(0, yr (some 102)), (1, yi x1), (2, yi x2), (3, yi x3), (4, yi x4), (5, yi x5), (6, yi x6), (8, yi x8)] [yi x7] (N, T, R, I)) ∧ (¬ (x8 = x3) → yW l zSS D cy zFk z d 171 0 0 (fun r h' => ∃ r9 I8, r = some (yi r9) ∧ h' = (N, T, R, I8) ∧ (yW l zSS D cy zFk z d 166 0 0 (fun r h' => ∃ r11 I10, r = some (yi r11) ∧ h' = (N, T, R, I10) ∧ ((r11 ≠ x6 → yW l zSS D cy zFk z (d + 1) 238 bc bs K 0 0 102 [(0, yr (some 102)), (1, yi x1), (2, yi x2), (3, yi x3), (4, yi x4), (5, yi x5), (6, yi x6), (8, yi x8)] [yi x7] (N, T, R, I10)) ∧ (¬ (r11 ≠ x6) → yW l zSS D cy zFk z (d + 1) 238 bc bs K 0 0 103 [(0, yr (some 102)), (1, yi x1), (2, yi x2), (3, yi x3), (4, yi x4), (5, yi x5), (6, yi x6), (8, yi x8)] [yi 1, yi x7] (N, T, R, I10)))) 0 0 0 [(0, yr (some 102)), (1, yi r9)] [] (N, T, R, I8))) 0 0 0 [(0, yi x2), (1, yi x8)] [] (N, T, R, I)))) :
    yW l zSS D cy zFk z (d + 1) 238 bc bs K 0 0 66 [(0, yr (some 102)), (1, yi x1), (2, yi x2), (3, yi x3), (4, yi x4), (5, yi x5), (6, yi x6), (7, yi x7), (8, yi x8)] [] (N, T, R, I) := by
  refine e_11 (f_238 (pc := 66) (e := (66, 11, 8, 0, 0, 0, 0, 68)) rfl) rfl ?_
  refine e_12 (f_238 (pc := 68) (e := (68, 12, 0, 0, 0, 0, 0, 69)) rfl) rfl ?_
  refine e_90 zA (f_238 (pc := 69) (e := (69, 90, 11, 40, 0, 348, 1300, 72)) rfl) rfl (hT 102 rfl) rfl rfl ?_
  refine e_73 (f_238 (pc := 72) (e := (72, 73, 112, 0, 0, 0, 0, 75)) rfl) (fun c1 => ?_) (fun c1 => ?_)
  · replace F := F.1 c1
    refine e_11 (f_238 (pc := 112) (e := (112, 11, 7, 0, 0, 0, 0, 114)) rfl) rfl ?_
    refine e_12 (f_238 (pc := 114) (e := (114, 12, 0, 0, 0, 0, 0, 115)) rfl) rfl ?_
    refine e_90r zA (f_238 (pc := 115) (e := (115, 90, 11, 6, 3, 33, 1159, 118)) rfl) rfl (hT 102 rfl) rfl rfl (hR 102 6 rfl) ?_
    refine e_2 (f_238 (pc := 118) (e := (118, 2, 210, 0, 0, 0, 0, 121)) rfl) (v := 210) rfl ?_
    refine e_11 (f_238 (pc := 121) (e := (121, 11, 6, 0, 0, 0, 0, 123)) rfl) rfl ?_
    refine e_30 (f_238 (pc := 123) (e := (123, 30, 0, 0, 0, 0, 0, 124)) rfl) ?_
    obtain ⟨b2, b3, F⟩ := F
    refine e_110 (f_238 (pc := 124) (e := (124, 110, 0, 0, 0, 0, 0, 125)) rfl) rfl (hT 104 rfl) b2 b3 ?_
    refine e_75 (f_238 (pc := 125) (e := (125, 75, 131, 0, 0, 0, 0, 128)) rfl) (fun c4 => ?_) (fun c4 => ?_)
    · replace F := F.1 c4
      refine e_10 (f_238 (pc := 131) (e := (131, 10, 3, 0, 0, 0, 0, 132)) rfl) rfl ?_
      refine e_61 (f_238 (pc := 132) (e := (132, 61, 139, 0, 0, 0, 0, 135)) rfl) (fun c5 => ?_) (fun c5 => ?_)
      · replace F := F.1 c5
        refine e_10 (f_238 (pc := 139) (e := (139, 10, 3, 0, 0, 0, 0, 140)) rfl) rfl ?_
        refine e_0 (f_238 (pc := 140) (e := (140, 0, 1, 0, 0, 0, 0, 141)) rfl) (v := 1) rfl ?_
        refine e_71 (f_238 (pc := 141) (e := (141, 71, 149, 0, 0, 0, 0, 144)) rfl) (fun c6 => ?_) (fun c6 => ?_)
        · replace F := F.1 c6
          refine e_2 (f_238 (pc := 149) (e := (149, 2, 1369, 0, 0, 0, 0, 152)) rfl) (v := 1369) rfl ?_
          refine e_lo [0, 1, 2, 3, 4, 5, 6] rfl ?_
          exact F
        · replace F := F.2 c6
          refine e_1 (f_238 (pc := 144) (e := (144, 1, 37, 0, 0, 0, 0, 146)) rfl) (v := 37) rfl ?_
          refine e_80 (f_238 (pc := 146) (e := (146, 80, 152, 0, 0, 0, 0, 149)) rfl) ?_
          refine e_lo [0, 1, 2, 3, 4, 5, 6] rfl ?_
          exact F
      · replace F := F.2 c5
        refine e_0 (f_238 (pc := 135) (e := (135, 0, 1, 0, 0, 0, 0, 136)) rfl) (v := 1) rfl ?_
        refine e_80 (f_238 (pc := 136) (e := (136, 80, 152, 0, 0, 0, 0, 139)) rfl) ?_
        refine e_lo [0, 1, 2, 3, 4, 5, 6] rfl ?_
        exact F
    · replace F := F.2 c4
      refine e_80 (f_238 (pc := 128) (e := (128, 80, 211, 0, 0, 0, 0, 131)) rfl) ?_
      refine e_lo [0, 1, 2, 3, 4, 5] rfl ?_
      exact F
  · replace F := F.2 c1
    refine e_11 (f_238 (pc := 75) (e := (75, 11, 7, 0, 0, 0, 0, 77)) rfl) rfl ?_
    refine e_11 (f_238 (pc := 77) (e := (77, 11, 8, 0, 0, 0, 0, 79)) rfl) rfl ?_
    refine e_10 (f_238 (pc := 79) (e := (79, 10, 3, 0, 0, 0, 0, 80)) rfl) rfl ?_
    refine e_70 (f_238 (pc := 80) (e := (80, 70, 102, 0, 0, 0, 0, 83)) rfl) (fun c7 => ?_) (fun c7 => ?_)
    · replace F := F.1 c7
      refine e_lo [0, 1, 2, 3, 4, 5, 6, 8] rfl ?_
      exact F
    · replace F := F.2 c7
      refine e_12 (f_238 (pc := 83) (e := (83, 12, 0, 0, 0, 0, 0, 84)) rfl) rfl ?_
      refine e_10 (f_238 (pc := 84) (e := (84, 10, 2, 0, 0, 0, 0, 85)) rfl) rfl ?_
      refine e_11 (f_238 (pc := 85) (e := (85, 11, 8, 0, 0, 0, 0, 87)) rfl) rfl ?_
      refine e_132 (f_238 (pc := 87) (e := (87, 132, 171, 2, 11, 351, 1301, 90)) rfl) zA (as := [yi x2, yi x8]) (rest := [yr (some 102), yi x7]) rfl rfl rfl rfl (Nat.le_of_ble_eq_true rfl) (Nat.le_of_ble_eq_true rfl) (mc := 0) (ms := 0) (Nat.zero_le _) (Nat.zero_le _) ?_
      refine e_K ?_ F
      rintro r h' ⟨r9, I8, rfl, rfl, F⟩
      refine e_130 (f_238 (pc := 90) (e := (90, 130, 166, 0, 11, 354, 1302, 93)) rfl) zA (as := [yr (some 102), yi r9]) (rest := [yi x7]) rfl rfl rfl rfl (Nat.le_of_ble_eq_true rfl) (Nat.le_of_ble_eq_true rfl) ⟨_, _, _, rfl, (hT 102 rfl)⟩ (mc := 0) (ms := 0) (Nat.zero_le _) (Nat.zero_le _) ?_
      refine e_K ?_ F
      rintro r h' ⟨r11, I10, rfl, rfl, F⟩
      refine e_11 (f_238 (pc := 93) (e := (93, 11, 6, 0, 0, 0, 0, 95)) rfl) rfl ?_
      refine e_71 (f_238 (pc := 95) (e := (95, 71, 102, 0, 0, 0, 0, 98)) rfl) (fun c12 => ?_) (fun c12 => ?_)
      · replace F := F.1 c12
        refine e_lo [0, 1, 2, 3, 4, 5, 6, 8] rfl ?_
        exact F
      · replace F := F.2 c12
        refine e_0 (f_238 (pc := 98) (e := (98, 0, 1, 0, 0, 0, 0, 99)) rfl) (v := 1) rfl ?_
        refine e_80 (f_238 (pc := 99) (e := (99, 80, 103, 0, 0, 0, 0, 102)) rfl) ?_
        refine e_lo [0, 1, 2, 3, 4, 5, 6, 8] rfl ?_
        exact F
set_option maxRecDepth 20000 in
theorem B_238_102 (hT : yLT T) (hR : yLR R) {x1 x2 x3 x4 x5 x6 x8 t0 : Int} (F : yW l zSS D cy zFk z d 238 bc bs K 0 0 103 [(0, yr (some 102)), (1, yi x1), (2, yi x2), (3, yi x3), (4, yi x4), (5, yi x5), (6, yi x6), (8, yi x8)] [yi 0, yi t0] (N, T, R, I)) :
    yW l zSS D cy zFk z d 238 bc bs K 0 0 102 [(0, yr (some 102)), (1, yi x1), (2, yi x2), (3, yi x3), (4, yi x4), (5, yi x5), (6, yi x6), (8, yi x8)] [yi t0] (N, T, R, I) := by
  refine e_0 (f_238 (pc := 102) (e := (102, 0, 0, 0, 0, 0, 0, 103)) rfl) (v := 0) rfl ?_
  refine e_lo [0, 1, 2, 3, 4, 5, 6, 8] rfl ?_
  exact F
set_option maxRecDepth 20000 in
theorem B_238_103 (hT : yLT T) (hR : yLR R) {x1 x2 x3 x4 x5 x6 x8 t0 t1 : Int} (F : yW l zSS D cy zFk z d 238 bc bs K 0 0 66 [(0, yr (some 102)), (1, yi x1), (2, yi x2), (3, yi x3), (4, yi x4), (5, yi x5), (6, yi x6), (7, yi (yadd t1 t0)), (8, yi (yadd x8 1))] [] (N, T, R, I)) :
    yW l zSS D cy zFk z d 238 bc bs K 0 0 103 [(0, yr (some 102)), (1, yi x1), (2, yi x2), (3, yi x3), (4, yi x4), (5, yi x5), (6, yi x6), (8, yi x8)] [yi t0, yi t1] (N, T, R, I) := by
  refine e_30 (f_238 (pc := 103) (e := (103, 30, 0, 0, 0, 0, 0, 104)) rfl) ?_
  refine e_21 (f_238 (pc := 104) (e := (104, 21, 7, 0, 0, 0, 0, 106)) rfl) ?_
  refine e_26 (f_238 (pc := 106) (e := (106, 26, 8, 1, 0, 0, 0, 109)) rfl) (w := 1) rfl rfl ?_
  refine e_80 (f_238 (pc := 109) (e := (109, 80, 66, 0, 0, 0, 0, 112)) rfl) ?_
  refine e_lo [0, 1, 2, 3, 4, 5, 6, 7, 8] rfl ?_
  exact F
set_option maxRecDepth 20000 in
theorem B_238_152 (hT : yLT T) (hR : yLR R) {x1 x2 x3 x4 x5 x6 t0 : Int} (F : 0 ≤ x3 ∧ x3 < 3 ∧ (0 ≤ (yadd 334 (I 117 x3.toNat)) ∧ (yadd 334 (I 117 x3.toNat)) < 1188 ∧ ((x6 ≠ (I 104 (yadd 334 (I 117 x3.toNat)).toNat) → yW l zSS D cy zFk z d 226 0 0 (fun r h' => ∃ r7 I6, r = some (yi r7) ∧ h' = (N, T, R, I6) ∧ (yW l zSS D cy zFk z (d + 1) 238 bc bs K 0 0 185 [(0, yr (some 102)), (1, yi x1), (2, yi x2), (3, yi x3), (4, yi x4), (5, yi x5), (8, yi t0)] [yi r7] (N, T, R, I6))) 0 0 0 [(0, yr (some 102)), (1, yi x6)] [] (N, T, R, I)) ∧ (¬ (x6 ≠ (I 104 (yadd 334 (I 117 x3.toNat)).toNat)) → yW l zSS D cy zFk z (d + 1) 238 bc bs K 0 0 185 [(0, yr (some 102)), (1, yi x1), (2, yi x2), (3, yi x3), (4, yi x4), (5, yi x5), (8, yi t0)] [yi 36] (N, T, R, I))))) :
    yW l zSS D cy zFk z (d + 1) 238 bc bs K 0 0 152 [(0, yr (some 102)), (1, yi x1), (2, yi x2), (3, yi x3), (4, yi x4), (5, yi x5), (6, yi x6)] [yi t0] (N, T, R, I) := by
  refine e_21 (f_238 (pc := 152) (e := (152, 21, 8, 0, 0, 0, 0, 154)) rfl) ?_
  refine e_11 (f_238 (pc := 154) (e := (154, 11, 6, 0, 0, 0, 0, 156)) rfl) rfl ?_
  refine e_12 (f_238 (pc := 156) (e := (156, 12, 0, 0, 0, 0, 0, 157)) rfl) rfl ?_
  refine e_90r zA (f_238 (pc := 157) (e := (157, 90, 11, 6, 3, 33, 1159, 160)) rfl) rfl (hT 102 rfl) rfl rfl (hR 102 6 rfl) ?_
  refine e_2 (f_238 (pc := 160) (e := (160, 2, 334, 0, 0, 0, 0, 163)) rfl) (v := 334) rfl ?_
  refine e_12 (f_238 (pc := 163) (e := (163, 12, 0, 0, 0, 0, 0, 164)) rfl) rfl ?_
  refine e_90r zA (f_238 (pc := 164) (e := (164, 90, 11, 38, 3, 75, 1173, 167)) rfl) rfl (hT 102 rfl) rfl rfl (hR 102 38 rfl) ?_
  refine e_10 (f_238 (pc := 167) (e := (167, 10, 3, 0, 0, 0, 0, 168)) rfl) rfl ?_
  obtain ⟨b1, b2, F⟩ := F
  refine e_110 (f_238 (pc := 168) (e := (168, 110, 0, 0, 0, 0, 0, 169)) rfl) rfl (hT 117 rfl) b1 b2 ?_
  refine e_30 (f_238 (pc := 169) (e := (169, 30, 0, 0, 0, 0, 0, 170)) rfl) ?_
  obtain ⟨b3, b4, F⟩ := F
  refine e_110 (f_238 (pc := 170) (e := (170, 110, 0, 0, 0, 0, 0, 171)) rfl) rfl (hT 104 rfl) b3 b4 ?_
  refine e_71 (f_238 (pc := 171) (e := (171, 71, 179, 0, 0, 0, 0, 174)) rfl) (fun c5 => ?_) (fun c5 => ?_)
  · replace F := F.1 c5
    refine e_12 (f_238 (pc := 179) (e := (179, 12, 0, 0, 0, 0, 0, 180)) rfl) rfl ?_
    refine e_11 (f_238 (pc := 180) (e := (180, 11, 6, 0, 0, 0, 0, 182)) rfl) rfl ?_
    refine e_130 (f_238 (pc := 182) (e := (182, 130, 226, 0, 11, 357, 1303, 185)) rfl) zA (as := [yr (some 102), yi x6]) (rest := []) rfl rfl rfl rfl (Nat.le_of_ble_eq_true rfl) (Nat.le_of_ble_eq_true rfl) ⟨_, _, _, rfl, (hT 102 rfl)⟩ (mc := 0) (ms := 0) (Nat.zero_le _) (Nat.zero_le _) ?_
    refine e_K ?_ F
    rintro r h' ⟨r7, I6, rfl, rfl, F⟩
    refine e_lo [0, 1, 2, 3, 4, 5, 8] rfl ?_
    exact F
  · replace F := F.2 c5
    refine e_1 (f_238 (pc := 174) (e := (174, 1, 36, 0, 0, 0, 0, 176)) rfl) (v := 36) rfl ?_
    refine e_80 (f_238 (pc := 176) (e := (176, 80, 185, 0, 0, 0, 0, 179)) rfl) ?_
    refine e_lo [0, 1, 2, 3, 4, 5, 8] rfl ?_
    exact F
set_option maxRecDepth 20000 in
theorem B_238_185 (hT : yLT T) (hR : yLR R) {x1 x2 x3 x4 x5 x8 t0 : Int} (F : yW l zSS D cy zFk z d 171 0 0 (fun r h' => ∃ r2 I1, r = some (yi r2) ∧ h' = (N, T, R, I1) ∧ (yW l zSS D cy zFk z d 228 0 0 (fun r h' => ∃ I3, r = none ∧ h' = (N, T, R, I3) ∧ (yW l zSS D cy zFk z (d + 1) 238 bc bs K 0 0 211 [(0, yr (some 102)), (1, yi x1), (2, yi x2), (3, yi x3), (4, yi x4), (5, yi x5)] [] (N, T, R, I3))) 0 0 0 [(0, yr (some 102)), (1, yi (yadd x2 (ymul x8 (ysub t0 r2)))), (2, yi x1), (3, yi (yadd (ymul 4 x3) x5))] [] (N, T, R, I1))) 0 0 0 [(0, yi x2), (1, yi x3)] [] (N, T, R, I)) :
    yW l zSS D cy zFk z (d + 1) 238 bc bs K 0 0 185 [(0, yr (some 102)), (1, yi x1), (2, yi x2), (3, yi x3), (4, yi x4), (5, yi x5), (8, yi x8)] [yi t0] (N, T, R, I) := by
  refine e_21 (f_238 (pc := 185) (e := (185, 21, 9, 0, 0, 0, 0, 187)) rfl) ?_
  refine e_12 (f_238 (pc := 187) (e := (187, 12, 0, 0, 0, 0, 0, 188)) rfl) rfl ?_
  refine e_10 (f_238 (pc := 188) (e := (188, 10, 2, 0, 0, 0, 0, 189)) rfl) rfl ?_
  refine e_11 (f_238 (pc := 189) (e := (189, 11, 8, 0, 0, 0, 0, 191)) rfl) rfl ?_
  refine e_11 (f_238 (pc := 191) (e := (191, 11, 9, 0, 0, 0, 0, 193)) rfl) rfl ?_
  refine e_10 (f_238 (pc := 193) (e := (193, 10, 2, 0, 0, 0, 0, 194)) rfl) rfl ?_
  refine e_10 (f_238 (pc := 194) (e := (194, 10, 3, 0, 0, 0, 0, 195)) rfl) rfl ?_
  refine e_132 (f_238 (pc := 195) (e := (195, 132, 171, 2, 11, 351, 1301, 198)) rfl) zA (as := [yi x2, yi x3]) (rest := [yi t0, yi x8, yi x2, yr (some 102)]) rfl rfl rfl rfl (Nat.le_of_ble_eq_true rfl) (Nat.le_of_ble_eq_true rfl) (mc := 0) (ms := 0) (Nat.zero_le _) (Nat.zero_le _) ?_
  refine e_K ?_ F
  rintro r h' ⟨r2, I1, rfl, rfl, F⟩
  refine e_31 (f_238 (pc := 198) (e := (198, 31, 0, 0, 0, 0, 0, 199)) rfl) ?_
  refine e_32 (f_238 (pc := 199) (e := (199, 32, 0, 0, 0, 0, 0, 200)) rfl) ?_
  refine e_30 (f_238 (pc := 200) (e := (200, 30, 0, 0, 0, 0, 0, 201)) rfl) ?_
  refine e_10 (f_238 (pc := 201) (e := (201, 10, 1, 0, 0, 0, 0, 202)) rfl) rfl ?_
  refine e_0 (f_238 (pc := 202) (e := (202, 0, 4, 0, 0, 0, 0, 203)) rfl) (v := 4) rfl ?_
  refine e_10 (f_238 (pc := 203) (e := (203, 10, 3, 0, 0, 0, 0, 204)) rfl) rfl ?_
  refine e_32 (f_238 (pc := 204) (e := (204, 32, 0, 0, 0, 0, 0, 205)) rfl) ?_
  refine e_11 (f_238 (pc := 205) (e := (205, 11, 5, 0, 0, 0, 0, 207)) rfl) rfl ?_
  refine e_30 (f_238 (pc := 207) (e := (207, 30, 0, 0, 0, 0, 0, 208)) rfl) ?_
  refine e_130 (f_238 (pc := 208) (e := (208, 130, 228, 0, 11, 360, 1304, 211)) rfl) zA (as := [yr (some 102), yi _, yi x1, yi _]) (rest := []) rfl rfl rfl rfl (Nat.le_of_ble_eq_true rfl) (Nat.le_of_ble_eq_true rfl) ⟨_, _, _, rfl, (hT 102 rfl)⟩ (mc := 0) (ms := 0) (Nat.zero_le _) (Nat.zero_le _) ?_
  refine e_K ?_ F
  rintro r h' ⟨I3, rfl, rfl, F⟩
  refine e_lo [0, 1, 2, 3, 4, 5] rfl ?_
  exact F
set_option maxRecDepth 20000 in
theorem B_238_211 (hT : yLT T) (hR : yLR R) {x1 x2 x3 x4 x5 : Int} (F : yW l zSS D cy zFk z d 238 bc bs K 0 0 31 [(0, yr (some 102)), (1, yi x1), (2, yi x2), (3, yi x3), (4, yi x4), (5, yi (yadd x5 1))] [] (N, T, R, I)) :
    yW l zSS D cy zFk z d 238 bc bs K 0 0 211 [(0, yr (some 102)), (1, yi x1), (2, yi x2), (3, yi x3), (4, yi x4), (5, yi x5)] [] (N, T, R, I) := by
  refine e_26 (f_238 (pc := 211) (e := (211, 26, 5, 1, 0, 0, 0, 214)) rfl) (w := 1) rfl rfl ?_
  refine e_80 (f_238 (pc := 214) (e := (214, 80, 31, 0, 0, 0, 0, 217)) rfl) ?_
  refine e_lo [0, 1, 2, 3, 4, 5] rfl ?_
  exact F
set_option maxRecDepth 20000 in
theorem B_238_217 (hT : yLT T) (hR : yLR R) {x1 x2 x3 : Int} (F : yW l zSS D cy zFk z d 238 bc bs K 0 0 9 [(0, yr (some 102)), (1, yi x1), (2, yi x2), (3, yi (yadd x3 1))] [] (N, T, R, I)) :
    yW l zSS D cy zFk z d 238 bc bs K 0 0 217 [(0, yr (some 102)), (1, yi x1), (2, yi x2), (3, yi x3)] [] (N, T, R, I) := by
  refine e_26 (f_238 (pc := 217) (e := (217, 26, 3, 1, 0, 0, 0, 220)) rfl) (w := 1) rfl rfl ?_
  refine e_80 (f_238 (pc := 220) (e := (220, 80, 9, 0, 0, 0, 0, 223)) rfl) ?_
  refine e_lo [0, 1, 2, 3] rfl ?_
  exact F

/-! starts(I)V -/
set_option maxRecDepth 20000 in
theorem B_239_0 (hT : yLT T) (hR : yLR R) {x1 : Int} (F : ∀ I1, I1 = yU I 102 44 x1 → (yW l zSS D cy zFk z d 239 bc bs K 0 0 7 [(0, yr (some 102)), (2, yi 0)] [] (N, T, R, I1))) :
    yW l zSS D cy zFk z d 239 bc bs K 0 0 0 [(0, yr (some 102)), (1, yi x1)] [] (N, T, R, I) := by
  refine e_12 (f_239 (pc := 0) (e := (0, 12, 0, 0, 0, 0, 0, 1)) rfl) rfl ?_
  refine e_10 (f_239 (pc := 1) (e := (1, 10, 1, 0, 0, 0, 0, 2)) rfl) rfl ?_
  refine e_91 zA (f_239 (pc := 2) (e := (2, 91, 11, 44, 0, 395, 1253, 5)) rfl) rfl (hT 102 rfl) rfl rfl trivial ?_
  replace F := F _ rfl
  refine e_0 (f_239 (pc := 5) (e := (5, 0, 0, 0, 0, 0, 0, 6)) rfl) (v := 0) rfl ?_
  refine e_20 (f_239 (pc := 6) (e := (6, 20, 2, 0, 0, 0, 0, 7)) rfl) ?_
  refine e_lo [0, 2] rfl ?_
  exact F
set_option maxRecDepth 20000 in
theorem B_239_7 (hT : yLT T) (hR : yLR R) {x2 : Int} (F : ((I 104 2) ≤ x2 → K none (N, T, R, I)) ∧ (¬ ((I 104 2) ≤ x2) → yW l zSS D cy zFk z d 174 0 0 (fun r h' => ∃ r3 I2, r = some (yi r3) ∧ h' = (N, T, R, I2) ∧ (0 ≤ (yadd 462 x2) ∧ (yadd 462 x2) < 1188 ∧ (∀ I6, I6 = yU I2 104 ((yadd 462 x2).toNat) (ynar 1 r3) → (yW l zSS D cy zFk z (d + 1) 239 bc bs K 0 0 7 [(0, yr (some 102)), (2, yi (yadd x2 1))] [] (N, T, R, I6))))) 0 0 0 [(0, yr (some 102)), (1, yi 20)] [] (N, T, R, I))) :
    yW l zSS D cy zFk z (d + 1) 239 bc bs K 0 0 7 [(0, yr (some 102)), (2, yi x2)] [] (N, T, R, I) := by
  refine e_10 (f_239 (pc := 7) (e := (7, 10, 2, 0, 0, 0, 0, 8)) rfl) rfl ?_
  refine e_12 (f_239 (pc := 8) (e := (8, 12, 0, 0, 0, 0, 0, 9)) rfl) rfl ?_
  refine e_90r zA (f_239 (pc := 9) (e := (9, 90, 11, 6, 3, 33, 1159, 12)) rfl) rfl (hT 102 rfl) rfl rfl (hR 102 6 rfl) ?_
  refine e_0 (f_239 (pc := 12) (e := (12, 0, 2, 0, 0, 0, 0, 13)) rfl) (v := 2) rfl ?_
  refine e_110 (f_239 (pc := 13) (e := (13, 110, 0, 0, 0, 0, 0, 14)) rfl) rfl (hT 104 rfl) (by decide) (by decide) ?_
  refine e_73 (f_239 (pc := 14) (e := (14, 73, 39, 0, 0, 0, 0, 17)) rfl) (fun c1 => ?_) (fun c1 => ?_)
  · replace F := F.1 c1
    exact e_122 (f_239 (pc := 39) (e := (39, 122, 0, 0, 0, 0, 0, 0)) rfl) F
  · replace F := F.2 c1
    refine e_12 (f_239 (pc := 17) (e := (17, 12, 0, 0, 0, 0, 0, 18)) rfl) rfl ?_
    refine e_90r zA (f_239 (pc := 18) (e := (18, 90, 11, 6, 3, 33, 1159, 21)) rfl) rfl (hT 102 rfl) rfl rfl (hR 102 6 rfl) ?_
    refine e_2 (f_239 (pc := 21) (e := (21, 2, 462, 0, 0, 0, 0, 24)) rfl) (v := 462) rfl ?_
    refine e_10 (f_239 (pc := 24) (e := (24, 10, 2, 0, 0, 0, 0, 25)) rfl) rfl ?_
    refine e_30 (f_239 (pc := 25) (e := (25, 30, 0, 0, 0, 0, 0, 26)) rfl) ?_
    refine e_12 (f_239 (pc := 26) (e := (26, 12, 0, 0, 0, 0, 0, 27)) rfl) rfl ?_
    refine e_1 (f_239 (pc := 27) (e := (27, 1, 20, 0, 0, 0, 0, 29)) rfl) (v := 20) rfl ?_
    refine e_130 (f_239 (pc := 29) (e := (29, 130, 174, 0, 11, 399, 1305, 32)) rfl) zA (as := [yr (some 102), yi 20]) (rest := [yi _, yr (some 104)]) rfl rfl rfl rfl (Nat.le_of_ble_eq_true rfl) (Nat.le_of_ble_eq_true rfl) ⟨_, _, _, rfl, (hT 102 rfl)⟩ (mc := 0) (ms := 0) (Nat.zero_le _) (Nat.zero_le _) ?_
    refine e_K ?_ F
    rintro r h' ⟨r3, I2, rfl, rfl, F⟩
    obtain ⟨b4, b5, F⟩ := F
    refine e_111 (f_239 (pc := 32) (e := (32, 111, 0, 0, 0, 0, 0, 33)) rfl) rfl (hT 104 rfl) b4 b5 ?_
    replace F := F _ rfl
    refine e_26 (f_239 (pc := 33) (e := (33, 26, 2, 1, 0, 0, 0, 36)) rfl) (w := 1) rfl rfl ?_
    refine e_80 (f_239 (pc := 36) (e := (36, 80, 7, 0, 0, 0, 0, 39)) rfl) ?_
    refine e_lo [0, 2] rfl ?_
    exact F

/-! step(I)I -/
set_option maxRecDepth 20000 in
theorem B_240_0 (hT : yLT T) (hR : yLR R) {x1 : Int} (F : ∀ I1, I1 = yU I 102 0 0 → (yW l zSS D cy zFk z d 191 0 0 (fun r h' => ∃ r3 I2, r = some (yi r3) ∧ h' = (N, T, R, I2) ∧ ((r3 = 0 → K (some (yi (-1))) (N, T, R, I2)) ∧ (¬ (r3 = 0) → 0 ≤ x1 ∧ x1 < 400 ∧ (K (some (yi (I2 118 x1.toNat))) (N, T, R, I2))))) 0 0 0 [(0, yi x1), (1, yi 0), (2, yi (ysub (I1 102 42) 1))] [] (N, T, R, I1))) :
    yW l zSS D cy zFk z (d + 1) 240 bc bs K 0 0 0 [(0, yr (some 102)), (1, yi x1)] [] (N, T, R, I) := by
  refine e_12 (f_240 (pc := 0) (e := (0, 12, 0, 0, 0, 0, 0, 1)) rfl) rfl ?_
  refine e_0 (f_240 (pc := 1) (e := (1, 0, 0, 0, 0, 0, 0, 2)) rfl) (v := 0) rfl ?_
  refine e_91 zA (f_240 (pc := 2) (e := (2, 91, 11, 0, 0, 1, 1216, 5)) rfl) rfl (hT 102 rfl) rfl rfl trivial ?_
  replace F := F _ rfl
  refine e_10 (f_240 (pc := 5) (e := (5, 10, 1, 0, 0, 0, 0, 6)) rfl) rfl ?_
  refine e_0 (f_240 (pc := 6) (e := (6, 0, 0, 0, 0, 0, 0, 7)) rfl) (v := 0) rfl ?_
  refine e_12 (f_240 (pc := 7) (e := (7, 12, 0, 0, 0, 0, 0, 8)) rfl) rfl ?_
  refine e_90 zA (f_240 (pc := 8) (e := (8, 90, 11, 42, 0, 371, 1274, 11)) rfl) rfl (hT 102 rfl) rfl rfl ?_
  refine e_0 (f_240 (pc := 11) (e := (11, 0, 1, 0, 0, 0, 0, 12)) rfl) (v := 1) rfl ?_
  refine e_31 (f_240 (pc := 12) (e := (12, 31, 0, 0, 0, 0, 0, 13)) rfl) ?_
  refine e_132 (f_240 (pc := 13) (e := (13, 132, 191, 2, 11, 193, 1245, 16)) rfl) zA (as := [yi x1, yi 0, yi _]) (rest := []) rfl rfl rfl rfl (Nat.le_of_ble_eq_true rfl) (Nat.le_of_ble_eq_true rfl) (mc := 0) (ms := 0) (Nat.zero_le _) (Nat.zero_le _) ?_
  refine e_K ?_ F
  rintro r h' ⟨r3, I2, rfl, rfl, F⟩
  refine e_60 (f_240 (pc := 16) (e := (16, 60, 28, 0, 0, 0, 0, 19)) rfl) (fun c4 => ?_) (fun c4 => ?_)
  · replace F := F.1 c4
    refine e_0 (f_240 (pc := 28) (e := (28, 0, 4294967295, 0, 0, 0, 0, 29)) rfl) (v := (-1)) rfl ?_
    exact e_120 (f_240 (pc := 29) (e := (29, 120, 0, 0, 0, 0, 0, 0)) rfl) F
  · replace F := F.2 c4
    refine e_12 (f_240 (pc := 19) (e := (19, 12, 0, 0, 0, 0, 0, 20)) rfl) rfl ?_
    refine e_90r zA (f_240 (pc := 20) (e := (20, 90, 11, 39, 3, 78, 1174, 23)) rfl) rfl (hT 102 rfl) rfl rfl (hR 102 39 rfl) ?_
    refine e_10 (f_240 (pc := 23) (e := (23, 10, 1, 0, 0, 0, 0, 24)) rfl) rfl ?_
    obtain ⟨b5, b6, F⟩ := F
    refine e_110 (f_240 (pc := 24) (e := (24, 110, 0, 0, 0, 0, 0, 25)) rfl) rfl (hT 118 rfl) b5 b6 ?_
    refine e_80 (f_240 (pc := 25) (e := (25, 80, 29, 0, 0, 0, 0, 28)) rfl) ?_
    exact e_120 (f_240 (pc := 29) (e := (29, 120, 0, 0, 0, 0, 0, 0)) rfl) F

/-! stepOf(I)I -/
set_option maxRecDepth 20000 in
theorem B_241_0 (hT : yLT T) (hR : yLR R) {x1 : Int} (F : 0 ≤ (yadd 470 x1) ∧ (yadd 470 x1) < 1188 ∧ (((I 104 (yadd 470 x1).toNat) < 0 → K (some (yi (-1))) (N, T, R, I)) ∧ (¬ ((I 104 (yadd 470 x1).toNat) < 0) → 0 ≤ (yadd (ymul 100 x1) (I 104 (yadd 470 x1).toNat)) ∧ (yadd (ymul 100 x1) (I 104 (yadd 470 x1).toNat)) < 800 ∧ ((1 ≤ (I 109 (yadd (ymul 100 x1) (I 104 (yadd 470 x1).toNat)).toNat) → yW l zSS D cy zFk z d 241 bc bs K 0 0 34 [(0, yr (some 102)), (1, yi x1), (2, yi (I 104 (yadd 470 x1).toNat)), (3, yi 0)] [] (N, T, R, I)) ∧ (¬ (1 ≤ (I 109 (yadd (ymul 100 x1) (I 104 (yadd 470 x1).toNat)).toNat)) → K (some (yi (-1))) (N, T, R, I)))))) :
    yW l zSS D cy zFk z d 241 bc bs K 0 0 0 [(0, yr (some 102)), (1, yi x1)] [] (N, T, R, I) := by
  refine e_12 (f_241 (pc := 0) (e := (0, 12, 0, 0, 0, 0, 0, 1)) rfl) rfl ?_
  refine e_90r zA (f_241 (pc := 1) (e := (1, 90, 11, 6, 3, 33, 1159, 4)) rfl) rfl (hT 102 rfl) rfl rfl (hR 102 6 rfl) ?_
  refine e_2 (f_241 (pc := 4) (e := (4, 2, 470, 0, 0, 0, 0, 7)) rfl) (v := 470) rfl ?_
  refine e_10 (f_241 (pc := 7) (e := (7, 10, 1, 0, 0, 0, 0, 8)) rfl) rfl ?_
  refine e_30 (f_241 (pc := 8) (e := (8, 30, 0, 0, 0, 0, 0, 9)) rfl) ?_
  obtain ⟨b1, b2, F⟩ := F
  refine e_110 (f_241 (pc := 9) (e := (9, 110, 0, 0, 0, 0, 0, 10)) rfl) rfl (hT 104 rfl) b1 b2 ?_
  refine e_20 (f_241 (pc := 10) (e := (10, 20, 2, 0, 0, 0, 0, 11)) rfl) ?_
  refine e_10 (f_241 (pc := 11) (e := (11, 10, 2, 0, 0, 0, 0, 12)) rfl) rfl ?_
  refine e_62 (f_241 (pc := 12) (e := (12, 62, 30, 0, 0, 0, 0, 15)) rfl) (fun c3 => ?_) (fun c3 => ?_)
  · replace F := F.1 c3
    refine e_0 (f_241 (pc := 30) (e := (30, 0, 4294967295, 0, 0, 0, 0, 31)) rfl) (v := (-1)) rfl ?_
    exact e_120 (f_241 (pc := 31) (e := (31, 120, 0, 0, 0, 0, 0, 32)) rfl) F
  · replace F := F.2 c3
    refine e_12 (f_241 (pc := 15) (e := (15, 12, 0, 0, 0, 0, 0, 16)) rfl) rfl ?_
    refine e_90r zA (f_241 (pc := 16) (e := (16, 90, 11, 24, 3, 50, 1164, 19)) rfl) rfl (hT 102 rfl) rfl rfl (hR 102 24 rfl) ?_
    refine e_1 (f_241 (pc := 19) (e := (19, 1, 100, 0, 0, 0, 0, 21)) rfl) (v := 100) rfl ?_
    refine e_10 (f_241 (pc := 21) (e := (21, 10, 1, 0, 0, 0, 0, 22)) rfl) rfl ?_
    refine e_32 (f_241 (pc := 22) (e := (22, 32, 0, 0, 0, 0, 0, 23)) rfl) ?_
    refine e_10 (f_241 (pc := 23) (e := (23, 10, 2, 0, 0, 0, 0, 24)) rfl) rfl ?_
    refine e_30 (f_241 (pc := 24) (e := (24, 30, 0, 0, 0, 0, 0, 25)) rfl) ?_
    obtain ⟨b4, b5, F⟩ := F
    refine e_110 (f_241 (pc := 25) (e := (25, 110, 0, 0, 0, 0, 0, 26)) rfl) rfl (hT 109 rfl) b4 b5 ?_
    refine e_0 (f_241 (pc := 26) (e := (26, 0, 1, 0, 0, 0, 0, 27)) rfl) (v := 1) rfl ?_
    refine e_73 (f_241 (pc := 27) (e := (27, 73, 32, 0, 0, 0, 0, 30)) rfl) (fun c6 => ?_) (fun c6 => ?_)
    · replace F := F.1 c6
      refine e_0 (f_241 (pc := 32) (e := (32, 0, 0, 0, 0, 0, 0, 33)) rfl) (v := 0) rfl ?_
      refine e_20 (f_241 (pc := 33) (e := (33, 20, 3, 0, 0, 0, 0, 34)) rfl) ?_
      refine e_lo [0, 1, 2, 3] rfl ?_
      exact F
    · replace F := F.2 c6
      refine e_0 (f_241 (pc := 30) (e := (30, 0, 4294967295, 0, 0, 0, 0, 31)) rfl) (v := (-1)) rfl ?_
      exact e_120 (f_241 (pc := 31) (e := (31, 120, 0, 0, 0, 0, 0, 32)) rfl) F
set_option maxRecDepth 20000 in
theorem B_241_34 (hT : yLT T) (hR : yLR R) {x1 x2 x3 : Int} (F : (4 ≤ x3 → K (some (yi (-1))) (N, T, R, I)) ∧ (¬ (4 ≤ x3) → yW l zSS D cy zFk z d 242 0 0 (fun r h' => ∃ r3 I2, r = some (yi r3) ∧ h' = (N, T, R, I2) ∧ ((r3 < 0 → yW l zSS D cy zFk z (d + 1) 241 bc bs K 0 0 34 [(0, yr (some 102)), (1, yi x1), (2, yi x2), (3, yi (yadd x3 1))] [] (N, T, R, I2)) ∧ (¬ (r3 < 0) → 0 ≤ (yadd (ymul 100 x1) r3) ∧ (yadd (ymul 100 x1) r3) < 800 ∧ (((I2 109 (yadd (ymul 100 x1) r3).toNat) < 0 → yW l zSS D cy zFk z (d + 1) 241 bc bs K 0 0 34 [(0, yr (some 102)), (1, yi x1), (2, yi x2), (3, yi (yadd x3 1))] [] (N, T, R, I2)) ∧ (¬ ((I2 109 (yadd (ymul 100 x1) r3).toNat) < 0) → 0 ≤ (yadd (ymul 100 x1) r3) ∧ (yadd (ymul 100 x1) r3) < 800 ∧ (0 ≤ (yadd (ymul 100 x1) x2) ∧ (yadd (ymul 100 x1) x2) < 800 ∧ (((I2 109 (yadd (ymul 100 x1) r3).toNat) ≠ (ysub (I2 109 (yadd (ymul 100 x1) x2).toNat) 1) → yW l zSS D cy zFk z (d + 1) 241 bc bs K 0 0 34 [(0, yr (some 102)), (1, yi x1), (2, yi x2), (3, yi (yadd x3 1))] [] (N, T, R, I2)) ∧ (¬ ((I2 109 (yadd (ymul 100 x1) r3).toNat) ≠ (ysub (I2 109 (yadd (ymul 100 x1) x2).toNat) 1)) → K (some (yi r3)) (N, T, R, I2))))))))) 0 0 0 [(0, yr (some 102)), (1, yi x2), (2, yi x3)] [] (N, T, R, I))) :
    yW l zSS D cy zFk z (d + 1) 241 bc bs K 0 0 34 [(0, yr (some 102)), (1, yi x1), (2, yi x2), (3, yi x3)] [] (N, T, R, I) := by
  refine e_10 (f_241 (pc := 34) (e := (34, 10, 3, 0, 0, 0, 0, 35)) rfl) rfl ?_
  refine e_0 (f_241 (pc := 35) (e := (35, 0, 4, 0, 0, 0, 0, 36)) rfl) (v := 4) rfl ?_
  refine e_73 (f_241 (pc := 36) (e := (36, 73, 104, 0, 0, 0, 0, 39)) rfl) (fun c1 => ?_) (fun c1 => ?_)
  · replace F := F.1 c1
    refine e_0 (f_241 (pc := 104) (e := (104, 0, 4294967295, 0, 0, 0, 0, 105)) rfl) (v := (-1)) rfl ?_
    exact e_120 (f_241 (pc := 105) (e := (105, 120, 0, 0, 0, 0, 0, 0)) rfl) F
  · replace F := F.2 c1
    refine e_12 (f_241 (pc := 39) (e := (39, 12, 0, 0, 0, 0, 0, 40)) rfl) rfl ?_
    refine e_10 (f_241 (pc := 40) (e := (40, 10, 2, 0, 0, 0, 0, 41)) rfl) rfl ?_
    refine e_10 (f_241 (pc := 41) (e := (41, 10, 3, 0, 0, 0, 0, 42)) rfl) rfl ?_
    refine e_130 (f_241 (pc := 42) (e := (42, 130, 242, 0, 11, 282, 1252, 45)) rfl) zA (as := [yr (some 102), yi x2, yi x3]) (rest := []) rfl rfl rfl rfl (Nat.le_of_ble_eq_true rfl) (Nat.le_of_ble_eq_true rfl) ⟨_, _, _, rfl, (hT 102 rfl)⟩ (mc := 0) (ms := 0) (Nat.zero_le _) (Nat.zero_le _) ?_
    refine e_K ?_ F
    rintro r h' ⟨r3, I2, rfl, rfl, F⟩
    refine e_21 (f_241 (pc := 45) (e := (45, 21, 4, 0, 0, 0, 0, 47)) rfl) ?_
    refine e_11 (f_241 (pc := 47) (e := (47, 11, 4, 0, 0, 0, 0, 49)) rfl) rfl ?_
    refine e_62 (f_241 (pc := 49) (e := (49, 62, 98, 0, 0, 0, 0, 52)) rfl) (fun c4 => ?_) (fun c4 => ?_)
    · replace F := F.1 c4
      refine e_26 (f_241 (pc := 98) (e := (98, 26, 3, 1, 0, 0, 0, 101)) rfl) (w := 1) rfl rfl ?_
      refine e_80 (f_241 (pc := 101) (e := (101, 80, 34, 0, 0, 0, 0, 104)) rfl) ?_
      refine e_lo [0, 1, 2, 3] rfl ?_
      exact F
    · replace F := F.2 c4
      refine e_12 (f_241 (pc := 52) (e := (52, 12, 0, 0, 0, 0, 0, 53)) rfl) rfl ?_
      refine e_90r zA (f_241 (pc := 53) (e := (53, 90, 11, 24, 3, 50, 1164, 56)) rfl) rfl (hT 102 rfl) rfl rfl (hR 102 24 rfl) ?_
      refine e_1 (f_241 (pc := 56) (e := (56, 1, 100, 0, 0, 0, 0, 58)) rfl) (v := 100) rfl ?_
      refine e_10 (f_241 (pc := 58) (e := (58, 10, 1, 0, 0, 0, 0, 59)) rfl) rfl ?_
      refine e_32 (f_241 (pc := 59) (e := (59, 32, 0, 0, 0, 0, 0, 60)) rfl) ?_
      refine e_11 (f_241 (pc := 60) (e := (60, 11, 4, 0, 0, 0, 0, 62)) rfl) rfl ?_
      refine e_30 (f_241 (pc := 62) (e := (62, 30, 0, 0, 0, 0, 0, 63)) rfl) ?_
      obtain ⟨b5, b6, F⟩ := F
      refine e_110 (f_241 (pc := 63) (e := (63, 110, 0, 0, 0, 0, 0, 64)) rfl) rfl (hT 109 rfl) b5 b6 ?_
      refine e_62 (f_241 (pc := 64) (e := (64, 62, 98, 0, 0, 0, 0, 67)) rfl) (fun c7 => ?_) (fun c7 => ?_)
      · replace F := F.1 c7
        refine e_26 (f_241 (pc := 98) (e := (98, 26, 3, 1, 0, 0, 0, 101)) rfl) (w := 1) rfl rfl ?_
        refine e_80 (f_241 (pc := 101) (e := (101, 80, 34, 0, 0, 0, 0, 104)) rfl) ?_
        refine e_lo [0, 1, 2, 3] rfl ?_
        exact F
      · replace F := F.2 c7
        refine e_12 (f_241 (pc := 67) (e := (67, 12, 0, 0, 0, 0, 0, 68)) rfl) rfl ?_
        refine e_90r zA (f_241 (pc := 68) (e := (68, 90, 11, 24, 3, 50, 1164, 71)) rfl) rfl (hT 102 rfl) rfl rfl (hR 102 24 rfl) ?_
        refine e_1 (f_241 (pc := 71) (e := (71, 1, 100, 0, 0, 0, 0, 73)) rfl) (v := 100) rfl ?_
        refine e_10 (f_241 (pc := 73) (e := (73, 10, 1, 0, 0, 0, 0, 74)) rfl) rfl ?_
        refine e_32 (f_241 (pc := 74) (e := (74, 32, 0, 0, 0, 0, 0, 75)) rfl) ?_
        refine e_11 (f_241 (pc := 75) (e := (75, 11, 4, 0, 0, 0, 0, 77)) rfl) rfl ?_
        refine e_30 (f_241 (pc := 77) (e := (77, 30, 0, 0, 0, 0, 0, 78)) rfl) ?_
        obtain ⟨b8, b9, F⟩ := F
        refine e_110 (f_241 (pc := 78) (e := (78, 110, 0, 0, 0, 0, 0, 79)) rfl) rfl (hT 109 rfl) b8 b9 ?_
        refine e_12 (f_241 (pc := 79) (e := (79, 12, 0, 0, 0, 0, 0, 80)) rfl) rfl ?_
        refine e_90r zA (f_241 (pc := 80) (e := (80, 90, 11, 24, 3, 50, 1164, 83)) rfl) rfl (hT 102 rfl) rfl rfl (hR 102 24 rfl) ?_
        refine e_1 (f_241 (pc := 83) (e := (83, 1, 100, 0, 0, 0, 0, 85)) rfl) (v := 100) rfl ?_
        refine e_10 (f_241 (pc := 85) (e := (85, 10, 1, 0, 0, 0, 0, 86)) rfl) rfl ?_
        refine e_32 (f_241 (pc := 86) (e := (86, 32, 0, 0, 0, 0, 0, 87)) rfl) ?_
        refine e_10 (f_241 (pc := 87) (e := (87, 10, 2, 0, 0, 0, 0, 88)) rfl) rfl ?_
        refine e_30 (f_241 (pc := 88) (e := (88, 30, 0, 0, 0, 0, 0, 89)) rfl) ?_
        obtain ⟨b10, b11, F⟩ := F
        refine e_110 (f_241 (pc := 89) (e := (89, 110, 0, 0, 0, 0, 0, 90)) rfl) rfl (hT 109 rfl) b10 b11 ?_
        refine e_0 (f_241 (pc := 90) (e := (90, 0, 1, 0, 0, 0, 0, 91)) rfl) (v := 1) rfl ?_
        refine e_31 (f_241 (pc := 91) (e := (91, 31, 0, 0, 0, 0, 0, 92)) rfl) ?_
        refine e_71 (f_241 (pc := 92) (e := (92, 71, 98, 0, 0, 0, 0, 95)) rfl) (fun c12 => ?_) (fun c12 => ?_)
        · replace F := F.1 c12
          refine e_26 (f_241 (pc := 98) (e := (98, 26, 3, 1, 0, 0, 0, 101)) rfl) (w := 1) rfl rfl ?_
          refine e_80 (f_241 (pc := 101) (e := (101, 80, 34, 0, 0, 0, 0, 104)) rfl) ?_
          refine e_lo [0, 1, 2, 3] rfl ?_
          exact F
        · replace F := F.2 c12
          refine e_11 (f_241 (pc := 95) (e := (95, 11, 4, 0, 0, 0, 0, 97)) rfl) rfl ?_
          exact e_120 (f_241 (pc := 97) (e := (97, 120, 0, 0, 0, 0, 0, 98)) rfl) F

/-! stepTo(II)I -/
set_option maxRecDepth 20000 in
theorem B_242_0 (hT : yLT T) (hR : yLR R) {x1 x2 : Int} (F : 0 ≤ (yadd 526 x1) ∧ (yadd 526 x1) < 1188 ∧ (((I 104 (yadd 526 x1).toNat) ≤ 0 → yW l zSS D cy zFk z d 163 0 0 (fun r h' => ∃ r5 I4, r = some (yi r5) ∧ h' = (N, T, R, I4) ∧ ((r5 < 0 → K (some (yi (-1))) (N, T, R, I4)) ∧ (¬ (r5 < 0) → 0 ≤ (yadd 10 r5) ∧ (yadd 10 r5) < 1188 ∧ (((I4 104 (yadd 10 r5).toNat) ≠ 0 → K (some (yi (-1))) (N, T, R, I4)) ∧ (¬ ((I4 104 (yadd 10 r5).toNat) ≠ 0) → K (some (yi r5)) (N, T, R, I4)))))) 0 0 0 [(0, yr (some 102)), (1, yi x1), (2, yi x2)] [] (N, T, R, I)) ∧ (¬ ((I 104 (yadd 526 x1).toNat) ≤ 0) → 0 ≤ (yadd 526 x1) ∧ (yadd 526 x1) < 1188 ∧ (((I 104 (yadd 526 x1).toNat) = (yadd x2 1) → yW l zSS D cy zFk z d 163 0 0 (fun r h' => ∃ r14 I13, r = some (yi r14) ∧ h' = (N, T, R, I13) ∧ ((r14 < 0 → K (some (yi (-1))) (N, T, R, I13)) ∧ (¬ (r14 < 0) → 0 ≤ (yadd 10 r14) ∧ (yadd 10 r14) < 1188 ∧ (((I13 104 (yadd 10 r14).toNat) ≠ 0 → K (some (yi (-1))) (N, T, R, I13)) ∧ (¬ ((I13 104 (yadd 10 r14).toNat) ≠ 0) → K (some (yi r14)) (N, T, R, I13)))))) 0 0 0 [(0, yr (some 102)), (1, yi x1), (2, yi x2)] [] (N, T, R, I)) ∧ (¬ ((I 104 (yadd 526 x1).toNat) = (yadd x2 1)) → K (some (yi (-1))) (N, T, R, I)))))) :
    yW l zSS D cy zFk z (d + 1) 242 bc bs K 0 0 0 [(0, yr (some 102)), (1, yi x1), (2, yi x2)] [] (N, T, R, I) := by
  refine e_12 (f_242 (pc := 0) (e := (0, 12, 0, 0, 0, 0, 0, 1)) rfl) rfl ?_
  refine e_90r zA (f_242 (pc := 1) (e := (1, 90, 11, 6, 3, 33, 1159, 4)) rfl) rfl (hT 102 rfl) rfl rfl (hR 102 6 rfl) ?_
  refine e_2 (f_242 (pc := 4) (e := (4, 2, 526, 0, 0, 0, 0, 7)) rfl) (v := 526) rfl ?_
  refine e_10 (f_242 (pc := 7) (e := (7, 10, 1, 0, 0, 0, 0, 8)) rfl) rfl ?_
  refine e_30 (f_242 (pc := 8) (e := (8, 30, 0, 0, 0, 0, 0, 9)) rfl) ?_
  obtain ⟨b1, b2, F⟩ := F
  refine e_110 (f_242 (pc := 9) (e := (9, 110, 0, 0, 0, 0, 0, 10)) rfl) rfl (hT 104 rfl) b1 b2 ?_
  refine e_65 (f_242 (pc := 10) (e := (10, 65, 31, 0, 0, 0, 0, 13)) rfl) (fun c3 => ?_) (fun c3 => ?_)
  · replace F := F.1 c3
    refine e_12 (f_242 (pc := 31) (e := (31, 12, 0, 0, 0, 0, 0, 32)) rfl) rfl ?_
    refine e_10 (f_242 (pc := 32) (e := (32, 10, 1, 0, 0, 0, 0, 33)) rfl) rfl ?_
    refine e_10 (f_242 (pc := 33) (e := (33, 10, 2, 0, 0, 0, 0, 34)) rfl) rfl ?_
    refine e_130 (f_242 (pc := 34) (e := (34, 130, 163, 0, 11, 276, 1299, 37)) rfl) zA (as := [yr (some 102), yi x1, yi x2]) (rest := []) rfl rfl rfl rfl (Nat.le_of_ble_eq_true rfl) (Nat.le_of_ble_eq_true rfl) ⟨_, _, _, rfl, (hT 102 rfl)⟩ (mc := 0) (ms := 0) (Nat.zero_le _) (Nat.zero_le _) ?_
    refine e_K ?_ F
    rintro r h' ⟨r5, I4, rfl, rfl, F⟩
    refine e_20 (f_242 (pc := 37) (e := (37, 20, 3, 0, 0, 0, 0, 38)) rfl) ?_
    refine e_10 (f_242 (pc := 38) (e := (38, 10, 3, 0, 0, 0, 0, 39)) rfl) rfl ?_
    refine e_62 (f_242 (pc := 39) (e := (39, 62, 58, 0, 0, 0, 0, 42)) rfl) (fun c6 => ?_) (fun c6 => ?_)
    · replace F := F.1 c6
      refine e_0 (f_242 (pc := 58) (e := (58, 0, 4294967295, 0, 0, 0, 0, 59)) rfl) (v := (-1)) rfl ?_
      exact e_120 (f_242 (pc := 59) (e := (59, 120, 0, 0, 0, 0, 0, 0)) rfl) F
    · replace F := F.2 c6
      refine e_12 (f_242 (pc := 42) (e := (42, 12, 0, 0, 0, 0, 0, 43)) rfl) rfl ?_
      refine e_90r zA (f_242 (pc := 43) (e := (43, 90, 11, 6, 3, 33, 1159, 46)) rfl) rfl (hT 102 rfl) rfl rfl (hR 102 6 rfl) ?_
      refine e_1 (f_242 (pc := 46) (e := (46, 1, 10, 0, 0, 0, 0, 48)) rfl) (v := 10) rfl ?_
      refine e_10 (f_242 (pc := 48) (e := (48, 10, 3, 0, 0, 0, 0, 49)) rfl) rfl ?_
      refine e_30 (f_242 (pc := 49) (e := (49, 30, 0, 0, 0, 0, 0, 50)) rfl) ?_
      obtain ⟨b7, b8, F⟩ := F
      refine e_110 (f_242 (pc := 50) (e := (50, 110, 0, 0, 0, 0, 0, 51)) rfl) rfl (hT 104 rfl) b7 b8 ?_
      refine e_61 (f_242 (pc := 51) (e := (51, 61, 58, 0, 0, 0, 0, 54)) rfl) (fun c9 => ?_) (fun c9 => ?_)
      · replace F := F.1 c9
        refine e_0 (f_242 (pc := 58) (e := (58, 0, 4294967295, 0, 0, 0, 0, 59)) rfl) (v := (-1)) rfl ?_
        exact e_120 (f_242 (pc := 59) (e := (59, 120, 0, 0, 0, 0, 0, 0)) rfl) F
      · replace F := F.2 c9
        refine e_10 (f_242 (pc := 54) (e := (54, 10, 3, 0, 0, 0, 0, 55)) rfl) rfl ?_
        refine e_80 (f_242 (pc := 55) (e := (55, 80, 59, 0, 0, 0, 0, 58)) rfl) ?_
        exact e_120 (f_242 (pc := 59) (e := (59, 120, 0, 0, 0, 0, 0, 0)) rfl) F
  · replace F := F.2 c3
    refine e_12 (f_242 (pc := 13) (e := (13, 12, 0, 0, 0, 0, 0, 14)) rfl) rfl ?_
    refine e_90r zA (f_242 (pc := 14) (e := (14, 90, 11, 6, 3, 33, 1159, 17)) rfl) rfl (hT 102 rfl) rfl rfl (hR 102 6 rfl) ?_
    refine e_2 (f_242 (pc := 17) (e := (17, 2, 526, 0, 0, 0, 0, 20)) rfl) (v := 526) rfl ?_
    refine e_10 (f_242 (pc := 20) (e := (20, 10, 1, 0, 0, 0, 0, 21)) rfl) rfl ?_
    refine e_30 (f_242 (pc := 21) (e := (21, 30, 0, 0, 0, 0, 0, 22)) rfl) ?_
    obtain ⟨b10, b11, F⟩ := F
    refine e_110 (f_242 (pc := 22) (e := (22, 110, 0, 0, 0, 0, 0, 23)) rfl) rfl (hT 104 rfl) b10 b11 ?_
    refine e_10 (f_242 (pc := 23) (e := (23, 10, 2, 0, 0, 0, 0, 24)) rfl) rfl ?_
    refine e_0 (f_242 (pc := 24) (e := (24, 0, 1, 0, 0, 0, 0, 25)) rfl) (v := 1) rfl ?_
    refine e_30 (f_242 (pc := 25) (e := (25, 30, 0, 0, 0, 0, 0, 26)) rfl) ?_
    refine e_70 (f_242 (pc := 26) (e := (26, 70, 31, 0, 0, 0, 0, 29)) rfl) (fun c12 => ?_) (fun c12 => ?_)
    · replace F := F.1 c12
      refine e_12 (f_242 (pc := 31) (e := (31, 12, 0, 0, 0, 0, 0, 32)) rfl) rfl ?_
      refine e_10 (f_242 (pc := 32) (e := (32, 10, 1, 0, 0, 0, 0, 33)) rfl) rfl ?_
      refine e_10 (f_242 (pc := 33) (e := (33, 10, 2, 0, 0, 0, 0, 34)) rfl) rfl ?_
      refine e_130 (f_242 (pc := 34) (e := (34, 130, 163, 0, 11, 276, 1299, 37)) rfl) zA (as := [yr (some 102), yi x1, yi x2]) (rest := []) rfl rfl rfl rfl (Nat.le_of_ble_eq_true rfl) (Nat.le_of_ble_eq_true rfl) ⟨_, _, _, rfl, (hT 102 rfl)⟩ (mc := 0) (ms := 0) (Nat.zero_le _) (Nat.zero_le _) ?_
      refine e_K ?_ F
      rintro r h' ⟨r14, I13, rfl, rfl, F⟩
      refine e_20 (f_242 (pc := 37) (e := (37, 20, 3, 0, 0, 0, 0, 38)) rfl) ?_
      refine e_10 (f_242 (pc := 38) (e := (38, 10, 3, 0, 0, 0, 0, 39)) rfl) rfl ?_
      refine e_62 (f_242 (pc := 39) (e := (39, 62, 58, 0, 0, 0, 0, 42)) rfl) (fun c15 => ?_) (fun c15 => ?_)
      · replace F := F.1 c15
        refine e_0 (f_242 (pc := 58) (e := (58, 0, 4294967295, 0, 0, 0, 0, 59)) rfl) (v := (-1)) rfl ?_
        exact e_120 (f_242 (pc := 59) (e := (59, 120, 0, 0, 0, 0, 0, 0)) rfl) F
      · replace F := F.2 c15
        refine e_12 (f_242 (pc := 42) (e := (42, 12, 0, 0, 0, 0, 0, 43)) rfl) rfl ?_
        refine e_90r zA (f_242 (pc := 43) (e := (43, 90, 11, 6, 3, 33, 1159, 46)) rfl) rfl (hT 102 rfl) rfl rfl (hR 102 6 rfl) ?_
        refine e_1 (f_242 (pc := 46) (e := (46, 1, 10, 0, 0, 0, 0, 48)) rfl) (v := 10) rfl ?_
        refine e_10 (f_242 (pc := 48) (e := (48, 10, 3, 0, 0, 0, 0, 49)) rfl) rfl ?_
        refine e_30 (f_242 (pc := 49) (e := (49, 30, 0, 0, 0, 0, 0, 50)) rfl) ?_
        obtain ⟨b16, b17, F⟩ := F
        refine e_110 (f_242 (pc := 50) (e := (50, 110, 0, 0, 0, 0, 0, 51)) rfl) rfl (hT 104 rfl) b16 b17 ?_
        refine e_61 (f_242 (pc := 51) (e := (51, 61, 58, 0, 0, 0, 0, 54)) rfl) (fun c18 => ?_) (fun c18 => ?_)
        · replace F := F.1 c18
          refine e_0 (f_242 (pc := 58) (e := (58, 0, 4294967295, 0, 0, 0, 0, 59)) rfl) (v := (-1)) rfl ?_
          exact e_120 (f_242 (pc := 59) (e := (59, 120, 0, 0, 0, 0, 0, 0)) rfl) F
        · replace F := F.2 c18
          refine e_10 (f_242 (pc := 54) (e := (54, 10, 3, 0, 0, 0, 0, 55)) rfl) rfl ?_
          refine e_80 (f_242 (pc := 55) (e := (55, 80, 59, 0, 0, 0, 0, 58)) rfl) ?_
          exact e_120 (f_242 (pc := 59) (e := (59, 120, 0, 0, 0, 0, 0, 0)) rfl) F
    · replace F := F.2 c12
      refine e_0 (f_242 (pc := 29) (e := (29, 0, 4294967295, 0, 0, 0, 0, 30)) rfl) (v := (-1)) rfl ?_
      exact e_120 (f_242 (pc := 30) (e := (30, 120, 0, 0, 0, 0, 0, 31)) rfl) F

/-! steps(II)V -/
set_option maxRecDepth 20000 in
theorem B_243_0 (hT : yLT T) (hR : yLR R) {x1 x2 : Int} (F : 0 ≤ (yadd 470 x1) ∧ (yadd 470 x1) < 1188 ∧ (0 ≤ (yadd 486 x1) ∧ (yadd 486 x1) < 1188 ∧ (∀ I5, I5 = yU I 104 ((yadd 486 x1).toNat) (ynar 1 (I 104 (yadd 470 x1).toNat)) → (0 ≤ (yadd 470 x1) ∧ (yadd 470 x1) < 1188 ∧ (∀ I8, I8 = yU I5 104 ((yadd 470 x1).toNat) (ynar 1 x2) → (0 ≤ (yadd 478 x1) ∧ (yadd 478 x1) < 1188 ∧ (0 ≤ (yadd 478 x1) ∧ (yadd 478 x1) < 1188 ∧ (∀ I13, I13 = yU I8 104 ((yadd 478 x1).toNat) (ynar 1 (yadd (I8 104 (yadd 478 x1).toNat) 1)) → (0 ≤ (yadd 110 x2) ∧ (yadd 110 x2) < 1188 ∧ (0 ≤ (yadd 518 x1) ∧ (yadd 518 x1) < 1188 ∧ (∀ I18, I18 = yU I13 104 ((yadd 518 x1).toNat) (ynar 1 (I13 104 (yadd 110 x2).toNat)) → (K none (N, T, R, I18))))))))))))) :
    yW l zSS D cy zFk z d 243 bc bs K 0 0 0 [(0, yr (some 102)), (1, yi x1), (2, yi x2)] [] (N, T, R, I) := by
  refine e_12 (f_243 (pc := 0) (e := (0, 12, 0, 0, 0, 0, 0, 1)) rfl) rfl ?_
  refine e_90r zA (f_243 (pc := 1) (e := (1, 90, 11, 6, 3, 33, 1159, 4)) rfl) rfl (hT 102 rfl) rfl rfl (hR 102 6 rfl) ?_
  refine e_2 (f_243 (pc := 4) (e := (4, 2, 486, 0, 0, 0, 0, 7)) rfl) (v := 486) rfl ?_
  refine e_10 (f_243 (pc := 7) (e := (7, 10, 1, 0, 0, 0, 0, 8)) rfl) rfl ?_
  refine e_30 (f_243 (pc := 8) (e := (8, 30, 0, 0, 0, 0, 0, 9)) rfl) ?_
  refine e_12 (f_243 (pc := 9) (e := (9, 12, 0, 0, 0, 0, 0, 10)) rfl) rfl ?_
  refine e_90r zA (f_243 (pc := 10) (e := (10, 90, 11, 6, 3, 33, 1159, 13)) rfl) rfl (hT 102 rfl) rfl rfl (hR 102 6 rfl) ?_
  refine e_2 (f_243 (pc := 13) (e := (13, 2, 470, 0, 0, 0, 0, 16)) rfl) (v := 470) rfl ?_
  refine e_10 (f_243 (pc := 16) (e := (16, 10, 1, 0, 0, 0, 0, 17)) rfl) rfl ?_
  refine e_30 (f_243 (pc := 17) (e := (17, 30, 0, 0, 0, 0, 0, 18)) rfl) ?_
  obtain ⟨b1, b2, F⟩ := F
  refine e_110 (f_243 (pc := 18) (e := (18, 110, 0, 0, 0, 0, 0, 19)) rfl) rfl (hT 104 rfl) b1 b2 ?_
  obtain ⟨b3, b4, F⟩ := F
  refine e_111 (f_243 (pc := 19) (e := (19, 111, 0, 0, 0, 0, 0, 20)) rfl) rfl (hT 104 rfl) b3 b4 ?_
  replace F := F _ rfl
  refine e_12 (f_243 (pc := 20) (e := (20, 12, 0, 0, 0, 0, 0, 21)) rfl) rfl ?_
  refine e_90r zA (f_243 (pc := 21) (e := (21, 90, 11, 6, 3, 33, 1159, 24)) rfl) rfl (hT 102 rfl) rfl rfl (hR 102 6 rfl) ?_
  refine e_2 (f_243 (pc := 24) (e := (24, 2, 470, 0, 0, 0, 0, 27)) rfl) (v := 470) rfl ?_
  refine e_10 (f_243 (pc := 27) (e := (27, 10, 1, 0, 0, 0, 0, 28)) rfl) rfl ?_
  refine e_30 (f_243 (pc := 28) (e := (28, 30, 0, 0, 0, 0, 0, 29)) rfl) ?_
  refine e_10 (f_243 (pc := 29) (e := (29, 10, 2, 0, 0, 0, 0, 30)) rfl) rfl ?_
  obtain ⟨b6, b7, F⟩ := F
  refine e_111 (f_243 (pc := 30) (e := (30, 111, 0, 0, 0, 0, 0, 31)) rfl) rfl (hT 104 rfl) b6 b7 ?_
  replace F := F _ rfl
  refine e_12 (f_243 (pc := 31) (e := (31, 12, 0, 0, 0, 0, 0, 32)) rfl) rfl ?_
  refine e_90r zA (f_243 (pc := 32) (e := (32, 90, 11, 6, 3, 33, 1159, 35)) rfl) rfl (hT 102 rfl) rfl rfl (hR 102 6 rfl) ?_
  refine e_2 (f_243 (pc := 35) (e := (35, 2, 478, 0, 0, 0, 0, 38)) rfl) (v := 478) rfl ?_
  refine e_10 (f_243 (pc := 38) (e := (38, 10, 1, 0, 0, 0, 0, 39)) rfl) rfl ?_
  refine e_30 (f_243 (pc := 39) (e := (39, 30, 0, 0, 0, 0, 0, 40)) rfl) ?_
  refine e_51 (f_243 (pc := 40) (e := (40, 51, 0, 0, 0, 0, 0, 41)) rfl) rfl rfl ?_
  obtain ⟨b9, b10, F⟩ := F
  refine e_110 (f_243 (pc := 41) (e := (41, 110, 0, 0, 0, 0, 0, 42)) rfl) rfl (hT 104 rfl) b9 b10 ?_
  refine e_0 (f_243 (pc := 42) (e := (42, 0, 1, 0, 0, 0, 0, 43)) rfl) (v := 1) rfl ?_
  refine e_30 (f_243 (pc := 43) (e := (43, 30, 0, 0, 0, 0, 0, 44)) rfl) ?_
  obtain ⟨b11, b12, F⟩ := F
  refine e_111 (f_243 (pc := 44) (e := (44, 111, 0, 0, 0, 0, 0, 45)) rfl) rfl (hT 104 rfl) b11 b12 ?_
  replace F := F _ rfl
  refine e_12 (f_243 (pc := 45) (e := (45, 12, 0, 0, 0, 0, 0, 46)) rfl) rfl ?_
  refine e_90r zA (f_243 (pc := 46) (e := (46, 90, 11, 6, 3, 33, 1159, 49)) rfl) rfl (hT 102 rfl) rfl rfl (hR 102 6 rfl) ?_
  refine e_2 (f_243 (pc := 49) (e := (49, 2, 518, 0, 0, 0, 0, 52)) rfl) (v := 518) rfl ?_
  refine e_10 (f_243 (pc := 52) (e := (52, 10, 1, 0, 0, 0, 0, 53)) rfl) rfl ?_
  refine e_30 (f_243 (pc := 53) (e := (53, 30, 0, 0, 0, 0, 0, 54)) rfl) ?_
  refine e_12 (f_243 (pc := 54) (e := (54, 12, 0, 0, 0, 0, 0, 55)) rfl) rfl ?_
  refine e_90r zA (f_243 (pc := 55) (e := (55, 90, 11, 6, 3, 33, 1159, 58)) rfl) rfl (hT 102 rfl) rfl rfl (hR 102 6 rfl) ?_
  refine e_1 (f_243 (pc := 58) (e := (58, 1, 110, 0, 0, 0, 0, 60)) rfl) (v := 110) rfl ?_
  refine e_10 (f_243 (pc := 60) (e := (60, 10, 2, 0, 0, 0, 0, 61)) rfl) rfl ?_
  refine e_30 (f_243 (pc := 61) (e := (61, 30, 0, 0, 0, 0, 0, 62)) rfl) ?_
  obtain ⟨b14, b15, F⟩ := F
  refine e_110 (f_243 (pc := 62) (e := (62, 110, 0, 0, 0, 0, 0, 63)) rfl) rfl (hT 104 rfl) b14 b15 ?_
  obtain ⟨b16, b17, F⟩ := F
  refine e_111 (f_243 (pc := 63) (e := (63, 111, 0, 0, 0, 0, 0, 64)) rfl) rfl (hT 104 rfl) b16 b17 ?_
  replace F := F _ rfl
  exact e_122 (f_243 (pc := 64) (e := (64, 122, 0, 0, 0, 0, 0, 0)) rfl) F

/-! taken(I)V -/
set_option maxRecDepth 20000 in
theorem B_244_0 (hT : yLT T) (hR : yLR R) {x1 : Int} (F : ∀ I1, I1 = yU I 102 3 (I 102 2) → (∀ I2, I2 = yU I1 102 2 0 → (∀ I3, I3 = yU I2 102 4 0 → (∀ I4, I4 = yU I3 102 5 x1 → (K none (N, T, R, I4)))))) :
    yW l zSS D cy zFk z d 244 bc bs K 0 0 0 [(0, yr (some 102)), (1, yi x1)] [] (N, T, R, I) := by
  refine e_12 (f_244 (pc := 0) (e := (0, 12, 0, 0, 0, 0, 0, 1)) rfl) rfl ?_
  refine e_12 (f_244 (pc := 1) (e := (1, 12, 0, 0, 0, 0, 0, 2)) rfl) rfl ?_
  refine e_90 zA (f_244 (pc := 2) (e := (2, 90, 11, 2, 0, 7, 1251, 5)) rfl) rfl (hT 102 rfl) rfl rfl ?_
  refine e_91 zA (f_244 (pc := 5) (e := (5, 91, 11, 3, 0, 18, 1262, 8)) rfl) rfl (hT 102 rfl) rfl rfl trivial ?_
  replace F := F _ rfl
  refine e_12 (f_244 (pc := 8) (e := (8, 12, 0, 0, 0, 0, 0, 9)) rfl) rfl ?_
  refine e_0 (f_244 (pc := 9) (e := (9, 0, 0, 0, 0, 0, 0, 10)) rfl) (v := 0) rfl ?_
  refine e_91 zA (f_244 (pc := 10) (e := (10, 91, 11, 2, 0, 7, 1251, 13)) rfl) rfl (hT 102 rfl) rfl rfl trivial ?_
  replace F := F _ rfl
  refine e_12 (f_244 (pc := 13) (e := (13, 12, 0, 0, 0, 0, 0, 14)) rfl) rfl ?_
  refine e_0 (f_244 (pc := 14) (e := (14, 0, 0, 0, 0, 0, 0, 15)) rfl) (v := 0) rfl ?_
  refine e_91 zA (f_244 (pc := 15) (e := (15, 91, 11, 4, 0, 21, 1260, 18)) rfl) rfl (hT 102 rfl) rfl rfl trivial ?_
  replace F := F _ rfl
  refine e_12 (f_244 (pc := 18) (e := (18, 12, 0, 0, 0, 0, 0, 19)) rfl) rfl ?_
  refine e_10 (f_244 (pc := 19) (e := (19, 10, 1, 0, 0, 0, 0, 20)) rfl) rfl ?_
  refine e_91 zA (f_244 (pc := 20) (e := (20, 91, 11, 5, 0, 24, 1263, 23)) rfl) rfl (hT 102 rfl) rfl rfl trivial ?_
  replace F := F _ rfl
  exact e_122 (f_244 (pc := 23) (e := (23, 122, 0, 0, 0, 0, 0, 0)) rfl) F

/-! takes(II)Z -/
set_option maxRecDepth 20000 in
theorem B_245_0 (hT : yLT T) (hR : yLR R) {x1 x2 : Int} (F : ((I 102 11) = 2 → yW l zSS D cy zFk z d 191 0 0 (fun r h' => ∃ r3 I2, r = some (yi r3) ∧ h' = (N, T, R, I2) ∧ ((r3 ≠ 0 → ∀ I5, I5 = yU I2 102 18 (I2 102 14) → (yW l zSS D cy zFk z d 182 0 0 (fun r h' => ∃ I6, r = none ∧ h' = (N, T, R, I6) ∧ (K (some (yi 1)) (N, T, R, I6))) 0 0 0 [(0, yr (some 102))] [] (N, T, R, I5))) ∧ (¬ (r3 ≠ 0) → yW l zSS D cy zFk z d 159 0 0 (fun r h' => ∃ r8 I7, r = some (yi r8) ∧ h' = (N, T, R, I7) ∧ ((r8 = 0 ∨ r8 = 1) ∧ K (some (yi r8)) (N, T, R, I7))) 0 0 0 [(0, yr (some 102)), (1, yi 2)] [] (N, T, R, I2)))) 0 0 0 [(0, yi (I 102 14)), (1, yi x1), (2, yi x2)] [] (N, T, R, I)) ∧ (¬ ((I 102 11) = 2) → yW l zSS D cy zFk z d 159 0 0 (fun r h' => ∃ r10 I9, r = some (yi r10) ∧ h' = (N, T, R, I9) ∧ ((r10 = 0 ∨ r10 = 1) ∧ K (some (yi r10)) (N, T, R, I9))) 0 0 0 [(0, yr (some 102)), (1, yi 1)] [] (N, T, R, I))) :
    yW l zSS D cy zFk z (d + 1) 245 bc bs K 0 0 0 [(0, yr (some 102)), (1, yi x1), (2, yi x2)] [] (N, T, R, I) := by
  refine e_12 (f_245 (pc := 0) (e := (0, 12, 0, 0, 0, 0, 0, 1)) rfl) rfl ?_
  refine e_90 zA (f_245 (pc := 1) (e := (1, 90, 11, 11, 0, 161, 1225, 4)) rfl) rfl (hT 102 rfl) rfl rfl ?_
  refine e_0 (f_245 (pc := 4) (e := (4, 0, 2, 0, 0, 0, 0, 5)) rfl) (v := 2) rfl ?_
  refine e_70 (f_245 (pc := 5) (e := (5, 70, 14, 0, 0, 0, 0, 8)) rfl) (fun c1 => ?_) (fun c1 => ?_)
  · replace F := F.1 c1
    refine e_12 (f_245 (pc := 14) (e := (14, 12, 0, 0, 0, 0, 0, 15)) rfl) rfl ?_
    refine e_90 zA (f_245 (pc := 15) (e := (15, 90, 11, 14, 0, 171, 1266, 18)) rfl) rfl (hT 102 rfl) rfl rfl ?_
    refine e_10 (f_245 (pc := 18) (e := (18, 10, 1, 0, 0, 0, 0, 19)) rfl) rfl ?_
    refine e_10 (f_245 (pc := 19) (e := (19, 10, 2, 0, 0, 0, 0, 20)) rfl) rfl ?_
    refine e_132 (f_245 (pc := 20) (e := (20, 132, 191, 2, 11, 193, 1245, 23)) rfl) zA (as := [yi _, yi x1, yi x2]) (rest := []) rfl rfl rfl rfl (Nat.le_of_ble_eq_true rfl) (Nat.le_of_ble_eq_true rfl) (mc := 0) (ms := 0) (Nat.zero_le _) (Nat.zero_le _) ?_
    refine e_K ?_ F
    rintro r h' ⟨r3, I2, rfl, rfl, F⟩
    refine e_61 (f_245 (pc := 23) (e := (23, 61, 32, 0, 0, 0, 0, 26)) rfl) (fun c4 => ?_) (fun c4 => ?_)
    · replace F := F.1 c4
      refine e_12 (f_245 (pc := 32) (e := (32, 12, 0, 0, 0, 0, 0, 33)) rfl) rfl ?_
      refine e_12 (f_245 (pc := 33) (e := (33, 12, 0, 0, 0, 0, 0, 34)) rfl) rfl ?_
      refine e_90 zA (f_245 (pc := 34) (e := (34, 90, 11, 14, 0, 171, 1266, 37)) rfl) rfl (hT 102 rfl) rfl rfl ?_
      refine e_91 zA (f_245 (pc := 37) (e := (37, 91, 11, 18, 0, 197, 1281, 40)) rfl) rfl (hT 102 rfl) rfl rfl trivial ?_
      replace F := F _ rfl
      refine e_12 (f_245 (pc := 40) (e := (40, 12, 0, 0, 0, 0, 0, 41)) rfl) rfl ?_
      refine e_130 (f_245 (pc := 41) (e := (41, 130, 182, 0, 11, 190, 1224, 44)) rfl) zA (as := [yr (some 102)]) (rest := []) rfl rfl rfl rfl (Nat.le_of_ble_eq_true rfl) (Nat.le_of_ble_eq_true rfl) ⟨_, _, _, rfl, (hT 102 rfl)⟩ (mc := 0) (ms := 0) (Nat.zero_le _) (Nat.zero_le _) ?_
      refine e_K ?_ F
      rintro r h' ⟨I6, rfl, rfl, F⟩
      refine e_0 (f_245 (pc := 44) (e := (44, 0, 1, 0, 0, 0, 0, 45)) rfl) (v := 1) rfl ?_
      exact e_121 (f_245 (pc := 45) (e := (45, 121, 0, 0, 0, 0, 0, 0)) rfl) (.inr rfl) F
    · replace F := F.2 c4
      refine e_12 (f_245 (pc := 26) (e := (26, 12, 0, 0, 0, 0, 0, 27)) rfl) rfl ?_
      refine e_0 (f_245 (pc := 27) (e := (27, 0, 2, 0, 0, 0, 0, 28)) rfl) (v := 2) rfl ?_
      refine e_130 (f_245 (pc := 28) (e := (28, 130, 159, 0, 11, 187, 1243, 31)) rfl) zA (as := [yr (some 102), yi 2]) (rest := []) rfl rfl rfl rfl (Nat.le_of_ble_eq_true rfl) (Nat.le_of_ble_eq_true rfl) ⟨_, _, _, rfl, (hT 102 rfl)⟩ (mc := 0) (ms := 0) (Nat.zero_le _) (Nat.zero_le _) ?_
      refine e_K ?_ F
      rintro r h' ⟨r8, I7, rfl, rfl, F⟩
      exact e_121 (f_245 (pc := 31) (e := (31, 121, 0, 0, 0, 0, 0, 32)) rfl) F.1 F.2
  · replace F := F.2 c1
    refine e_12 (f_245 (pc := 8) (e := (8, 12, 0, 0, 0, 0, 0, 9)) rfl) rfl ?_
    refine e_0 (f_245 (pc := 9) (e := (9, 0, 1, 0, 0, 0, 0, 10)) rfl) (v := 1) rfl ?_
    refine e_130 (f_245 (pc := 10) (e := (10, 130, 159, 0, 11, 187, 1243, 13)) rfl) zA (as := [yr (some 102), yi 1]) (rest := []) rfl rfl rfl rfl (Nat.le_of_ble_eq_true rfl) (Nat.le_of_ble_eq_true rfl) ⟨_, _, _, rfl, (hT 102 rfl)⟩ (mc := 0) (ms := 0) (Nat.zero_le _) (Nat.zero_le _) ?_
    refine e_K ?_ F
    rintro r h' ⟨r10, I9, rfl, rfl, F⟩
    exact e_121 (f_245 (pc := 13) (e := (13, 121, 0, 0, 0, 0, 0, 14)) rfl) F.1 F.2

/-! thrown()I -/
/-! throwsIf(Z)Z -/
set_option maxRecDepth 20000 in
theorem B_247_0 (hT : yLT T) (hR : yLR R) {x1 : Int} (F : (x1 = 0 → ∀ I2, I2 = yU I 102 0 0 → ((x1 = 0 ∨ x1 = 1) ∧ K (some (yi x1)) (N, T, R, I2))) ∧ (¬ (x1 = 0) → ∀ I3, I3 = yU I 102 0 1 → ((x1 = 0 ∨ x1 = 1) ∧ K (some (yi x1)) (N, T, R, I3)))) :
    yW l zSS D cy zFk z d 247 bc bs K 0 0 0 [(0, yr (some 102)), (1, yi x1)] [] (N, T, R, I) := by
  refine e_12 (f_247 (pc := 0) (e := (0, 12, 0, 0, 0, 0, 0, 1)) rfl) rfl ?_
  refine e_10 (f_247 (pc := 1) (e := (1, 10, 1, 0, 0, 0, 0, 2)) rfl) rfl ?_
  refine e_60 (f_247 (pc := 2) (e := (2, 60, 9, 0, 0, 0, 0, 5)) rfl) (fun c1 => ?_) (fun c1 => ?_)
  · replace F := F.1 c1
    refine e_0 (f_247 (pc := 9) (e := (9, 0, 0, 0, 0, 0, 0, 10)) rfl) (v := 0) rfl ?_
    refine e_91 zA (f_247 (pc := 10) (e := (10, 91, 11, 0, 0, 1, 1216, 13)) rfl) rfl (hT 102 rfl) rfl rfl trivial ?_
    replace F := F _ rfl
    refine e_10 (f_247 (pc := 13) (e := (13, 10, 1, 0, 0, 0, 0, 14)) rfl) rfl ?_
    exact e_121 (f_247 (pc := 14) (e := (14, 121, 0, 0, 0, 0, 0, 0)) rfl) F.1 F.2
  · replace F := F.2 c1
    refine e_0 (f_247 (pc := 5) (e := (5, 0, 1, 0, 0, 0, 0, 6)) rfl) (v := 1) rfl ?_
    refine e_80 (f_247 (pc := 6) (e := (6, 80, 10, 0, 0, 0, 0, 9)) rfl) ?_
    refine e_91 zA (f_247 (pc := 10) (e := (10, 91, 11, 0, 0, 1, 1216, 13)) rfl) rfl (hT 102 rfl) rfl rfl trivial ?_
    replace F := F _ rfl
    refine e_10 (f_247 (pc := 13) (e := (13, 10, 1, 0, 0, 0, 0, 14)) rfl) rfl ?_
    exact e_121 (f_247 (pc := 14) (e := (14, 121, 0, 0, 0, 0, 0, 0)) rfl) F.1 F.2

/-! torches(IIII)I -/
set_option maxRecDepth 20000 in
theorem B_248_0 (hT : yLT T) (hR : yLR R) {x1 x2 x3 x4 : Int} (F : ∀ I1, I1 = yU I 102 0 0 → (yW l zSS D cy zFk z d 188 0 0 (fun r h' => ∃ r3 I2, r = some (yi r3) ∧ h' = (N, T, R, I2) ∧ ((r3 = 0 → yW l zSS D cy zFk z (d + 1) 248 bc bs K 0 0 68 [] [] (N, T, R, I2)) ∧ (¬ (r3 = 0) → yW l zSS D cy zFk z d 188 0 0 (fun r h' => ∃ r6 I5, r = some (yi r6) ∧ h' = (N, T, R, I5) ∧ ((r6 = 0 → yW l zSS D cy zFk z (d + 1) 248 bc bs K 0 0 68 [] [] (N, T, R, I5)) ∧ (¬ (r6 = 0) → (x1 = x2 → yW l zSS D cy zFk z (d + 1) 248 bc bs K 0 0 68 [] [] (N, T, R, I5)) ∧ (¬ (x1 = x2) → yW l zSS D cy zFk z d 191 0 0 (fun r h' => ∃ r10 I9, r = some (yi r10) ∧ h' = (N, T, R, I9) ∧ ((r10 = 0 → yW l zSS D cy zFk z (d + 1) 248 bc bs K 0 0 68 [] [] (N, T, R, I9)) ∧ (¬ (r10 = 0) → (x4 < (-1) → yW l zSS D cy zFk z (d + 1) 248 bc bs K 0 0 68 [] [] (N, T, R, I9)) ∧ (¬ (x4 < (-1)) → 0 ≤ (yadd 470 x1) ∧ (yadd 470 x1) < 1188 ∧ (((I9 104 (yadd 470 x1).toNat) < 0 → yW l zSS D cy zFk z (d + 1) 248 bc bs K 0 0 68 [] [] (N, T, R, I9)) ∧ (¬ ((I9 104 (yadd 470 x1).toNat) < 0) → 0 ≤ (yadd 470 x2) ∧ (yadd 470 x2) < 1188 ∧ ((0 ≤ (I9 104 (yadd 470 x2).toNat) → yW l zSS D cy zFk z d 249 0 0 (fun r h' => ∃ I19, r = none ∧ h' = (N, T, R, I19) ∧ (yW l zSS D cy zFk z (d + 1) 248 bc bs K 0 0 77 [(0, yr (some 102)), (1, yi x1), (2, yi x2), (3, yi x3), (4, yi x4), (5, yi 0)] [] (N, T, R, I19))) 0 0 0 [(0, yr (some 102))] [] (N, T, R, I9)) ∧ (¬ (0 ≤ (I9 104 (yadd 470 x2).toNat)) → yW l zSS D cy zFk z (d + 1) 248 bc bs K 0 0 68 [] [] (N, T, R, I9))))))))) 0 0 0 [(0, yi x3), (1, yi 1), (2, yi 20)] [] (N, T, R, I5))))) 0 0 0 [(0, yr (some 102)), (1, yi x2)] [] (N, T, R, I2)))) 0 0 0 [(0, yr (some 102)), (1, yi x1)] [] (N, T, R, I1))) :
    yW l zSS D cy zFk z (d + 1) 248 bc bs K 0 0 0 [(0, yr (some 102)), (1, yi x1), (2, yi x2), (3, yi x3), (4, yi x4)] [] (N, T, R, I) := by
  refine e_12 (f_248 (pc := 0) (e := (0, 12, 0, 0, 0, 0, 0, 1)) rfl) rfl ?_
  refine e_0 (f_248 (pc := 1) (e := (1, 0, 0, 0, 0, 0, 0, 2)) rfl) (v := 0) rfl ?_
  refine e_91 zA (f_248 (pc := 2) (e := (2, 91, 11, 0, 0, 1, 1216, 5)) rfl) rfl (hT 102 rfl) rfl rfl trivial ?_
  replace F := F _ rfl
  refine e_12 (f_248 (pc := 5) (e := (5, 12, 0, 0, 0, 0, 0, 6)) rfl) rfl ?_
  refine e_10 (f_248 (pc := 6) (e := (6, 10, 1, 0, 0, 0, 0, 7)) rfl) rfl ?_
  refine e_130 (f_248 (pc := 7) (e := (7, 130, 188, 0, 11, 269, 1249, 10)) rfl) zA (as := [yr (some 102), yi x1]) (rest := []) rfl rfl rfl rfl (Nat.le_of_ble_eq_true rfl) (Nat.le_of_ble_eq_true rfl) ⟨_, _, _, rfl, (hT 102 rfl)⟩ (mc := 0) (ms := 0) (Nat.zero_le _) (Nat.zero_le _) ?_
  refine e_K ?_ F
  rintro r h' ⟨r3, I2, rfl, rfl, F⟩
  refine e_60 (f_248 (pc := 10) (e := (10, 60, 68, 0, 0, 0, 0, 13)) rfl) (fun c4 => ?_) (fun c4 => ?_)
  · replace F := F.1 c4
    refine e_lo [] rfl ?_
    exact F
  · replace F := F.2 c4
    refine e_12 (f_248 (pc := 13) (e := (13, 12, 0, 0, 0, 0, 0, 14)) rfl) rfl ?_
    refine e_10 (f_248 (pc := 14) (e := (14, 10, 2, 0, 0, 0, 0, 15)) rfl) rfl ?_
    refine e_130 (f_248 (pc := 15) (e := (15, 130, 188, 0, 11, 269, 1249, 18)) rfl) zA (as := [yr (some 102), yi x2]) (rest := []) rfl rfl rfl rfl (Nat.le_of_ble_eq_true rfl) (Nat.le_of_ble_eq_true rfl) ⟨_, _, _, rfl, (hT 102 rfl)⟩ (mc := 0) (ms := 0) (Nat.zero_le _) (Nat.zero_le _) ?_
    refine e_K ?_ F
    rintro r h' ⟨r6, I5, rfl, rfl, F⟩
    refine e_60 (f_248 (pc := 18) (e := (18, 60, 68, 0, 0, 0, 0, 21)) rfl) (fun c7 => ?_) (fun c7 => ?_)
    · replace F := F.1 c7
      refine e_lo [] rfl ?_
      exact F
    · replace F := F.2 c7
      refine e_10 (f_248 (pc := 21) (e := (21, 10, 1, 0, 0, 0, 0, 22)) rfl) rfl ?_
      refine e_10 (f_248 (pc := 22) (e := (22, 10, 2, 0, 0, 0, 0, 23)) rfl) rfl ?_
      refine e_70 (f_248 (pc := 23) (e := (23, 70, 68, 0, 0, 0, 0, 26)) rfl) (fun c8 => ?_) (fun c8 => ?_)
      · replace F := F.1 c8
        refine e_lo [] rfl ?_
        exact F
      · replace F := F.2 c8
        refine e_10 (f_248 (pc := 26) (e := (26, 10, 3, 0, 0, 0, 0, 27)) rfl) rfl ?_
        refine e_0 (f_248 (pc := 27) (e := (27, 0, 1, 0, 0, 0, 0, 28)) rfl) (v := 1) rfl ?_
        refine e_1 (f_248 (pc := 28) (e := (28, 1, 20, 0, 0, 0, 0, 30)) rfl) (v := 20) rfl ?_
        refine e_132 (f_248 (pc := 30) (e := (30, 132, 191, 2, 11, 193, 1245, 33)) rfl) zA (as := [yi x3, yi 1, yi 20]) (rest := []) rfl rfl rfl rfl (Nat.le_of_ble_eq_true rfl) (Nat.le_of_ble_eq_true rfl) (mc := 0) (ms := 0) (Nat.zero_le _) (Nat.zero_le _) ?_
        refine e_K ?_ F
        rintro r h' ⟨r10, I9, rfl, rfl, F⟩
        refine e_60 (f_248 (pc := 33) (e := (33, 60, 68, 0, 0, 0, 0, 36)) rfl) (fun c11 => ?_) (fun c11 => ?_)
        · replace F := F.1 c11
          refine e_lo [] rfl ?_
          exact F
        · replace F := F.2 c11
          refine e_11 (f_248 (pc := 36) (e := (36, 11, 4, 0, 0, 0, 0, 38)) rfl) rfl ?_
          refine e_0 (f_248 (pc := 38) (e := (38, 0, 4294967295, 0, 0, 0, 0, 39)) rfl) (v := (-1)) rfl ?_
          refine e_72 (f_248 (pc := 39) (e := (39, 72, 68, 0, 0, 0, 0, 42)) rfl) (fun c12 => ?_) (fun c12 => ?_)
          · replace F := F.1 c12
            refine e_lo [] rfl ?_
            exact F
          · replace F := F.2 c12
            refine e_12 (f_248 (pc := 42) (e := (42, 12, 0, 0, 0, 0, 0, 43)) rfl) rfl ?_
            refine e_90r zA (f_248 (pc := 43) (e := (43, 90, 11, 6, 3, 33, 1159, 46)) rfl) rfl (hT 102 rfl) rfl rfl (hR 102 6 rfl) ?_
            refine e_2 (f_248 (pc := 46) (e := (46, 2, 470, 0, 0, 0, 0, 49)) rfl) (v := 470) rfl ?_
            refine e_10 (f_248 (pc := 49) (e := (49, 10, 1, 0, 0, 0, 0, 50)) rfl) rfl ?_
            refine e_30 (f_248 (pc := 50) (e := (50, 30, 0, 0, 0, 0, 0, 51)) rfl) ?_
            obtain ⟨b13, b14, F⟩ := F
            refine e_110 (f_248 (pc := 51) (e := (51, 110, 0, 0, 0, 0, 0, 52)) rfl) rfl (hT 104 rfl) b13 b14 ?_
            refine e_62 (f_248 (pc := 52) (e := (52, 62, 68, 0, 0, 0, 0, 55)) rfl) (fun c15 => ?_) (fun c15 => ?_)
            · replace F := F.1 c15
              refine e_lo [] rfl ?_
              exact F
            · replace F := F.2 c15
              refine e_12 (f_248 (pc := 55) (e := (55, 12, 0, 0, 0, 0, 0, 56)) rfl) rfl ?_
              refine e_90r zA (f_248 (pc := 56) (e := (56, 90, 11, 6, 3, 33, 1159, 59)) rfl) rfl (hT 102 rfl) rfl rfl (hR 102 6 rfl) ?_
              refine e_2 (f_248 (pc := 59) (e := (59, 2, 470, 0, 0, 0, 0, 62)) rfl) (v := 470) rfl ?_
              refine e_10 (f_248 (pc := 62) (e := (62, 10, 2, 0, 0, 0, 0, 63)) rfl) rfl ?_
              refine e_30 (f_248 (pc := 63) (e := (63, 30, 0, 0, 0, 0, 0, 64)) rfl) ?_
              obtain ⟨b16, b17, F⟩ := F
              refine e_110 (f_248 (pc := 64) (e := (64, 110, 0, 0, 0, 0, 0, 65)) rfl) rfl (hT 104 rfl) b16 b17 ?_
              refine e_63 (f_248 (pc := 65) (e := (65, 63, 70, 0, 0, 0, 0, 68)) rfl) (fun c18 => ?_) (fun c18 => ?_)
              · replace F := F.1 c18
                refine e_12 (f_248 (pc := 70) (e := (70, 12, 0, 0, 0, 0, 0, 71)) rfl) rfl ?_
                refine e_130 (f_248 (pc := 71) (e := (71, 130, 249, 0, 11, 374, 1234, 74)) rfl) zA (as := [yr (some 102)]) (rest := []) rfl rfl rfl rfl (Nat.le_of_ble_eq_true rfl) (Nat.le_of_ble_eq_true rfl) ⟨_, _, _, rfl, (hT 102 rfl)⟩ (mc := 0) (ms := 0) (Nat.zero_le _) (Nat.zero_le _) ?_
                refine e_K ?_ F
                rintro r h' ⟨I19, rfl, rfl, F⟩
                refine e_0 (f_248 (pc := 74) (e := (74, 0, 0, 0, 0, 0, 0, 75)) rfl) (v := 0) rfl ?_
                refine e_21 (f_248 (pc := 75) (e := (75, 21, 5, 0, 0, 0, 0, 77)) rfl) ?_
                refine e_lo [0, 1, 2, 3, 4, 5] rfl ?_
                exact F
              · replace F := F.2 c18
                refine e_lo [] rfl ?_
                exact F
set_option maxRecDepth 20000 in
theorem B_248_68 (hT : yLT T) (hR : yLR R) (F : K (some (yi (-1))) (N, T, R, I)) :
    yW l zSS D cy zFk z d 248 bc bs K 0 0 68 [] [] (N, T, R, I) := by
  refine e_0 (f_248 (pc := 68) (e := (68, 0, 4294967295, 0, 0, 0, 0, 69)) rfl) (v := (-1)) rfl ?_
  exact e_120 (f_248 (pc := 69) (e := (69, 120, 0, 0, 0, 0, 0, 70)) rfl) F
set_option maxRecDepth 20000 in
theorem B_248_77 (hT : yLT T) (hR : yLR R) {x1 x2 x3 x4 x5 : Int} (F : (4 ≤ x5 → yW l zSS D cy zFk z d 248 bc bs K 0 0 185 [(0, yr (some 102)), (4, yi x4), (5, yi 0), (6, yi 0)] [] (N, T, R, I)) ∧ (¬ (4 ≤ x5) → yW l zSS D cy zFk z d 248 bc bs K 0 0 86 [(0, yr (some 102)), (1, yi x1), (2, yi x2), (3, yi x3), (4, yi x4), (5, yi x5), (6, yi 0)] [] (N, T, R, I))) :
    yW l zSS D cy zFk z d 248 bc bs K 0 0 77 [(0, yr (some 102)), (1, yi x1), (2, yi x2), (3, yi x3), (4, yi x4), (5, yi x5)] [] (N, T, R, I) := by
  refine e_11 (f_248 (pc := 77) (e := (77, 11, 5, 0, 0, 0, 0, 79)) rfl) rfl ?_
  refine e_0 (f_248 (pc := 79) (e := (79, 0, 4, 0, 0, 0, 0, 80)) rfl) (v := 4) rfl ?_
  refine e_73 (f_248 (pc := 80) (e := (80, 73, 179, 0, 0, 0, 0, 83)) rfl) (fun c1 => ?_) (fun c1 => ?_)
  · replace F := F.1 c1
    refine e_0 (f_248 (pc := 179) (e := (179, 0, 0, 0, 0, 0, 0, 180)) rfl) (v := 0) rfl ?_
    refine e_21 (f_248 (pc := 180) (e := (180, 21, 5, 0, 0, 0, 0, 182)) rfl) ?_
    refine e_0 (f_248 (pc := 182) (e := (182, 0, 0, 0, 0, 0, 0, 183)) rfl) (v := 0) rfl ?_
    refine e_21 (f_248 (pc := 183) (e := (183, 21, 6, 0, 0, 0, 0, 185)) rfl) ?_
    refine e_lo [0, 4, 5, 6] rfl ?_
    exact F
  · replace F := F.2 c1
    refine e_0 (f_248 (pc := 83) (e := (83, 0, 0, 0, 0, 0, 0, 84)) rfl) (v := 0) rfl ?_
    refine e_21 (f_248 (pc := 84) (e := (84, 21, 6, 0, 0, 0, 0, 86)) rfl) ?_
    refine e_lo [0, 1, 2, 3, 4, 5, 6] rfl ?_
    exact F
set_option maxRecDepth 20000 in
theorem B_248_86 (hT : yLT T) (hR : yLR R) {x1 x2 x3 x4 x5 x6 : Int} (F : (2 ≤ x6 → yW l zSS D cy zFk z d 248 bc bs K 0 0 77 [(0, yr (some 102)), (1, yi x1), (2, yi x2), (3, yi x3), (4, yi x4), (5, yi (yadd x5 1))] [] (N, T, R, I)) ∧ (¬ (2 ≤ x6) → ((ydiv x5 2) ≠ 1 → yW l zSS D cy zFk z d 248 bc bs K 0 0 108 [(0, yr (some 102)), (1, yi x1), (2, yi x2), (3, yi x3), (4, yi x4), (5, yi x5), (6, yi x6)] [yi 0, yr (some 102)] (N, T, R, I)) ∧ (¬ ((ydiv x5 2) ≠ 1) → yW l zSS D cy zFk z d 248 bc bs K 0 0 108 [(0, yr (some 102)), (1, yi x1), (2, yi x2), (3, yi x3), (4, yi x4), (5, yi x5), (6, yi x6)] [yi (yshl 1 x1), yr (some 102)] (N, T, R, I)))) :
    yW l zSS D cy zFk z d 248 bc bs K 0 0 86 [(0, yr (some 102)), (1, yi x1), (2, yi x2), (3, yi x3), (4, yi x4), (5, yi x5), (6, yi x6)] [] (N, T, R, I) := by
  refine e_11 (f_248 (pc := 86) (e := (86, 11, 6, 0, 0, 0, 0, 88)) rfl) rfl ?_
  refine e_0 (f_248 (pc := 88) (e := (88, 0, 2, 0, 0, 0, 0, 89)) rfl) (v := 2) rfl ?_
  refine e_73 (f_248 (pc := 89) (e := (89, 73, 173, 0, 0, 0, 0, 92)) rfl) (fun c1 => ?_) (fun c1 => ?_)
  · replace F := F.1 c1
    refine e_26 (f_248 (pc := 173) (e := (173, 26, 5, 1, 0, 0, 0, 176)) rfl) (w := 1) rfl rfl ?_
    refine e_80 (f_248 (pc := 176) (e := (176, 80, 77, 0, 0, 0, 0, 179)) rfl) ?_
    refine e_lo [0, 1, 2, 3, 4, 5] rfl ?_
    exact F
  · replace F := F.2 c1
    refine e_12 (f_248 (pc := 92) (e := (92, 12, 0, 0, 0, 0, 0, 93)) rfl) rfl ?_
    refine e_11 (f_248 (pc := 93) (e := (93, 11, 5, 0, 0, 0, 0, 95)) rfl) rfl ?_
    refine e_0 (f_248 (pc := 95) (e := (95, 0, 2, 0, 0, 0, 0, 96)) rfl) (v := 2) rfl ?_
    refine e_33 (f_248 (pc := 96) (e := (96, 33, 0, 0, 0, 0, 0, 97)) rfl) (by decide) ?_
    refine e_0 (f_248 (pc := 97) (e := (97, 0, 1, 0, 0, 0, 0, 98)) rfl) (v := 1) rfl ?_
    refine e_71 (f_248 (pc := 98) (e := (98, 71, 107, 0, 0, 0, 0, 101)) rfl) (fun c2 => ?_) (fun c2 => ?_)
    · replace F := F.1 c2
      refine e_0 (f_248 (pc := 107) (e := (107, 0, 0, 0, 0, 0, 0, 108)) rfl) (v := 0) rfl ?_
      refine e_lo [0, 1, 2, 3, 4, 5, 6] rfl ?_
      exact F
    · replace F := F.2 c2
      refine e_0 (f_248 (pc := 101) (e := (101, 0, 1, 0, 0, 0, 0, 102)) rfl) (v := 1) rfl ?_
      refine e_10 (f_248 (pc := 102) (e := (102, 10, 1, 0, 0, 0, 0, 103)) rfl) rfl ?_
      refine e_38 (f_248 (pc := 103) (e := (103, 38, 0, 0, 0, 0, 0, 104)) rfl) ?_
      refine e_80 (f_248 (pc := 104) (e := (104, 80, 108, 0, 0, 0, 0, 107)) rfl) ?_
      refine e_lo [0, 1, 2, 3, 4, 5, 6] rfl ?_
      exact F
set_option maxRecDepth 20000 in
theorem B_248_108 (hT : yLT T) (hR : yLR R) {x1 x2 x3 x4 x5 x6 t0 : Int} (F : ((yrem x5 2) ≠ 1 → yW l zSS D cy zFk z d 248 bc bs K 0 0 123 [(0, yr (some 102)), (1, yi x1), (2, yi x2), (3, yi x3), (4, yi x4), (5, yi x5), (6, yi x6)] [yi 0, yi t0, yr (some 102)] (N, T, R, I)) ∧ (¬ ((yrem x5 2) ≠ 1) → yW l zSS D cy zFk z d 248 bc bs K 0 0 123 [(0, yr (some 102)), (1, yi x1), (2, yi x2), (3, yi x3), (4, yi x4), (5, yi x5), (6, yi x6)] [yi (yshl 1 x2), yi t0, yr (some 102)] (N, T, R, I))) :
    yW l zSS D cy zFk z d 248 bc bs K 0 0 108 [(0, yr (some 102)), (1, yi x1), (2, yi x2), (3, yi x3), (4, yi x4), (5, yi x5), (6, yi x6)] [yi t0, yr (some 102)] (N, T, R, I) := by
  refine e_11 (f_248 (pc := 108) (e := (108, 11, 5, 0, 0, 0, 0, 110)) rfl) rfl ?_
  refine e_0 (f_248 (pc := 110) (e := (110, 0, 2, 0, 0, 0, 0, 111)) rfl) (v := 2) rfl ?_
  refine e_34 (f_248 (pc := 111) (e := (111, 34, 0, 0, 0, 0, 0, 112)) rfl) (by decide) ?_
  refine e_0 (f_248 (pc := 112) (e := (112, 0, 1, 0, 0, 0, 0, 113)) rfl) (v := 1) rfl ?_
  refine e_71 (f_248 (pc := 113) (e := (113, 71, 122, 0, 0, 0, 0, 116)) rfl) (fun c1 => ?_) (fun c1 => ?_)
  · replace F := F.1 c1
    refine e_0 (f_248 (pc := 122) (e := (122, 0, 0, 0, 0, 0, 0, 123)) rfl) (v := 0) rfl ?_
    refine e_lo [0, 1, 2, 3, 4, 5, 6] rfl ?_
    exact F
  · replace F := F.2 c1
    refine e_0 (f_248 (pc := 116) (e := (116, 0, 1, 0, 0, 0, 0, 117)) rfl) (v := 1) rfl ?_
    refine e_10 (f_248 (pc := 117) (e := (117, 10, 2, 0, 0, 0, 0, 118)) rfl) rfl ?_
    refine e_38 (f_248 (pc := 118) (e := (118, 38, 0, 0, 0, 0, 0, 119)) rfl) ?_
    refine e_80 (f_248 (pc := 119) (e := (119, 80, 123, 0, 0, 0, 0, 122)) rfl) ?_
    refine e_lo [0, 1, 2, 3, 4, 5, 6] rfl ?_
    exact F
set_option maxRecDepth 20000 in
theorem B_248_123 (hT : yLT T) (hR : yLR R) {x1 x2 x3 x4 x5 x6 t0 t1 : Int} (F : ∀ I1, I1 = yU I 102 29 (yor t1 t0) → (∀ I2, I2 = yU I1 102 30 (yadd (I1 104 458) x3) → ((x6 ≠ 0 → yW l zSS D cy zFk z d 248 bc bs K 0 0 163 [(0, yr (some 102)), (1, yi x1), (2, yi x2), (3, yi x3), (4, yi x4), (5, yi x5), (6, yi x6)] [yi x2, yr (some 102), yi (yadd (ymul 2 x5) x6), yr (some 119)] (N, T, R, I2)) ∧ (¬ (x6 ≠ 0) → yW l zSS D cy zFk z d 248 bc bs K 0 0 163 [(0, yr (some 102)), (1, yi x1), (2, yi x2), (3, yi x3), (4, yi x4), (5, yi x5), (6, yi x6)] [yi x1, yr (some 102), yi (yadd (ymul 2 x5) x6), yr (some 119)] (N, T, R, I2))))) :
    yW l zSS D cy zFk z d 248 bc bs K 0 0 123 [(0, yr (some 102)), (1, yi x1), (2, yi x2), (3, yi x3), (4, yi x4), (5, yi x5), (6, yi x6)] [yi t0, yi t1, yr (some 102)] (N, T, R, I) := by
  refine e_36 (f_248 (pc := 123) (e := (123, 36, 0, 0, 0, 0, 0, 124)) rfl) ?_
  refine e_91 zA (f_248 (pc := 124) (e := (124, 91, 11, 29, 0, 313, 1209, 127)) rfl) rfl (hT 102 rfl) rfl rfl trivial ?_
  replace F := F _ rfl
  refine e_12 (f_248 (pc := 127) (e := (127, 12, 0, 0, 0, 0, 0, 128)) rfl) rfl ?_
  refine e_12 (f_248 (pc := 128) (e := (128, 12, 0, 0, 0, 0, 0, 129)) rfl) rfl ?_
  refine e_90r zA (f_248 (pc := 129) (e := (129, 90, 11, 6, 3, 33, 1159, 132)) rfl) rfl (hT 102 rfl) rfl rfl (hR 102 6 rfl) ?_
  refine e_2 (f_248 (pc := 132) (e := (132, 2, 458, 0, 0, 0, 0, 135)) rfl) (v := 458) rfl ?_
  refine e_110 (f_248 (pc := 135) (e := (135, 110, 0, 0, 0, 0, 0, 136)) rfl) rfl (hT 104 rfl) (by decide) (by decide) ?_
  refine e_10 (f_248 (pc := 136) (e := (136, 10, 3, 0, 0, 0, 0, 137)) rfl) rfl ?_
  refine e_30 (f_248 (pc := 137) (e := (137, 30, 0, 0, 0, 0, 0, 138)) rfl) ?_
  refine e_91 zA (f_248 (pc := 138) (e := (138, 91, 11, 30, 0, 316, 1210, 141)) rfl) rfl (hT 102 rfl) rfl rfl trivial ?_
  replace F := F _ rfl
  refine e_12 (f_248 (pc := 141) (e := (141, 12, 0, 0, 0, 0, 0, 142)) rfl) rfl ?_
  refine e_90r zA (f_248 (pc := 142) (e := (142, 90, 11, 43, 3, 81, 1175, 145)) rfl) rfl (hT 102 rfl) rfl rfl (hR 102 43 rfl) ?_
  refine e_0 (f_248 (pc := 145) (e := (145, 0, 2, 0, 0, 0, 0, 146)) rfl) (v := 2) rfl ?_
  refine e_11 (f_248 (pc := 146) (e := (146, 11, 5, 0, 0, 0, 0, 148)) rfl) rfl ?_
  refine e_32 (f_248 (pc := 148) (e := (148, 32, 0, 0, 0, 0, 0, 149)) rfl) ?_
  refine e_11 (f_248 (pc := 149) (e := (149, 11, 6, 0, 0, 0, 0, 151)) rfl) rfl ?_
  refine e_30 (f_248 (pc := 151) (e := (151, 30, 0, 0, 0, 0, 0, 152)) rfl) ?_
  refine e_12 (f_248 (pc := 152) (e := (152, 12, 0, 0, 0, 0, 0, 153)) rfl) rfl ?_
  refine e_11 (f_248 (pc := 153) (e := (153, 11, 6, 0, 0, 0, 0, 155)) rfl) rfl ?_
  refine e_61 (f_248 (pc := 155) (e := (155, 61, 162, 0, 0, 0, 0, 158)) rfl) (fun c3 => ?_) (fun c3 => ?_)
  · replace F := F.1 c3
    refine e_10 (f_248 (pc := 162) (e := (162, 10, 2, 0, 0, 0, 0, 163)) rfl) rfl ?_
    refine e_lo [0, 1, 2, 3, 4, 5, 6] rfl ?_
    exact F
  · replace F := F.2 c3
    refine e_10 (f_248 (pc := 158) (e := (158, 10, 1, 0, 0, 0, 0, 159)) rfl) rfl ?_
    refine e_80 (f_248 (pc := 159) (e := (159, 80, 163, 0, 0, 0, 0, 162)) rfl) ?_
    refine e_lo [0, 1, 2, 3, 4, 5, 6] rfl ?_
    exact F
set_option maxRecDepth 20000 in
theorem B_248_163 (hT : yLT T) (hR : yLR R) {x1 x2 x3 x4 x5 x6 t0 t2 : Int} (F : yW l zSS D cy zFk z d 257 0 0 (fun r h' => ∃ r2 I1, r = some (yi r2) ∧ h' = (N, T, R, I1) ∧ (0 ≤ t2 ∧ t2 < 8 ∧ (∀ I5, I5 = yU I1 119 t2.toNat (ynar 1 r2) → (yW l zSS D cy zFk z (d + 1) 248 bc bs K 0 0 86 [(0, yr (some 102)), (1, yi x1), (2, yi x2), (3, yi x3), (4, yi x4), (5, yi x5), (6, yi (yadd x6 1))] [] (N, T, R, I5))))) 0 0 0 [(0, yr (some 102)), (1, yi t0)] [] (N, T, R, I)) :
    yW l zSS D cy zFk z (d + 1) 248 bc bs K 0 0 163 [(0, yr (some 102)), (1, yi x1), (2, yi x2), (3, yi x3), (4, yi x4), (5, yi x5), (6, yi x6)] [yi t0, yr (some 102), yi t2, yr (some 119)] (N, T, R, I) := by
  refine e_130 (f_248 (pc := 163) (e := (163, 130, 257, 0, 11, 392, 1279, 166)) rfl) zA (as := [yr (some 102), yi t0]) (rest := [yi t2, yr (some 119)]) rfl rfl rfl rfl (Nat.le_of_ble_eq_true rfl) (Nat.le_of_ble_eq_true rfl) ⟨_, _, _, rfl, (hT 102 rfl)⟩ (mc := 0) (ms := 0) (Nat.zero_le _) (Nat.zero_le _) ?_
  refine e_K ?_ F
  rintro r h' ⟨r2, I1, rfl, rfl, F⟩
  obtain ⟨b3, b4, F⟩ := F
  refine e_111 (f_248 (pc := 166) (e := (166, 111, 0, 0, 0, 0, 0, 167)) rfl) rfl (hT 119 rfl) b3 b4 ?_
  replace F := F _ rfl
  refine e_26 (f_248 (pc := 167) (e := (167, 26, 6, 1, 0, 0, 0, 170)) rfl) (w := 1) rfl rfl ?_
  refine e_80 (f_248 (pc := 170) (e := (170, 80, 86, 0, 0, 0, 0, 173)) rfl) ?_
  refine e_lo [0, 1, 2, 3, 4, 5, 6] rfl ?_
  exact F
set_option maxRecDepth 20000 in
theorem B_248_185 (hT : yLT T) (hR : yLR R) {x4 x5 x6 : Int} (F : (4 ≤ x6 → (x4 ≠ (-1) → yW l zSS D cy zFk z d 248 bc bs K 0 0 275 [] [yi (-1)] (N, T, R, I)) ∧ (¬ (x4 ≠ (-1)) → yW l zSS D cy zFk z d 248 bc bs K 0 0 275 [] [yi x5] (N, T, R, I))) ∧ (¬ (4 ≤ x6) → 0 ≤ (ymul 2 x6) ∧ (ymul 2 x6) < 8 ∧ (0 ≤ (ymul 2 (yxor x6 2)) ∧ (ymul 2 (yxor x6 2)) < 8 ∧ (((I 119 (ymul 2 (yxor x6 2)).toNat) < (I 119 (ymul 2 x6).toNat) → yW l zSS D cy zFk z d 248 bc bs K 0 0 257 [(0, yr (some 102)), (4, yi x4), (5, yi x5), (6, yi x6)] [] (N, T, R, I)) ∧ (¬ ((I 119 (ymul 2 (yxor x6 2)).toNat) < (I 119 (ymul 2 x6).toNat)) → 0 ≤ (yadd (ymul 2 x6) 1) ∧ (yadd (ymul 2 x6) 1) < 8 ∧ (0 ≤ (yadd (ymul 2 (yxor x6 1)) 1) ∧ (yadd (ymul 2 (yxor x6 1)) 1) < 8 ∧ (((I 119 (yadd (ymul 2 x6) 1).toNat) ≤ (I 119 (yadd (ymul 2 (yxor x6 1)) 1).toNat) → (x5 ≠ x4 → yW l zSS D cy zFk z d 248 bc bs K 0 0 257 [(0, yr (some 102)), (4, yi x4), (5, yi (yadd x5 1)), (6, yi x6)] [] (N, T, R, I)) ∧ (¬ (x5 ≠ x4) → K (some (yi x6)) (N, T, R, I))) ∧ (¬ ((I 119 (yadd (ymul 2 x6) 1).toNat) ≤ (I 119 (yadd (ymul 2 (yxor x6 1)) 1).toNat)) → yW l zSS D cy zFk z d 248 bc bs K 0 0 257 [(0, yr (some 102)), (4, yi x4), (5, yi x5), (6, yi x6)] [] (N, T, R, I))))))))) :
    yW l zSS D cy zFk z d 248 bc bs K 0 0 185 [(0, yr (some 102)), (4, yi x4), (5, yi x5), (6, yi x6)] [] (N, T, R, I) := by
  refine e_11 (f_248 (pc := 185) (e := (185, 11, 6, 0, 0, 0, 0, 187)) rfl) rfl ?_
  refine e_0 (f_248 (pc := 187) (e := (187, 0, 4, 0, 0, 0, 0, 188)) rfl) (v := 4) rfl ?_
  refine e_73 (f_248 (pc := 188) (e := (188, 73, 263, 0, 0, 0, 0, 191)) rfl) (fun c1 => ?_) (fun c1 => ?_)
  · replace F := F.1 c1
    refine e_11 (f_248 (pc := 263) (e := (263, 11, 4, 0, 0, 0, 0, 265)) rfl) rfl ?_
    refine e_0 (f_248 (pc := 265) (e := (265, 0, 4294967295, 0, 0, 0, 0, 266)) rfl) (v := (-1)) rfl ?_
    refine e_71 (f_248 (pc := 266) (e := (266, 71, 274, 0, 0, 0, 0, 269)) rfl) (fun c2 => ?_) (fun c2 => ?_)
    · replace F := F.1 c2
      refine e_0 (f_248 (pc := 274) (e := (274, 0, 4294967295, 0, 0, 0, 0, 275)) rfl) (v := (-1)) rfl ?_
      refine e_lo [] rfl ?_
      exact F
    · replace F := F.2 c2
      refine e_11 (f_248 (pc := 269) (e := (269, 11, 5, 0, 0, 0, 0, 271)) rfl) rfl ?_
      refine e_80 (f_248 (pc := 271) (e := (271, 80, 275, 0, 0, 0, 0, 274)) rfl) ?_
      refine e_lo [] rfl ?_
      exact F
  · replace F := F.2 c1
    refine e_12 (f_248 (pc := 191) (e := (191, 12, 0, 0, 0, 0, 0, 192)) rfl) rfl ?_
    refine e_90r zA (f_248 (pc := 192) (e := (192, 90, 11, 43, 3, 81, 1175, 195)) rfl) rfl (hT 102 rfl) rfl rfl (hR 102 43 rfl) ?_
    refine e_0 (f_248 (pc := 195) (e := (195, 0, 2, 0, 0, 0, 0, 196)) rfl) (v := 2) rfl ?_
    refine e_11 (f_248 (pc := 196) (e := (196, 11, 6, 0, 0, 0, 0, 198)) rfl) rfl ?_
    refine e_32 (f_248 (pc := 198) (e := (198, 32, 0, 0, 0, 0, 0, 199)) rfl) ?_
    obtain ⟨b3, b4, F⟩ := F
    refine e_110 (f_248 (pc := 199) (e := (199, 110, 0, 0, 0, 0, 0, 200)) rfl) rfl (hT 119 rfl) b3 b4 ?_
    refine e_12 (f_248 (pc := 200) (e := (200, 12, 0, 0, 0, 0, 0, 201)) rfl) rfl ?_
    refine e_90r zA (f_248 (pc := 201) (e := (201, 90, 11, 43, 3, 81, 1175, 204)) rfl) rfl (hT 102 rfl) rfl rfl (hR 102 43 rfl) ?_
    refine e_0 (f_248 (pc := 204) (e := (204, 0, 2, 0, 0, 0, 0, 205)) rfl) (v := 2) rfl ?_
    refine e_11 (f_248 (pc := 205) (e := (205, 11, 6, 0, 0, 0, 0, 207)) rfl) rfl ?_
    refine e_0 (f_248 (pc := 207) (e := (207, 0, 2, 0, 0, 0, 0, 208)) rfl) (v := 2) rfl ?_
    refine e_37 (f_248 (pc := 208) (e := (208, 37, 0, 0, 0, 0, 0, 209)) rfl) ?_
    refine e_32 (f_248 (pc := 209) (e := (209, 32, 0, 0, 0, 0, 0, 210)) rfl) ?_
    obtain ⟨b5, b6, F⟩ := F
    refine e_110 (f_248 (pc := 210) (e := (210, 110, 0, 0, 0, 0, 0, 211)) rfl) rfl (hT 119 rfl) b5 b6 ?_
    refine e_74 (f_248 (pc := 211) (e := (211, 74, 257, 0, 0, 0, 0, 214)) rfl) (fun c7 => ?_) (fun c7 => ?_)
    · replace F := F.1 c7
      refine e_lo [0, 4, 5, 6] rfl ?_
      exact F
    · replace F := F.2 c7
      refine e_12 (f_248 (pc := 214) (e := (214, 12, 0, 0, 0, 0, 0, 215)) rfl) rfl ?_
      refine e_90r zA (f_248 (pc := 215) (e := (215, 90, 11, 43, 3, 81, 1175, 218)) rfl) rfl (hT 102 rfl) rfl rfl (hR 102 43 rfl) ?_
      refine e_0 (f_248 (pc := 218) (e := (218, 0, 2, 0, 0, 0, 0, 219)) rfl) (v := 2) rfl ?_
      refine e_11 (f_248 (pc := 219) (e := (219, 11, 6, 0, 0, 0, 0, 221)) rfl) rfl ?_
      refine e_32 (f_248 (pc := 221) (e := (221, 32, 0, 0, 0, 0, 0, 222)) rfl) ?_
      refine e_0 (f_248 (pc := 222) (e := (222, 0, 1, 0, 0, 0, 0, 223)) rfl) (v := 1) rfl ?_
      refine e_30 (f_248 (pc := 223) (e := (223, 30, 0, 0, 0, 0, 0, 224)) rfl) ?_
      obtain ⟨b8, b9, F⟩ := F
      refine e_110 (f_248 (pc := 224) (e := (224, 110, 0, 0, 0, 0, 0, 225)) rfl) rfl (hT 119 rfl) b8 b9 ?_
      refine e_12 (f_248 (pc := 225) (e := (225, 12, 0, 0, 0, 0, 0, 226)) rfl) rfl ?_
      refine e_90r zA (f_248 (pc := 226) (e := (226, 90, 11, 43, 3, 81, 1175, 229)) rfl) rfl (hT 102 rfl) rfl rfl (hR 102 43 rfl) ?_
      refine e_0 (f_248 (pc := 229) (e := (229, 0, 2, 0, 0, 0, 0, 230)) rfl) (v := 2) rfl ?_
      refine e_11 (f_248 (pc := 230) (e := (230, 11, 6, 0, 0, 0, 0, 232)) rfl) rfl ?_
      refine e_0 (f_248 (pc := 232) (e := (232, 0, 1, 0, 0, 0, 0, 233)) rfl) (v := 1) rfl ?_
      refine e_37 (f_248 (pc := 233) (e := (233, 37, 0, 0, 0, 0, 0, 234)) rfl) ?_
      refine e_32 (f_248 (pc := 234) (e := (234, 32, 0, 0, 0, 0, 0, 235)) rfl) ?_
      refine e_0 (f_248 (pc := 235) (e := (235, 0, 1, 0, 0, 0, 0, 236)) rfl) (v := 1) rfl ?_
      refine e_30 (f_248 (pc := 236) (e := (236, 30, 0, 0, 0, 0, 0, 237)) rfl) ?_
      obtain ⟨b10, b11, F⟩ := F
      refine e_110 (f_248 (pc := 237) (e := (237, 110, 0, 0, 0, 0, 0, 238)) rfl) rfl (hT 119 rfl) b10 b11 ?_
      refine e_75 (f_248 (pc := 238) (e := (238, 75, 244, 0, 0, 0, 0, 241)) rfl) (fun c12 => ?_) (fun c12 => ?_)
      · replace F := F.1 c12
        refine e_11 (f_248 (pc := 244) (e := (244, 11, 5, 0, 0, 0, 0, 246)) rfl) rfl ?_
        refine e_11 (f_248 (pc := 246) (e := (246, 11, 4, 0, 0, 0, 0, 248)) rfl) rfl ?_
        refine e_71 (f_248 (pc := 248) (e := (248, 71, 254, 0, 0, 0, 0, 251)) rfl) (fun c13 => ?_) (fun c13 => ?_)
        · replace F := F.1 c13
          refine e_26 (f_248 (pc := 254) (e := (254, 26, 5, 1, 0, 0, 0, 257)) rfl) (w := 1) rfl rfl ?_
          refine e_lo [0, 4, 5, 6] rfl ?_
          exact F
        · replace F := F.2 c13
          refine e_11 (f_248 (pc := 251) (e := (251, 11, 6, 0, 0, 0, 0, 253)) rfl) rfl ?_
          exact e_120 (f_248 (pc := 253) (e := (253, 120, 0, 0, 0, 0, 0, 254)) rfl) F
      · replace F := F.2 c12
        refine e_80 (f_248 (pc := 241) (e := (241, 80, 257, 0, 0, 0, 0, 244)) rfl) ?_
        refine e_lo [0, 4, 5, 6] rfl ?_
        exact F
set_option maxRecDepth 20000 in
theorem B_248_257 (hT : yLT T) (hR : yLR R) {x4 x5 x6 : Int} (F : yW l zSS D cy zFk z d 248 bc bs K 0 0 185 [(0, yr (some 102)), (4, yi x4), (5, yi x5), (6, yi (yadd x6 1))] [] (N, T, R, I)) :
    yW l zSS D cy zFk z d 248 bc bs K 0 0 257 [(0, yr (some 102)), (4, yi x4), (5, yi x5), (6, yi x6)] [] (N, T, R, I) := by
  refine e_26 (f_248 (pc := 257) (e := (257, 26, 6, 1, 0, 0, 0, 260)) rfl) (w := 1) rfl rfl ?_
  refine e_80 (f_248 (pc := 260) (e := (260, 80, 185, 0, 0, 0, 0, 263)) rfl) ?_
  refine e_lo [0, 4, 5, 6] rfl ?_
  exact F
set_option maxRecDepth 20000 in
theorem B_248_275 (hT : yLT T) (hR : yLR R) {t0 : Int} (F : K (some (yi t0)) (N, T, R, I)) :
    yW l zSS D cy zFk z d 248 bc bs K 0 0 275 [] [yi t0] (N, T, R, I) := by
  exact e_120 (f_248 (pc := 275) (e := (275, 120, 0, 0, 0, 0, 0, 0)) rfl) F

/-! tries()V -/
set_option maxRecDepth 20000 in
theorem B_249_0 (hT : yLT T) (hR : yLR R) (F : yW l zSS D cy zFk z d 249 bc bs K 0 0 2 [(0, yr (some 102)), (1, yi 0)] [] (N, T, R, I)) :
    yW l zSS D cy zFk z d 249 bc bs K 0 0 0 [(0, yr (some 102))] [] (N, T, R, I) := by
  refine e_0 (f_249 (pc := 0) (e := (0, 0, 0, 0, 0, 0, 0, 1)) rfl) (v := 0) rfl ?_
  refine e_20 (f_249 (pc := 1) (e := (1, 20, 1, 0, 0, 0, 0, 2)) rfl) ?_
  refine e_lo [0, 1] rfl ?_
  exact F
set_option maxRecDepth 20000 in
theorem B_249_2 (hT : yLT T) (hR : yLR R) {x1 : Int} (F : (468 ≤ x1 → K none (N, T, R, I)) ∧ (¬ (468 ≤ x1) → 0 ≤ (yadd 458 x1) ∧ (yadd 458 x1) < 1188 ∧ (0 ≤ x1 ∧ x1 < 468 ∧ (∀ I6, I6 = yU I 114 x1.toNat (ynar 1 (I 104 (yadd 458 x1).toNat)) → (yW l zSS D cy zFk z d 249 bc bs K 0 0 2 [(0, yr (some 102)), (1, yi (yadd x1 1))] [] (N, T, R, I6)))))) :
    yW l zSS D cy zFk z d 249 bc bs K 0 0 2 [(0, yr (some 102)), (1, yi x1)] [] (N, T, R, I) := by
  refine e_10 (f_249 (pc := 2) (e := (2, 10, 1, 0, 0, 0, 0, 3)) rfl) rfl ?_
  refine e_2 (f_249 (pc := 3) (e := (3, 2, 468, 0, 0, 0, 0, 6)) rfl) (v := 468) rfl ?_
  refine e_73 (f_249 (pc := 6) (e := (6, 73, 31, 0, 0, 0, 0, 9)) rfl) (fun c1 => ?_) (fun c1 => ?_)
  · replace F := F.1 c1
    exact e_122 (f_249 (pc := 31) (e := (31, 122, 0, 0, 0, 0, 0, 0)) rfl) F
  · replace F := F.2 c1
    refine e_12 (f_249 (pc := 9) (e := (9, 12, 0, 0, 0, 0, 0, 10)) rfl) rfl ?_
    refine e_90r zA (f_249 (pc := 10) (e := (10, 90, 11, 34, 3, 65, 1169, 13)) rfl) rfl (hT 102 rfl) rfl rfl (hR 102 34 rfl) ?_
    refine e_10 (f_249 (pc := 13) (e := (13, 10, 1, 0, 0, 0, 0, 14)) rfl) rfl ?_
    refine e_12 (f_249 (pc := 14) (e := (14, 12, 0, 0, 0, 0, 0, 15)) rfl) rfl ?_
    refine e_90r zA (f_249 (pc := 15) (e := (15, 90, 11, 6, 3, 33, 1159, 18)) rfl) rfl (hT 102 rfl) rfl rfl (hR 102 6 rfl) ?_
    refine e_2 (f_249 (pc := 18) (e := (18, 2, 458, 0, 0, 0, 0, 21)) rfl) (v := 458) rfl ?_
    refine e_10 (f_249 (pc := 21) (e := (21, 10, 1, 0, 0, 0, 0, 22)) rfl) rfl ?_
    refine e_30 (f_249 (pc := 22) (e := (22, 30, 0, 0, 0, 0, 0, 23)) rfl) ?_
    obtain ⟨b2, b3, F⟩ := F
    refine e_110 (f_249 (pc := 23) (e := (23, 110, 0, 0, 0, 0, 0, 24)) rfl) rfl (hT 104 rfl) b2 b3 ?_
    obtain ⟨b4, b5, F⟩ := F
    refine e_111 (f_249 (pc := 24) (e := (24, 111, 0, 0, 0, 0, 0, 25)) rfl) rfl (hT 114 rfl) b4 b5 ?_
    replace F := F _ rfl
    refine e_26 (f_249 (pc := 25) (e := (25, 26, 1, 1, 0, 0, 0, 28)) rfl) (w := 1) rfl rfl ?_
    refine e_80 (f_249 (pc := 28) (e := (28, 80, 2, 0, 0, 0, 0, 31)) rfl) ?_
    refine e_lo [0, 1] rfl ?_
    exact F

/-! undo()I -/
set_option maxRecDepth 20000 in
theorem B_250_0 (hT : yLT T) (hR : yLR R) (F : ∀ I1, I1 = yU I 102 0 0 → (((I1 102 35) ≠ 0 → ∀ I3, I3 = yU I1 102 35 (ysub (I1 102 35) 1) → (yW l zSS D cy zFk z d 250 bc bs K 0 0 26 [(0, yr (some 102)), (1, yi 0)] [] (N, T, R, I3))) ∧ (¬ ((I1 102 35) ≠ 0) → K (some (yi (-1))) (N, T, R, I1)))) :
    yW l zSS D cy zFk z d 250 bc bs K 0 0 0 [(0, yr (some 102))] [] (N, T, R, I) := by
  refine e_12 (f_250 (pc := 0) (e := (0, 12, 0, 0, 0, 0, 0, 1)) rfl) rfl ?_
  refine e_0 (f_250 (pc := 1) (e := (1, 0, 0, 0, 0, 0, 0, 2)) rfl) (v := 0) rfl ?_
  refine e_91 zA (f_250 (pc := 2) (e := (2, 91, 11, 0, 0, 1, 1216, 5)) rfl) rfl (hT 102 rfl) rfl rfl trivial ?_
  replace F := F _ rfl
  refine e_12 (f_250 (pc := 5) (e := (5, 12, 0, 0, 0, 0, 0, 6)) rfl) rfl ?_
  refine e_90 zA (f_250 (pc := 6) (e := (6, 90, 11, 35, 0, 259, 1230, 9)) rfl) rfl (hT 102 rfl) rfl rfl ?_
  refine e_61 (f_250 (pc := 9) (e := (9, 61, 14, 0, 0, 0, 0, 12)) rfl) (fun c2 => ?_) (fun c2 => ?_)
  · replace F := F.1 c2
    refine e_12 (f_250 (pc := 14) (e := (14, 12, 0, 0, 0, 0, 0, 15)) rfl) rfl ?_
    refine e_50 (f_250 (pc := 15) (e := (15, 50, 0, 0, 0, 0, 0, 16)) rfl) rfl ?_
    refine e_90 zA (f_250 (pc := 16) (e := (16, 90, 11, 35, 0, 259, 1230, 19)) rfl) rfl (hT 102 rfl) rfl rfl ?_
    refine e_0 (f_250 (pc := 19) (e := (19, 0, 1, 0, 0, 0, 0, 20)) rfl) (v := 1) rfl ?_
    refine e_31 (f_250 (pc := 20) (e := (20, 31, 0, 0, 0, 0, 0, 21)) rfl) ?_
    refine e_91 zA (f_250 (pc := 21) (e := (21, 91, 11, 35, 0, 259, 1230, 24)) rfl) rfl (hT 102 rfl) rfl rfl trivial ?_
    replace F := F _ rfl
    refine e_0 (f_250 (pc := 24) (e := (24, 0, 0, 0, 0, 0, 0, 25)) rfl) (v := 0) rfl ?_
    refine e_20 (f_250 (pc := 25) (e := (25, 20, 1, 0, 0, 0, 0, 26)) rfl) ?_
    refine e_lo [0, 1] rfl ?_
    exact F
  · replace F := F.2 c2
    refine e_0 (f_250 (pc := 12) (e := (12, 0, 4294967295, 0, 0, 0, 0, 13)) rfl) (v := (-1)) rfl ?_
    exact e_120 (f_250 (pc := 13) (e := (13, 120, 0, 0, 0, 0, 0, 14)) rfl) F
set_option maxRecDepth 20000 in
theorem B_250_26 (hT : yLT T) (hR : yLR R) {x1 : Int} (F : (468 ≤ x1 → K (some (yi (I 102 35))) (N, T, R, I)) ∧ (¬ (468 ≤ x1) → 0 ≤ (yadd (ymul 468 (I 102 35)) x1) ∧ (yadd (ymul 468 (I 102 35)) x1) < 3744 ∧ (0 ≤ (yadd 458 x1) ∧ (yadd 458 x1) < 1188 ∧ (∀ I6, I6 = yU I 104 ((yadd 458 x1).toNat) (ynar 1 (I 113 (yadd (ymul 468 (I 102 35)) x1).toNat)) → (yW l zSS D cy zFk z d 250 bc bs K 0 0 26 [(0, yr (some 102)), (1, yi (yadd x1 1))] [] (N, T, R, I6)))))) :
    yW l zSS D cy zFk z d 250 bc bs K 0 0 26 [(0, yr (some 102)), (1, yi x1)] [] (N, T, R, I) := by
  refine e_10 (f_250 (pc := 26) (e := (26, 10, 1, 0, 0, 0, 0, 27)) rfl) rfl ?_
  refine e_2 (f_250 (pc := 27) (e := (27, 2, 468, 0, 0, 0, 0, 30)) rfl) (v := 468) rfl ?_
  refine e_73 (f_250 (pc := 30) (e := (30, 73, 64, 0, 0, 0, 0, 33)) rfl) (fun c1 => ?_) (fun c1 => ?_)
  · replace F := F.1 c1
    refine e_12 (f_250 (pc := 64) (e := (64, 12, 0, 0, 0, 0, 0, 65)) rfl) rfl ?_
    refine e_90 zA (f_250 (pc := 65) (e := (65, 90, 11, 35, 0, 259, 1230, 68)) rfl) rfl (hT 102 rfl) rfl rfl ?_
    exact e_120 (f_250 (pc := 68) (e := (68, 120, 0, 0, 0, 0, 0, 0)) rfl) F
  · replace F := F.2 c1
    refine e_12 (f_250 (pc := 33) (e := (33, 12, 0, 0, 0, 0, 0, 34)) rfl) rfl ?_
    refine e_90r zA (f_250 (pc := 34) (e := (34, 90, 11, 6, 3, 33, 1159, 37)) rfl) rfl (hT 102 rfl) rfl rfl (hR 102 6 rfl) ?_
    refine e_2 (f_250 (pc := 37) (e := (37, 2, 458, 0, 0, 0, 0, 40)) rfl) (v := 458) rfl ?_
    refine e_10 (f_250 (pc := 40) (e := (40, 10, 1, 0, 0, 0, 0, 41)) rfl) rfl ?_
    refine e_30 (f_250 (pc := 41) (e := (41, 30, 0, 0, 0, 0, 0, 42)) rfl) ?_
    refine e_12 (f_250 (pc := 42) (e := (42, 12, 0, 0, 0, 0, 0, 43)) rfl) rfl ?_
    refine e_90r zA (f_250 (pc := 43) (e := (43, 90, 11, 33, 3, 62, 1168, 46)) rfl) rfl (hT 102 rfl) rfl rfl (hR 102 33 rfl) ?_
    refine e_2 (f_250 (pc := 46) (e := (46, 2, 468, 0, 0, 0, 0, 49)) rfl) (v := 468) rfl ?_
    refine e_12 (f_250 (pc := 49) (e := (49, 12, 0, 0, 0, 0, 0, 50)) rfl) rfl ?_
    refine e_90 zA (f_250 (pc := 50) (e := (50, 90, 11, 35, 0, 259, 1230, 53)) rfl) rfl (hT 102 rfl) rfl rfl ?_
    refine e_32 (f_250 (pc := 53) (e := (53, 32, 0, 0, 0, 0, 0, 54)) rfl) ?_
    refine e_10 (f_250 (pc := 54) (e := (54, 10, 1, 0, 0, 0, 0, 55)) rfl) rfl ?_
    refine e_30 (f_250 (pc := 55) (e := (55, 30, 0, 0, 0, 0, 0, 56)) rfl) ?_
    obtain ⟨b2, b3, F⟩ := F
    refine e_110 (f_250 (pc := 56) (e := (56, 110, 0, 0, 0, 0, 0, 57)) rfl) rfl (hT 113 rfl) b2 b3 ?_
    obtain ⟨b4, b5, F⟩ := F
    refine e_111 (f_250 (pc := 57) (e := (57, 111, 0, 0, 0, 0, 0, 58)) rfl) rfl (hT 104 rfl) b4 b5 ?_
    replace F := F _ rfl
    refine e_26 (f_250 (pc := 58) (e := (58, 26, 1, 1, 0, 0, 0, 61)) rfl) (w := 1) rfl rfl ?_
    refine e_80 (f_250 (pc := 61) (e := (61, 80, 26, 0, 0, 0, 0, 64)) rfl) ?_
    refine e_lo [0, 1] rfl ?_
    exact F

/-! untied()I -/
set_option maxRecDepth 20000 in
theorem B_251_0 (hT : yLT T) (hR : yLR R) (F : ∀ I1, I1 = yU I 102 0 0 → (∀ I2, I2 = yU I1 102 40 0 → (yW l zSS D cy zFk z d 251 bc bs K 0 0 12 [(0, yr (some 102)), (1, yi 0)] [] (N, T, R, I2)))) :
    yW l zSS D cy zFk z d 251 bc bs K 0 0 0 [(0, yr (some 102))] [] (N, T, R, I) := by
  refine e_12 (f_251 (pc := 0) (e := (0, 12, 0, 0, 0, 0, 0, 1)) rfl) rfl ?_
  refine e_0 (f_251 (pc := 1) (e := (1, 0, 0, 0, 0, 0, 0, 2)) rfl) (v := 0) rfl ?_
  refine e_91 zA (f_251 (pc := 2) (e := (2, 91, 11, 0, 0, 1, 1216, 5)) rfl) rfl (hT 102 rfl) rfl rfl trivial ?_
  replace F := F _ rfl
  refine e_12 (f_251 (pc := 5) (e := (5, 12, 0, 0, 0, 0, 0, 6)) rfl) rfl ?_
  refine e_0 (f_251 (pc := 6) (e := (6, 0, 0, 0, 0, 0, 0, 7)) rfl) (v := 0) rfl ?_
  refine e_91 zA (f_251 (pc := 7) (e := (7, 91, 11, 40, 0, 348, 1300, 10)) rfl) rfl (hT 102 rfl) rfl rfl trivial ?_
  replace F := F _ rfl
  refine e_0 (f_251 (pc := 10) (e := (10, 0, 0, 0, 0, 0, 0, 11)) rfl) (v := 0) rfl ?_
  refine e_20 (f_251 (pc := 11) (e := (11, 20, 1, 0, 0, 0, 0, 12)) rfl) ?_
  refine e_lo [0, 1] rfl ?_
  exact F
set_option maxRecDepth 20000 in
theorem B_251_12 (hT : yLT T) (hR : yLR R) {x1 : Int} (F : ((I 104 2) ≤ x1 → ((ymul (I 104 0) (I 104 1)) ≤ 36 → yW l zSS D cy zFk z d 251 bc bs K 0 0 98 [(0, yr (some 102)), (1, yi 0)] [] (N, T, R, I)) ∧ (¬ ((ymul (I 104 0) (I 104 1)) ≤ 36) → K (some (yi (-2))) (N, T, R, I))) ∧ (¬ ((I 104 2) ≤ x1) → 0 ≤ (yadd 470 x1) ∧ (yadd 470 x1) < 1188 ∧ ((0 ≤ (I 104 (yadd 470 x1).toNat) → ((I 102 40) ≠ 3 → 0 ≤ (I 102 40) ∧ (I 102 40) < 3 ∧ (∀ I9, I9 = yU I 117 ((I 102 40).toNat) (ynar 1 x1) → (∀ I10, I10 = yU I9 102 40 (yadd (I9 102 40) 1) → (yW l zSS D cy zFk z d 251 bc bs K 0 0 12 [(0, yr (some 102)), (1, yi (yadd x1 1))] [] (N, T, R, I10))))) ∧ (¬ ((I 102 40) ≠ 3) → K (some (yi (-2))) (N, T, R, I))) ∧ (¬ (0 ≤ (I 104 (yadd 470 x1).toNat)) → yW l zSS D cy zFk z d 251 bc bs K 0 0 12 [(0, yr (some 102)), (1, yi (yadd x1 1))] [] (N, T, R, I))))) :
    yW l zSS D cy zFk z d 251 bc bs K 0 0 12 [(0, yr (some 102)), (1, yi x1)] [] (N, T, R, I) := by
  refine e_10 (f_251 (pc := 12) (e := (12, 10, 1, 0, 0, 0, 0, 13)) rfl) rfl ?_
  refine e_12 (f_251 (pc := 13) (e := (13, 12, 0, 0, 0, 0, 0, 14)) rfl) rfl ?_
  refine e_90r zA (f_251 (pc := 14) (e := (14, 90, 11, 6, 3, 33, 1159, 17)) rfl) rfl (hT 102 rfl) rfl rfl (hR 102 6 rfl) ?_
  refine e_0 (f_251 (pc := 17) (e := (17, 0, 2, 0, 0, 0, 0, 18)) rfl) (v := 2) rfl ?_
  refine e_110 (f_251 (pc := 18) (e := (18, 110, 0, 0, 0, 0, 0, 19)) rfl) rfl (hT 104 rfl) (by decide) (by decide) ?_
  refine e_73 (f_251 (pc := 19) (e := (19, 73, 75, 0, 0, 0, 0, 22)) rfl) (fun c1 => ?_) (fun c1 => ?_)
  · replace F := F.1 c1
    refine e_12 (f_251 (pc := 75) (e := (75, 12, 0, 0, 0, 0, 0, 76)) rfl) rfl ?_
    refine e_90r zA (f_251 (pc := 76) (e := (76, 90, 11, 6, 3, 33, 1159, 79)) rfl) rfl (hT 102 rfl) rfl rfl (hR 102 6 rfl) ?_
    refine e_0 (f_251 (pc := 79) (e := (79, 0, 0, 0, 0, 0, 0, 80)) rfl) (v := 0) rfl ?_
    refine e_110 (f_251 (pc := 80) (e := (80, 110, 0, 0, 0, 0, 0, 81)) rfl) rfl (hT 104 rfl) (by decide) (by decide) ?_
    refine e_12 (f_251 (pc := 81) (e := (81, 12, 0, 0, 0, 0, 0, 82)) rfl) rfl ?_
    refine e_90r zA (f_251 (pc := 82) (e := (82, 90, 11, 6, 3, 33, 1159, 85)) rfl) rfl (hT 102 rfl) rfl rfl (hR 102 6 rfl) ?_
    refine e_0 (f_251 (pc := 85) (e := (85, 0, 1, 0, 0, 0, 0, 86)) rfl) (v := 1) rfl ?_
    refine e_110 (f_251 (pc := 86) (e := (86, 110, 0, 0, 0, 0, 0, 87)) rfl) rfl (hT 104 rfl) (by decide) (by decide) ?_
    refine e_32 (f_251 (pc := 87) (e := (87, 32, 0, 0, 0, 0, 0, 88)) rfl) ?_
    refine e_1 (f_251 (pc := 88) (e := (88, 1, 36, 0, 0, 0, 0, 90)) rfl) (v := 36) rfl ?_
    refine e_75 (f_251 (pc := 90) (e := (90, 75, 96, 0, 0, 0, 0, 93)) rfl) (fun c2 => ?_) (fun c2 => ?_)
    · replace F := F.1 c2
      refine e_0 (f_251 (pc := 96) (e := (96, 0, 0, 0, 0, 0, 0, 97)) rfl) (v := 0) rfl ?_
      refine e_20 (f_251 (pc := 97) (e := (97, 20, 1, 0, 0, 0, 0, 98)) rfl) ?_
      refine e_lo [0, 1] rfl ?_
      exact F
    · replace F := F.2 c2
      refine e_1 (f_251 (pc := 93) (e := (93, 1, 4294967294, 0, 0, 0, 0, 95)) rfl) (v := (-2)) rfl ?_
      exact e_120 (f_251 (pc := 95) (e := (95, 120, 0, 0, 0, 0, 0, 96)) rfl) F
  · replace F := F.2 c1
    refine e_12 (f_251 (pc := 22) (e := (22, 12, 0, 0, 0, 0, 0, 23)) rfl) rfl ?_
    refine e_90r zA (f_251 (pc := 23) (e := (23, 90, 11, 6, 3, 33, 1159, 26)) rfl) rfl (hT 102 rfl) rfl rfl (hR 102 6 rfl) ?_
    refine e_2 (f_251 (pc := 26) (e := (26, 2, 470, 0, 0, 0, 0, 29)) rfl) (v := 470) rfl ?_
    refine e_10 (f_251 (pc := 29) (e := (29, 10, 1, 0, 0, 0, 0, 30)) rfl) rfl ?_
    refine e_30 (f_251 (pc := 30) (e := (30, 30, 0, 0, 0, 0, 0, 31)) rfl) ?_
    obtain ⟨b3, b4, F⟩ := F
    refine e_110 (f_251 (pc := 31) (e := (31, 110, 0, 0, 0, 0, 0, 32)) rfl) rfl (hT 104 rfl) b3 b4 ?_
    refine e_63 (f_251 (pc := 32) (e := (32, 63, 38, 0, 0, 0, 0, 35)) rfl) (fun c5 => ?_) (fun c5 => ?_)
    · replace F := F.1 c5
      refine e_12 (f_251 (pc := 38) (e := (38, 12, 0, 0, 0, 0, 0, 39)) rfl) rfl ?_
      refine e_90 zA (f_251 (pc := 39) (e := (39, 90, 11, 40, 0, 348, 1300, 42)) rfl) rfl (hT 102 rfl) rfl rfl ?_
      refine e_0 (f_251 (pc := 42) (e := (42, 0, 3, 0, 0, 0, 0, 43)) rfl) (v := 3) rfl ?_
      refine e_71 (f_251 (pc := 43) (e := (43, 71, 49, 0, 0, 0, 0, 46)) rfl) (fun c6 => ?_) (fun c6 => ?_)
      · replace F := F.1 c6
        refine e_12 (f_251 (pc := 49) (e := (49, 12, 0, 0, 0, 0, 0, 50)) rfl) rfl ?_
        refine e_90r zA (f_251 (pc := 50) (e := (50, 90, 11, 38, 3, 75, 1173, 53)) rfl) rfl (hT 102 rfl) rfl rfl (hR 102 38 rfl) ?_
        refine e_12 (f_251 (pc := 53) (e := (53, 12, 0, 0, 0, 0, 0, 54)) rfl) rfl ?_
        refine e_90 zA (f_251 (pc := 54) (e := (54, 90, 11, 40, 0, 348, 1300, 57)) rfl) rfl (hT 102 rfl) rfl rfl ?_
        refine e_10 (f_251 (pc := 57) (e := (57, 10, 1, 0, 0, 0, 0, 58)) rfl) rfl ?_
        obtain ⟨b7, b8, F⟩ := F
        refine e_111 (f_251 (pc := 58) (e := (58, 111, 0, 0, 0, 0, 0, 59)) rfl) rfl (hT 117 rfl) b7 b8 ?_
        replace F := F _ rfl
        refine e_12 (f_251 (pc := 59) (e := (59, 12, 0, 0, 0, 0, 0, 60)) rfl) rfl ?_
        refine e_50 (f_251 (pc := 60) (e := (60, 50, 0, 0, 0, 0, 0, 61)) rfl) rfl ?_
        refine e_90 zA (f_251 (pc := 61) (e := (61, 90, 11, 40, 0, 348, 1300, 64)) rfl) rfl (hT 102 rfl) rfl rfl ?_
        refine e_0 (f_251 (pc := 64) (e := (64, 0, 1, 0, 0, 0, 0, 65)) rfl) (v := 1) rfl ?_
        refine e_30 (f_251 (pc := 65) (e := (65, 30, 0, 0, 0, 0, 0, 66)) rfl) ?_
        refine e_91 zA (f_251 (pc := 66) (e := (66, 91, 11, 40, 0, 348, 1300, 69)) rfl) rfl (hT 102 rfl) rfl rfl trivial ?_
        replace F := F _ rfl
        refine e_26 (f_251 (pc := 69) (e := (69, 26, 1, 1, 0, 0, 0, 72)) rfl) (w := 1) rfl rfl ?_
        refine e_80 (f_251 (pc := 72) (e := (72, 80, 12, 0, 0, 0, 0, 75)) rfl) ?_
        refine e_lo [0, 1] rfl ?_
        exact F
      · replace F := F.2 c6
        refine e_1 (f_251 (pc := 46) (e := (46, 1, 4294967294, 0, 0, 0, 0, 48)) rfl) (v := (-2)) rfl ?_
        exact e_120 (f_251 (pc := 48) (e := (48, 120, 0, 0, 0, 0, 0, 49)) rfl) F
    · replace F := F.2 c5
      refine e_80 (f_251 (pc := 35) (e := (35, 80, 69, 0, 0, 0, 0, 38)) rfl) ?_
      refine e_26 (f_251 (pc := 69) (e := (69, 26, 1, 1, 0, 0, 0, 72)) rfl) (w := 1) rfl rfl ?_
      refine e_80 (f_251 (pc := 72) (e := (72, 80, 12, 0, 0, 0, 0, 75)) rfl) ?_
      refine e_lo [0, 1] rfl ?_
      exact F
set_option maxRecDepth 20000 in
theorem B_251_98 (hT : yLT T) (hR : yLR R) {x1 : Int} (F : (50653 ≤ x1 → yW l zSS D cy zFk z d 251 bc bs K 0 0 125 [(0, yr (some 102)), (1, yi 50652), (2, yi 0), (3, yi 2)] [] (N, T, R, I)) ∧ (¬ (50653 ≤ x1) → 0 ≤ x1 ∧ x1 < 50653 ∧ (∀ I4, I4 = yU I 115 x1.toNat (ynar 1 0) → (yW l zSS D cy zFk z d 251 bc bs K 0 0 98 [(0, yr (some 102)), (1, yi (yadd x1 1))] [] (N, T, R, I4))))) :
    yW l zSS D cy zFk z d 251 bc bs K 0 0 98 [(0, yr (some 102)), (1, yi x1)] [] (N, T, R, I) := by
  refine e_10 (f_251 (pc := 98) (e := (98, 10, 1, 0, 0, 0, 0, 99)) rfl) rfl ?_
  refine e_3 (f_251 (pc := 99) (e := (99, 3, 50653, 0, 0, 68, 1170, 101)) rfl) (v := 50653) rfl ?_
  refine e_73 (f_251 (pc := 101) (e := (101, 73, 117, 0, 0, 0, 0, 104)) rfl) (fun c1 => ?_) (fun c1 => ?_)
  · replace F := F.1 c1
    refine e_4 (f_251 (pc := 117) (e := (117, 4, 50652, 0, 0, 364, 1306, 120)) rfl) (v := 50652) rfl ?_
    refine e_20 (f_251 (pc := 120) (e := (120, 20, 1, 0, 0, 0, 0, 121)) rfl) ?_
    refine e_0 (f_251 (pc := 121) (e := (121, 0, 0, 0, 0, 0, 0, 122)) rfl) (v := 0) rfl ?_
    refine e_20 (f_251 (pc := 122) (e := (122, 20, 2, 0, 0, 0, 0, 123)) rfl) ?_
    refine e_0 (f_251 (pc := 123) (e := (123, 0, 2, 0, 0, 0, 0, 124)) rfl) (v := 2) rfl ?_
    refine e_20 (f_251 (pc := 124) (e := (124, 20, 3, 0, 0, 0, 0, 125)) rfl) ?_
    refine e_lo [0, 1, 2, 3] rfl ?_
    exact F
  · replace F := F.2 c1
    refine e_12 (f_251 (pc := 104) (e := (104, 12, 0, 0, 0, 0, 0, 105)) rfl) rfl ?_
    refine e_90r zA (f_251 (pc := 105) (e := (105, 90, 11, 36, 3, 69, 1171, 108)) rfl) rfl (hT 102 rfl) rfl rfl (hR 102 36 rfl) ?_
    refine e_10 (f_251 (pc := 108) (e := (108, 10, 1, 0, 0, 0, 0, 109)) rfl) rfl ?_
    refine e_0 (f_251 (pc := 109) (e := (109, 0, 0, 0, 0, 0, 0, 110)) rfl) (v := 0) rfl ?_
    obtain ⟨b2, b3, F⟩ := F
    refine e_111 (f_251 (pc := 110) (e := (110, 111, 0, 0, 0, 0, 0, 111)) rfl) rfl (hT 115 rfl) b2 b3 ?_
    replace F := F _ rfl
    refine e_26 (f_251 (pc := 111) (e := (111, 26, 1, 1, 0, 0, 0, 114)) rfl) (w := 1) rfl rfl ?_
    refine e_80 (f_251 (pc := 114) (e := (114, 80, 98, 0, 0, 0, 0, 117)) rfl) ?_
    refine e_lo [0, 1] rfl ?_
    exact F
set_option maxRecDepth 20000 in
theorem B_251_125 (hT : yLT T) (hR : yLR R) {x1 x2 x3 : Int} (F : (x3 < 0 → ∀ I2, I2 = yU I 102 41 0 → (yW l zSS D cy zFk z d 228 0 0 (fun r h' => ∃ I3, r = none ∧ h' = (N, T, R, I3) ∧ (yW l zSS D cy zFk z (d + 1) 251 bc bs K 0 0 187 [(0, yr (some 102)), (1, yi x1), (3, yi 0)] [] (N, T, R, I3))) 0 0 0 [(0, yr (some 102)), (1, yi x2), (2, yi 0), (3, yi 0)] [] (N, T, R, I2))) ∧ (¬ (x3 < 0) → ((I 102 40) ≤ x3 → yW l zSS D cy zFk z (d + 1) 251 bc bs K 0 0 125 [(0, yr (some 102)), (1, yi x1), (2, yi (yadd (ymul 37 x2) 36)), (3, yi (yadd x3 (-1)))] [] (N, T, R, I)) ∧ (¬ ((I 102 40) ≤ x3) → 0 ≤ x3 ∧ x3 < 3 ∧ (0 ≤ (yadd 470 (I 117 x3.toNat)) ∧ (yadd 470 (I 117 x3.toNat)) < 1188 ∧ (yW l zSS D cy zFk z d 226 0 0 (fun r h' => ∃ r10 I9, r = some (yi r10) ∧ h' = (N, T, R, I9) ∧ (yW l zSS D cy zFk z (d + 1) 251 bc bs K 0 0 125 [(0, yr (some 102)), (1, yi x1), (2, yi (yadd (ymul 37 x2) r10)), (3, yi (yadd x3 (-1)))] [] (N, T, R, I9))) 0 0 0 [(0, yr (some 102)), (1, yi (I 104 (yadd 470 (I 117 x3.toNat)).toNat))] [] (N, T, R, I)))))) :
    yW l zSS D cy zFk z (d + 1) 251 bc bs K 0 0 125 [(0, yr (some 102)), (1, yi x1), (2, yi x2), (3, yi x3)] [] (N, T, R, I) := by
  refine e_10 (f_251 (pc := 125) (e := (125, 10, 3, 0, 0, 0, 0, 126)) rfl) rfl ?_
  refine e_62 (f_251 (pc := 126) (e := (126, 62, 173, 0, 0, 0, 0, 129)) rfl) (fun c1 => ?_) (fun c1 => ?_)
  · replace F := F.1 c1
    refine e_12 (f_251 (pc := 173) (e := (173, 12, 0, 0, 0, 0, 0, 174)) rfl) rfl ?_
    refine e_0 (f_251 (pc := 174) (e := (174, 0, 0, 0, 0, 0, 0, 175)) rfl) (v := 0) rfl ?_
    refine e_91 zA (f_251 (pc := 175) (e := (175, 91, 11, 41, 0, 345, 1295, 178)) rfl) rfl (hT 102 rfl) rfl rfl trivial ?_
    replace F := F _ rfl
    refine e_12 (f_251 (pc := 178) (e := (178, 12, 0, 0, 0, 0, 0, 179)) rfl) rfl ?_
    refine e_10 (f_251 (pc := 179) (e := (179, 10, 2, 0, 0, 0, 0, 180)) rfl) rfl ?_
    refine e_0 (f_251 (pc := 180) (e := (180, 0, 0, 0, 0, 0, 0, 181)) rfl) (v := 0) rfl ?_
    refine e_0 (f_251 (pc := 181) (e := (181, 0, 0, 0, 0, 0, 0, 182)) rfl) (v := 0) rfl ?_
    refine e_130 (f_251 (pc := 182) (e := (182, 130, 228, 0, 11, 360, 1304, 185)) rfl) zA (as := [yr (some 102), yi x2, yi 0, yi 0]) (rest := []) rfl rfl rfl rfl (Nat.le_of_ble_eq_true rfl) (Nat.le_of_ble_eq_true rfl) ⟨_, _, _, rfl, (hT 102 rfl)⟩ (mc := 0) (ms := 0) (Nat.zero_le _) (Nat.zero_le _) ?_
    refine e_K ?_ F
    rintro r h' ⟨I3, rfl, rfl, F⟩
    refine e_0 (f_251 (pc := 185) (e := (185, 0, 0, 0, 0, 0, 0, 186)) rfl) (v := 0) rfl ?_
    refine e_20 (f_251 (pc := 186) (e := (186, 20, 3, 0, 0, 0, 0, 187)) rfl) ?_
    refine e_lo [0, 1, 3] rfl ?_
    exact F
  · replace F := F.2 c1
    refine e_1 (f_251 (pc := 129) (e := (129, 1, 37, 0, 0, 0, 0, 131)) rfl) (v := 37) rfl ?_
    refine e_10 (f_251 (pc := 131) (e := (131, 10, 2, 0, 0, 0, 0, 132)) rfl) rfl ?_
    refine e_32 (f_251 (pc := 132) (e := (132, 32, 0, 0, 0, 0, 0, 133)) rfl) ?_
    refine e_10 (f_251 (pc := 133) (e := (133, 10, 3, 0, 0, 0, 0, 134)) rfl) rfl ?_
    refine e_12 (f_251 (pc := 134) (e := (134, 12, 0, 0, 0, 0, 0, 135)) rfl) rfl ?_
    refine e_90 zA (f_251 (pc := 135) (e := (135, 90, 11, 40, 0, 348, 1300, 138)) rfl) rfl (hT 102 rfl) rfl rfl ?_
    refine e_73 (f_251 (pc := 138) (e := (138, 73, 163, 0, 0, 0, 0, 141)) rfl) (fun c4 => ?_) (fun c4 => ?_)
    · replace F := F.1 c4
      refine e_1 (f_251 (pc := 163) (e := (163, 1, 36, 0, 0, 0, 0, 165)) rfl) (v := 36) rfl ?_
      refine e_30 (f_251 (pc := 165) (e := (165, 30, 0, 0, 0, 0, 0, 166)) rfl) ?_
      refine e_20 (f_251 (pc := 166) (e := (166, 20, 2, 0, 0, 0, 0, 167)) rfl) ?_
      refine e_26 (f_251 (pc := 167) (e := (167, 26, 3, 4294967295, 0, 0, 0, 170)) rfl) (w := (-1)) rfl rfl ?_
      refine e_80 (f_251 (pc := 170) (e := (170, 80, 125, 0, 0, 0, 0, 173)) rfl) ?_
      refine e_lo [0, 1, 2, 3] rfl ?_
      exact F
    · replace F := F.2 c4
      refine e_12 (f_251 (pc := 141) (e := (141, 12, 0, 0, 0, 0, 0, 142)) rfl) rfl ?_
      refine e_12 (f_251 (pc := 142) (e := (142, 12, 0, 0, 0, 0, 0, 143)) rfl) rfl ?_
      refine e_90r zA (f_251 (pc := 143) (e := (143, 90, 11, 6, 3, 33, 1159, 146)) rfl) rfl (hT 102 rfl) rfl rfl (hR 102 6 rfl) ?_
      refine e_2 (f_251 (pc := 146) (e := (146, 2, 470, 0, 0, 0, 0, 149)) rfl) (v := 470) rfl ?_
      refine e_12 (f_251 (pc := 149) (e := (149, 12, 0, 0, 0, 0, 0, 150)) rfl) rfl ?_
      refine e_90r zA (f_251 (pc := 150) (e := (150, 90, 11, 38, 3, 75, 1173, 153)) rfl) rfl (hT 102 rfl) rfl rfl (hR 102 38 rfl) ?_
      refine e_10 (f_251 (pc := 153) (e := (153, 10, 3, 0, 0, 0, 0, 154)) rfl) rfl ?_
      obtain ⟨b5, b6, F⟩ := F
      refine e_110 (f_251 (pc := 154) (e := (154, 110, 0, 0, 0, 0, 0, 155)) rfl) rfl (hT 117 rfl) b5 b6 ?_
      refine e_30 (f_251 (pc := 155) (e := (155, 30, 0, 0, 0, 0, 0, 156)) rfl) ?_
      obtain ⟨b7, b8, F⟩ := F
      refine e_110 (f_251 (pc := 156) (e := (156, 110, 0, 0, 0, 0, 0, 157)) rfl) rfl (hT 104 rfl) b7 b8 ?_
      refine e_130 (f_251 (pc := 157) (e := (157, 130, 226, 0, 11, 357, 1303, 160)) rfl) zA (as := [yr (some 102), yi _]) (rest := [yi _]) rfl rfl rfl rfl (Nat.le_of_ble_eq_true rfl) (Nat.le_of_ble_eq_true rfl) ⟨_, _, _, rfl, (hT 102 rfl)⟩ (mc := 0) (ms := 0) (Nat.zero_le _) (Nat.zero_le _) ?_
      refine e_K ?_ F
      rintro r h' ⟨r10, I9, rfl, rfl, F⟩
      refine e_80 (f_251 (pc := 160) (e := (160, 80, 165, 0, 0, 0, 0, 163)) rfl) ?_
      refine e_30 (f_251 (pc := 165) (e := (165, 30, 0, 0, 0, 0, 0, 166)) rfl) ?_
      refine e_20 (f_251 (pc := 166) (e := (166, 20, 2, 0, 0, 0, 0, 167)) rfl) ?_
      refine e_26 (f_251 (pc := 167) (e := (167, 26, 3, 4294967295, 0, 0, 0, 170)) rfl) (w := (-1)) rfl rfl ?_
      refine e_80 (f_251 (pc := 170) (e := (170, 80, 125, 0, 0, 0, 0, 173)) rfl) ?_
      refine e_lo [0, 1, 2, 3] rfl ?_
      exact F
set_option maxRecDepth 20000 in
theorem B_251_187 (hT : yLT T) (hR : yLR R) {x1 x3 : Int} (F : ((I 102 41) ≤ x3 → K (some (yi (-1))) (N, T, R, I)) ∧ (¬ ((I 102 41) ≤ x3) → 0 ≤ x3 ∧ x3 < 50653 ∧ (((I 116 x3.toNat) ≠ x1 → yW l zSS D cy zFk z d 238 0 0 (fun r h' => ∃ I5, r = none ∧ h' = (N, T, R, I5) ∧ (yW l zSS D cy zFk z (d + 1) 251 bc bs K 0 0 187 [(0, yr (some 102)), (1, yi x1), (3, yi (yadd x3 1))] [] (N, T, R, I5))) 0 0 0 [(0, yr (some 102)), (1, yi x3)] [] (N, T, R, I)) ∧ (¬ ((I 116 x3.toNat) ≠ x1) → yW l zSS D cy zFk z d 204 0 0 (fun r h' => ∃ r7 I6, r = some (yi r7) ∧ h' = (N, T, R, I6) ∧ (K (some (yi r7)) (N, T, R, I6))) 0 0 0 [(0, yr (some 102)), (1, yi x3)] [] (N, T, R, I))))) :
    yW l zSS D cy zFk z (d + 1) 251 bc bs K 0 0 187 [(0, yr (some 102)), (1, yi x1), (3, yi x3)] [] (N, T, R, I) := by
  refine e_10 (f_251 (pc := 187) (e := (187, 10, 3, 0, 0, 0, 0, 188)) rfl) rfl ?_
  refine e_12 (f_251 (pc := 188) (e := (188, 12, 0, 0, 0, 0, 0, 189)) rfl) rfl ?_
  refine e_90 zA (f_251 (pc := 189) (e := (189, 90, 11, 41, 0, 345, 1295, 192)) rfl) rfl (hT 102 rfl) rfl rfl ?_
  refine e_73 (f_251 (pc := 192) (e := (192, 73, 222, 0, 0, 0, 0, 195)) rfl) (fun c1 => ?_) (fun c1 => ?_)
  · replace F := F.1 c1
    refine e_0 (f_251 (pc := 222) (e := (222, 0, 4294967295, 0, 0, 0, 0, 223)) rfl) (v := (-1)) rfl ?_
    exact e_120 (f_251 (pc := 223) (e := (223, 120, 0, 0, 0, 0, 0, 0)) rfl) F
  · replace F := F.2 c1
    refine e_12 (f_251 (pc := 195) (e := (195, 12, 0, 0, 0, 0, 0, 196)) rfl) rfl ?_
    refine e_90r zA (f_251 (pc := 196) (e := (196, 90, 11, 37, 3, 72, 1172, 199)) rfl) rfl (hT 102 rfl) rfl rfl (hR 102 37 rfl) ?_
    refine e_10 (f_251 (pc := 199) (e := (199, 10, 3, 0, 0, 0, 0, 200)) rfl) rfl ?_
    obtain ⟨b2, b3, F⟩ := F
    refine e_110 (f_251 (pc := 200) (e := (200, 110, 0, 0, 0, 0, 0, 201)) rfl) rfl (hT 116 rfl) b2 b3 ?_
    refine e_10 (f_251 (pc := 201) (e := (201, 10, 1, 0, 0, 0, 0, 202)) rfl) rfl ?_
    refine e_71 (f_251 (pc := 202) (e := (202, 71, 211, 0, 0, 0, 0, 205)) rfl) (fun c4 => ?_) (fun c4 => ?_)
    · replace F := F.1 c4
      refine e_12 (f_251 (pc := 211) (e := (211, 12, 0, 0, 0, 0, 0, 212)) rfl) rfl ?_
      refine e_10 (f_251 (pc := 212) (e := (212, 10, 3, 0, 0, 0, 0, 213)) rfl) rfl ?_
      refine e_130 (f_251 (pc := 213) (e := (213, 130, 238, 0, 11, 368, 1308, 216)) rfl) zA (as := [yr (some 102), yi x3]) (rest := []) rfl rfl rfl rfl (Nat.le_of_ble_eq_true rfl) (Nat.le_of_ble_eq_true rfl) ⟨_, _, _, rfl, (hT 102 rfl)⟩ (mc := 0) (ms := 0) (Nat.zero_le _) (Nat.zero_le _) ?_
      refine e_K ?_ F
      rintro r h' ⟨I5, rfl, rfl, F⟩
      refine e_26 (f_251 (pc := 216) (e := (216, 26, 3, 1, 0, 0, 0, 219)) rfl) (w := 1) rfl rfl ?_
      refine e_80 (f_251 (pc := 219) (e := (219, 80, 187, 0, 0, 0, 0, 222)) rfl) ?_
      refine e_lo [0, 1, 3] rfl ?_
      exact F
    · replace F := F.2 c4
      refine e_12 (f_251 (pc := 205) (e := (205, 12, 0, 0, 0, 0, 0, 206)) rfl) rfl ?_
      refine e_10 (f_251 (pc := 206) (e := (206, 10, 3, 0, 0, 0, 0, 207)) rfl) rfl ?_
      refine e_130 (f_251 (pc := 207) (e := (207, 130, 204, 0, 11, 365, 1307, 210)) rfl) zA (as := [yr (some 102), yi x3]) (rest := []) rfl rfl rfl rfl (Nat.le_of_ble_eq_true rfl) (Nat.le_of_ble_eq_true rfl) ⟨_, _, _, rfl, (hT 102 rfl)⟩ (mc := 0) (ms := 0) (Nat.zero_le _) (Nat.zero_le _) ?_
      refine e_K ?_ F
      rintro r h' ⟨r7, I6, rfl, rfl, F⟩
      exact e_120 (f_251 (pc := 210) (e := (210, 120, 0, 0, 0, 0, 0, 211)) rfl) F

/-! voted(I)I -/
set_option maxRecDepth 20000 in
theorem B_252_0 (hT : yLT T) (hR : yLR R) {x1 : Int} (F : ∀ I1, I1 = yU I 102 0 0 → (yW l zSS D cy zFk z d 188 0 0 (fun r h' => ∃ r3 I2, r = some (yi r3) ∧ h' = (N, T, R, I2) ∧ ((r3 ≠ 0 → yW l zSS D cy zFk z d 249 0 0 (fun r h' => ∃ I5, r = none ∧ h' = (N, T, R, I5) ∧ (yW l zSS D cy zFk z (d + 1) 252 bc bs K 0 0 23 [(0, yr (some 102)), (1, yi x1), (2, yi 0), (3, yi 0)] [] (N, T, R, I5))) 0 0 0 [(0, yr (some 102))] [] (N, T, R, I2)) ∧ (¬ (r3 ≠ 0) → K (some (yi (-1))) (N, T, R, I2)))) 0 0 0 [(0, yr (some 102)), (1, yi x1)] [] (N, T, R, I1))) :
    yW l zSS D cy zFk z (d + 1) 252 bc bs K 0 0 0 [(0, yr (some 102)), (1, yi x1)] [] (N, T, R, I) := by
  refine e_12 (f_252 (pc := 0) (e := (0, 12, 0, 0, 0, 0, 0, 1)) rfl) rfl ?_
  refine e_0 (f_252 (pc := 1) (e := (1, 0, 0, 0, 0, 0, 0, 2)) rfl) (v := 0) rfl ?_
  refine e_91 zA (f_252 (pc := 2) (e := (2, 91, 11, 0, 0, 1, 1216, 5)) rfl) rfl (hT 102 rfl) rfl rfl trivial ?_
  replace F := F _ rfl
  refine e_12 (f_252 (pc := 5) (e := (5, 12, 0, 0, 0, 0, 0, 6)) rfl) rfl ?_
  refine e_10 (f_252 (pc := 6) (e := (6, 10, 1, 0, 0, 0, 0, 7)) rfl) rfl ?_
  refine e_130 (f_252 (pc := 7) (e := (7, 130, 188, 0, 11, 269, 1249, 10)) rfl) zA (as := [yr (some 102), yi x1]) (rest := []) rfl rfl rfl rfl (Nat.le_of_ble_eq_true rfl) (Nat.le_of_ble_eq_true rfl) ⟨_, _, _, rfl, (hT 102 rfl)⟩ (mc := 0) (ms := 0) (Nat.zero_le _) (Nat.zero_le _) ?_
  refine e_K ?_ F
  rintro r h' ⟨r3, I2, rfl, rfl, F⟩
  refine e_61 (f_252 (pc := 10) (e := (10, 61, 15, 0, 0, 0, 0, 13)) rfl) (fun c4 => ?_) (fun c4 => ?_)
  · replace F := F.1 c4
    refine e_12 (f_252 (pc := 15) (e := (15, 12, 0, 0, 0, 0, 0, 16)) rfl) rfl ?_
    refine e_130 (f_252 (pc := 16) (e := (16, 130, 249, 0, 11, 374, 1234, 19)) rfl) zA (as := [yr (some 102)]) (rest := []) rfl rfl rfl rfl (Nat.le_of_ble_eq_true rfl) (Nat.le_of_ble_eq_true rfl) ⟨_, _, _, rfl, (hT 102 rfl)⟩ (mc := 0) (ms := 0) (Nat.zero_le _) (Nat.zero_le _) ?_
    refine e_K ?_ F
    rintro r h' ⟨I5, rfl, rfl, F⟩
    refine e_0 (f_252 (pc := 19) (e := (19, 0, 0, 0, 0, 0, 0, 20)) rfl) (v := 0) rfl ?_
    refine e_20 (f_252 (pc := 20) (e := (20, 20, 2, 0, 0, 0, 0, 21)) rfl) ?_
    refine e_0 (f_252 (pc := 21) (e := (21, 0, 0, 0, 0, 0, 0, 22)) rfl) (v := 0) rfl ?_
    refine e_20 (f_252 (pc := 22) (e := (22, 20, 3, 0, 0, 0, 0, 23)) rfl) ?_
    refine e_lo [0, 1, 2, 3] rfl ?_
    exact F
  · replace F := F.2 c4
    refine e_0 (f_252 (pc := 13) (e := (13, 0, 4294967295, 0, 0, 0, 0, 14)) rfl) (v := (-1)) rfl ?_
    exact e_120 (f_252 (pc := 14) (e := (14, 120, 0, 0, 0, 0, 0, 15)) rfl) F
set_option maxRecDepth 20000 in
theorem B_252_23 (hT : yLT T) (hR : yLR R) {x1 x2 x3 : Int} (F : ((I 104 2) ≤ x3 → (x2 ≤ 0 → K (some (yi 0)) (N, T, R, I)) ∧ (¬ (x2 ≤ 0) → K (some (yi 1)) (N, T, R, I))) ∧ (¬ ((I 104 2) ≤ x3) → 0 ≤ (yadd 470 x3) ∧ (yadd 470 x3) < 1188 ∧ ((0 ≤ (I 104 (yadd 470 x3).toNat) → (x3 ≠ x1 → yW l zSS D cy zFk z d 257 0 0 (fun r h' => ∃ r8 I7, r = some (yi r8) ∧ h' = (N, T, R, I7) ∧ (∀ I9, I9 = yU I7 102 28 (yshl 1 x1) → (0 ≤ (yadd 470 x1) ∧ (yadd 470 x1) < 1188 ∧ (∀ I12, I12 = yU I9 104 ((yadd 470 x1).toNat) (ynar 1 (-1)) → (yW l zSS D cy zFk z d 257 0 0 (fun r h' => ∃ r14 I13, r = some (yi r14) ∧ h' = (N, T, R, I13) ∧ ((r8 ≤ r14 → yW l zSS D cy zFk z (d + 1) 252 bc bs K 0 0 23 [(0, yr (some 102)), (1, yi x1), (2, yi (yadd x2 (-1))), (3, yi (yadd x3 1))] [] (N, T, R, I13)) ∧ (¬ (r8 ≤ r14) → yW l zSS D cy zFk z (d + 1) 252 bc bs K 0 0 23 [(0, yr (some 102)), (1, yi x1), (2, yi (yadd x2 1)), (3, yi (yadd x3 1))] [] (N, T, R, I13)))) 0 0 0 [(0, yr (some 102)), (1, yi x3)] [] (N, T, R, I12)))))) 0 0 0 [(0, yr (some 102)), (1, yi x3)] [] (N, T, R, I)) ∧ (¬ (x3 ≠ x1) → yW l zSS D cy zFk z (d + 1) 252 bc bs K 0 0 23 [(0, yr (some 102)), (1, yi x1), (2, yi (yadd x2 (-1))), (3, yi (yadd x3 1))] [] (N, T, R, I))) ∧ (¬ (0 ≤ (I 104 (yadd 470 x3).toNat)) → yW l zSS D cy zFk z (d + 1) 252 bc bs K 0 0 23 [(0, yr (some 102)), (1, yi x1), (2, yi x2), (3, yi (yadd x3 1))] [] (N, T, R, I))))) :
    yW l zSS D cy zFk z (d + 1) 252 bc bs K 0 0 23 [(0, yr (some 102)), (1, yi x1), (2, yi x2), (3, yi x3)] [] (N, T, R, I) := by
  refine e_10 (f_252 (pc := 23) (e := (23, 10, 3, 0, 0, 0, 0, 24)) rfl) rfl ?_
  refine e_12 (f_252 (pc := 24) (e := (24, 12, 0, 0, 0, 0, 0, 25)) rfl) rfl ?_
  refine e_90r zA (f_252 (pc := 25) (e := (25, 90, 11, 6, 3, 33, 1159, 28)) rfl) rfl (hT 102 rfl) rfl rfl (hR 102 6 rfl) ?_
  refine e_0 (f_252 (pc := 28) (e := (28, 0, 2, 0, 0, 0, 0, 29)) rfl) (v := 2) rfl ?_
  refine e_110 (f_252 (pc := 29) (e := (29, 110, 0, 0, 0, 0, 0, 30)) rfl) rfl (hT 104 rfl) (by decide) (by decide) ?_
  refine e_73 (f_252 (pc := 30) (e := (30, 73, 109, 0, 0, 0, 0, 33)) rfl) (fun c1 => ?_) (fun c1 => ?_)
  · replace F := F.1 c1
    refine e_10 (f_252 (pc := 109) (e := (109, 10, 2, 0, 0, 0, 0, 110)) rfl) rfl ?_
    refine e_65 (f_252 (pc := 110) (e := (110, 65, 117, 0, 0, 0, 0, 113)) rfl) (fun c2 => ?_) (fun c2 => ?_)
    · replace F := F.1 c2
      refine e_0 (f_252 (pc := 117) (e := (117, 0, 0, 0, 0, 0, 0, 118)) rfl) (v := 0) rfl ?_
      exact e_120 (f_252 (pc := 118) (e := (118, 120, 0, 0, 0, 0, 0, 0)) rfl) F
    · replace F := F.2 c2
      refine e_0 (f_252 (pc := 113) (e := (113, 0, 1, 0, 0, 0, 0, 114)) rfl) (v := 1) rfl ?_
      refine e_80 (f_252 (pc := 114) (e := (114, 80, 118, 0, 0, 0, 0, 117)) rfl) ?_
      exact e_120 (f_252 (pc := 118) (e := (118, 120, 0, 0, 0, 0, 0, 0)) rfl) F
  · replace F := F.2 c1
    refine e_12 (f_252 (pc := 33) (e := (33, 12, 0, 0, 0, 0, 0, 34)) rfl) rfl ?_
    refine e_90r zA (f_252 (pc := 34) (e := (34, 90, 11, 6, 3, 33, 1159, 37)) rfl) rfl (hT 102 rfl) rfl rfl (hR 102 6 rfl) ?_
    refine e_2 (f_252 (pc := 37) (e := (37, 2, 470, 0, 0, 0, 0, 40)) rfl) (v := 470) rfl ?_
    refine e_10 (f_252 (pc := 40) (e := (40, 10, 3, 0, 0, 0, 0, 41)) rfl) rfl ?_
    refine e_30 (f_252 (pc := 41) (e := (41, 30, 0, 0, 0, 0, 0, 42)) rfl) ?_
    obtain ⟨b3, b4, F⟩ := F
    refine e_110 (f_252 (pc := 42) (e := (42, 110, 0, 0, 0, 0, 0, 43)) rfl) rfl (hT 104 rfl) b3 b4 ?_
    refine e_63 (f_252 (pc := 43) (e := (43, 63, 49, 0, 0, 0, 0, 46)) rfl) (fun c5 => ?_) (fun c5 => ?_)
    · replace F := F.1 c5
      refine e_10 (f_252 (pc := 49) (e := (49, 10, 3, 0, 0, 0, 0, 50)) rfl) rfl ?_
      refine e_10 (f_252 (pc := 50) (e := (50, 10, 1, 0, 0, 0, 0, 51)) rfl) rfl ?_
      refine e_71 (f_252 (pc := 51) (e := (51, 71, 60, 0, 0, 0, 0, 54)) rfl) (fun c6 => ?_) (fun c6 => ?_)
      · replace F := F.1 c6
        refine e_12 (f_252 (pc := 60) (e := (60, 12, 0, 0, 0, 0, 0, 61)) rfl) rfl ?_
        refine e_10 (f_252 (pc := 61) (e := (61, 10, 3, 0, 0, 0, 0, 62)) rfl) rfl ?_
        refine e_130 (f_252 (pc := 62) (e := (62, 130, 257, 0, 11, 392, 1279, 65)) rfl) zA (as := [yr (some 102), yi x3]) (rest := []) rfl rfl rfl rfl (Nat.le_of_ble_eq_true rfl) (Nat.le_of_ble_eq_true rfl) ⟨_, _, _, rfl, (hT 102 rfl)⟩ (mc := 0) (ms := 0) (Nat.zero_le _) (Nat.zero_le _) ?_
        refine e_K ?_ F
        rintro r h' ⟨r8, I7, rfl, rfl, F⟩
        refine e_21 (f_252 (pc := 65) (e := (65, 21, 4, 0, 0, 0, 0, 67)) rfl) ?_
        refine e_12 (f_252 (pc := 67) (e := (67, 12, 0, 0, 0, 0, 0, 68)) rfl) rfl ?_
        refine e_0 (f_252 (pc := 68) (e := (68, 0, 1, 0, 0, 0, 0, 69)) rfl) (v := 1) rfl ?_
        refine e_10 (f_252 (pc := 69) (e := (69, 10, 1, 0, 0, 0, 0, 70)) rfl) rfl ?_
        refine e_38 (f_252 (pc := 70) (e := (70, 38, 0, 0, 0, 0, 0, 71)) rfl) ?_
        refine e_91 zA (f_252 (pc := 71) (e := (71, 91, 11, 28, 0, 301, 1232, 74)) rfl) rfl (hT 102 rfl) rfl rfl trivial ?_
        replace F := F _ rfl
        refine e_12 (f_252 (pc := 74) (e := (74, 12, 0, 0, 0, 0, 0, 75)) rfl) rfl ?_
        refine e_90r zA (f_252 (pc := 75) (e := (75, 90, 11, 6, 3, 33, 1159, 78)) rfl) rfl (hT 102 rfl) rfl rfl (hR 102 6 rfl) ?_
        refine e_2 (f_252 (pc := 78) (e := (78, 2, 470, 0, 0, 0, 0, 81)) rfl) (v := 470) rfl ?_
        refine e_10 (f_252 (pc := 81) (e := (81, 10, 1, 0, 0, 0, 0, 82)) rfl) rfl ?_
        refine e_30 (f_252 (pc := 82) (e := (82, 30, 0, 0, 0, 0, 0, 83)) rfl) ?_
        refine e_0 (f_252 (pc := 83) (e := (83, 0, 4294967295, 0, 0, 0, 0, 84)) rfl) (v := (-1)) rfl ?_
        obtain ⟨b10, b11, F⟩ := F
        refine e_111 (f_252 (pc := 84) (e := (84, 111, 0, 0, 0, 0, 0, 85)) rfl) rfl (hT 104 rfl) b10 b11 ?_
        replace F := F _ rfl
        refine e_10 (f_252 (pc := 85) (e := (85, 10, 2, 0, 0, 0, 0, 86)) rfl) rfl ?_
        refine e_12 (f_252 (pc := 86) (e := (86, 12, 0, 0, 0, 0, 0, 87)) rfl) rfl ?_
        refine e_10 (f_252 (pc := 87) (e := (87, 10, 3, 0, 0, 0, 0, 88)) rfl) rfl ?_
        refine e_130 (f_252 (pc := 88) (e := (88, 130, 257, 0, 11, 392, 1279, 91)) rfl) zA (as := [yr (some 102), yi x3]) (rest := [yi x2]) rfl rfl rfl rfl (Nat.le_of_ble_eq_true rfl) (Nat.le_of_ble_eq_true rfl) ⟨_, _, _, rfl, (hT 102 rfl)⟩ (mc := 0) (ms := 0) (Nat.zero_le _) (Nat.zero_le _) ?_
        refine e_K ?_ F
        rintro r h' ⟨r14, I13, rfl, rfl, F⟩
        refine e_11 (f_252 (pc := 91) (e := (91, 11, 4, 0, 0, 0, 0, 93)) rfl) rfl ?_
        refine e_73 (f_252 (pc := 93) (e := (93, 73, 100, 0, 0, 0, 0, 96)) rfl) (fun c15 => ?_) (fun c15 => ?_)
        · replace F := F.1 c15
          refine e_0 (f_252 (pc := 100) (e := (100, 0, 4294967295, 0, 0, 0, 0, 101)) rfl) (v := (-1)) rfl ?_
          refine e_30 (f_252 (pc := 101) (e := (101, 30, 0, 0, 0, 0, 0, 102)) rfl) ?_
          refine e_20 (f_252 (pc := 102) (e := (102, 20, 2, 0, 0, 0, 0, 103)) rfl) ?_
          refine e_26 (f_252 (pc := 103) (e := (103, 26, 3, 1, 0, 0, 0, 106)) rfl) (w := 1) rfl rfl ?_
          refine e_80 (f_252 (pc := 106) (e := (106, 80, 23, 0, 0, 0, 0, 109)) rfl) ?_
          refine e_lo [0, 1, 2, 3] rfl ?_
          exact F
        · replace F := F.2 c15
          refine e_0 (f_252 (pc := 96) (e := (96, 0, 1, 0, 0, 0, 0, 97)) rfl) (v := 1) rfl ?_
          refine e_80 (f_252 (pc := 97) (e := (97, 80, 101, 0, 0, 0, 0, 100)) rfl) ?_
          refine e_30 (f_252 (pc := 101) (e := (101, 30, 0, 0, 0, 0, 0, 102)) rfl) ?_
          refine e_20 (f_252 (pc := 102) (e := (102, 20, 2, 0, 0, 0, 0, 103)) rfl) ?_
          refine e_26 (f_252 (pc := 103) (e := (103, 26, 3, 1, 0, 0, 0, 106)) rfl) (w := 1) rfl rfl ?_
          refine e_80 (f_252 (pc := 106) (e := (106, 80, 23, 0, 0, 0, 0, 109)) rfl) ?_
          refine e_lo [0, 1, 2, 3] rfl ?_
          exact F
      · replace F := F.2 c6
        refine e_26 (f_252 (pc := 54) (e := (54, 26, 2, 4294967295, 0, 0, 0, 57)) rfl) (w := (-1)) rfl rfl ?_
        refine e_80 (f_252 (pc := 57) (e := (57, 80, 103, 0, 0, 0, 0, 60)) rfl) ?_
        refine e_26 (f_252 (pc := 103) (e := (103, 26, 3, 1, 0, 0, 0, 106)) rfl) (w := 1) rfl rfl ?_
        refine e_80 (f_252 (pc := 106) (e := (106, 80, 23, 0, 0, 0, 0, 109)) rfl) ?_
        refine e_lo [0, 1, 2, 3] rfl ?_
        exact F
    · replace F := F.2 c5
      refine e_80 (f_252 (pc := 46) (e := (46, 80, 103, 0, 0, 0, 0, 49)) rfl) ?_
      refine e_26 (f_252 (pc := 103) (e := (103, 26, 3, 1, 0, 0, 0, 106)) rfl) (w := 1) rfl rfl ?_
      refine e_80 (f_252 (pc := 106) (e := (106, 80, 23, 0, 0, 0, 0, 109)) rfl) ?_
      refine e_lo [0, 1, 2, 3] rfl ?_
      exact F

/-! waits()I -/
set_option maxRecDepth 20000 in
theorem B_253_0 (hT : yLT T) (hR : yLR R) (F : yW l zSS D cy zFk z d 253 bc bs K 0 0 4 [(0, yr (some 102)), (1, yi 0), (2, yi 0)] [] (N, T, R, I)) :
    yW l zSS D cy zFk z d 253 bc bs K 0 0 0 [(0, yr (some 102))] [] (N, T, R, I) := by
  refine e_0 (f_253 (pc := 0) (e := (0, 0, 0, 0, 0, 0, 0, 1)) rfl) (v := 0) rfl ?_
  refine e_20 (f_253 (pc := 1) (e := (1, 20, 1, 0, 0, 0, 0, 2)) rfl) ?_
  refine e_0 (f_253 (pc := 2) (e := (2, 0, 0, 0, 0, 0, 0, 3)) rfl) (v := 0) rfl ?_
  refine e_20 (f_253 (pc := 3) (e := (3, 20, 2, 0, 0, 0, 0, 4)) rfl) ?_
  refine e_lo [0, 1, 2] rfl ?_
  exact F
set_option maxRecDepth 20000 in
theorem B_253_4 (hT : yLT T) (hR : yLR R) {x1 x2 : Int} (F : ((I 104 2) ≤ x2 → K (some (yi x1)) (N, T, R, I)) ∧ (¬ ((I 104 2) ≤ x2) → 0 ≤ (yadd 502 x2) ∧ (yadd 502 x2) < 1188 ∧ (yW l zSS D cy zFk z d 253 bc bs K 0 0 4 [(0, yr (some 102)), (1, yi (yadd x1 (I 104 (yadd 502 x2).toNat))), (2, yi (yadd x2 1))] [] (N, T, R, I)))) :
    yW l zSS D cy zFk z d 253 bc bs K 0 0 4 [(0, yr (some 102)), (1, yi x1), (2, yi x2)] [] (N, T, R, I) := by
  refine e_10 (f_253 (pc := 4) (e := (4, 10, 2, 0, 0, 0, 0, 5)) rfl) rfl ?_
  refine e_12 (f_253 (pc := 5) (e := (5, 12, 0, 0, 0, 0, 0, 6)) rfl) rfl ?_
  refine e_90r zA (f_253 (pc := 6) (e := (6, 90, 11, 6, 3, 33, 1159, 9)) rfl) rfl (hT 102 rfl) rfl rfl (hR 102 6 rfl) ?_
  refine e_0 (f_253 (pc := 9) (e := (9, 0, 2, 0, 0, 0, 0, 10)) rfl) (v := 2) rfl ?_
  refine e_110 (f_253 (pc := 10) (e := (10, 110, 0, 0, 0, 0, 0, 11)) rfl) rfl (hT 104 rfl) (by decide) (by decide) ?_
  refine e_73 (f_253 (pc := 11) (e := (11, 73, 33, 0, 0, 0, 0, 14)) rfl) (fun c1 => ?_) (fun c1 => ?_)
  · replace F := F.1 c1
    refine e_10 (f_253 (pc := 33) (e := (33, 10, 1, 0, 0, 0, 0, 34)) rfl) rfl ?_
    exact e_120 (f_253 (pc := 34) (e := (34, 120, 0, 0, 0, 0, 0, 0)) rfl) F
  · replace F := F.2 c1
    refine e_10 (f_253 (pc := 14) (e := (14, 10, 1, 0, 0, 0, 0, 15)) rfl) rfl ?_
    refine e_12 (f_253 (pc := 15) (e := (15, 12, 0, 0, 0, 0, 0, 16)) rfl) rfl ?_
    refine e_90r zA (f_253 (pc := 16) (e := (16, 90, 11, 6, 3, 33, 1159, 19)) rfl) rfl (hT 102 rfl) rfl rfl (hR 102 6 rfl) ?_
    refine e_2 (f_253 (pc := 19) (e := (19, 2, 502, 0, 0, 0, 0, 22)) rfl) (v := 502) rfl ?_
    refine e_10 (f_253 (pc := 22) (e := (22, 10, 2, 0, 0, 0, 0, 23)) rfl) rfl ?_
    refine e_30 (f_253 (pc := 23) (e := (23, 30, 0, 0, 0, 0, 0, 24)) rfl) ?_
    obtain ⟨b2, b3, F⟩ := F
    refine e_110 (f_253 (pc := 24) (e := (24, 110, 0, 0, 0, 0, 0, 25)) rfl) rfl (hT 104 rfl) b2 b3 ?_
    refine e_30 (f_253 (pc := 25) (e := (25, 30, 0, 0, 0, 0, 0, 26)) rfl) ?_
    refine e_20 (f_253 (pc := 26) (e := (26, 20, 1, 0, 0, 0, 0, 27)) rfl) ?_
    refine e_26 (f_253 (pc := 27) (e := (27, 26, 2, 1, 0, 0, 0, 30)) rfl) (w := 1) rfl rfl ?_
    refine e_80 (f_253 (pc := 30) (e := (30, 80, 4, 0, 0, 0, 0, 33)) rfl) ?_
    refine e_lo [0, 1, 2] rfl ?_
    exact F

/-! way(II)I -/
set_option maxRecDepth 20000 in
theorem B_254_0 (hT : yLT T) (hR : yLR R) {x1 x2 : Int} (F : ∀ I1, I1 = yU I 102 0 0 → (yW l zSS D cy zFk z d 190 0 0 (fun r h' => ∃ r3 I2, r = some (yi r3) ∧ h' = (N, T, R, I2) ∧ ((r3 = 0 → K (some (yi (-1))) (N, T, R, I2)) ∧ (¬ (r3 = 0) → yW l zSS D cy zFk z d 190 0 0 (fun r h' => ∃ r6 I5, r = some (yi r6) ∧ h' = (N, T, R, I5) ∧ ((r6 ≠ 0 → yW l zSS D cy zFk z d 237 0 0 (fun r h' => ∃ I8, r = none ∧ h' = (N, T, R, I8) ∧ (0 ≤ x1 ∧ x1 < 800 ∧ (K (some (yi (I8 109 x1.toNat))) (N, T, R, I8)))) 0 0 0 [(0, yr (some 102)), (1, yi x2), (2, yi 0)] [] (N, T, R, I5)) ∧ (¬ (r6 ≠ 0) → K (some (yi (-1))) (N, T, R, I5)))) 0 0 0 [(0, yr (some 102)), (1, yi x2)] [] (N, T, R, I2)))) 0 0 0 [(0, yr (some 102)), (1, yi x1)] [] (N, T, R, I1))) :
    yW l zSS D cy zFk z (d + 1) 254 bc bs K 0 0 0 [(0, yr (some 102)), (1, yi x1), (2, yi x2)] [] (N, T, R, I) := by
  refine e_12 (f_254 (pc := 0) (e := (0, 12, 0, 0, 0, 0, 0, 1)) rfl) rfl ?_
  refine e_0 (f_254 (pc := 1) (e := (1, 0, 0, 0, 0, 0, 0, 2)) rfl) (v := 0) rfl ?_
  refine e_91 zA (f_254 (pc := 2) (e := (2, 91, 11, 0, 0, 1, 1216, 5)) rfl) rfl (hT 102 rfl) rfl rfl trivial ?_
  replace F := F _ rfl
  refine e_12 (f_254 (pc := 5) (e := (5, 12, 0, 0, 0, 0, 0, 6)) rfl) rfl ?_
  refine e_10 (f_254 (pc := 6) (e := (6, 10, 1, 0, 0, 0, 0, 7)) rfl) rfl ?_
  refine e_130 (f_254 (pc := 7) (e := (7, 130, 190, 0, 11, 279, 1275, 10)) rfl) zA (as := [yr (some 102), yi x1]) (rest := []) rfl rfl rfl rfl (Nat.le_of_ble_eq_true rfl) (Nat.le_of_ble_eq_true rfl) ⟨_, _, _, rfl, (hT 102 rfl)⟩ (mc := 0) (ms := 0) (Nat.zero_le _) (Nat.zero_le _) ?_
  refine e_K ?_ F
  rintro r h' ⟨r3, I2, rfl, rfl, F⟩
  refine e_60 (f_254 (pc := 10) (e := (10, 60, 21, 0, 0, 0, 0, 13)) rfl) (fun c4 => ?_) (fun c4 => ?_)
  · replace F := F.1 c4
    refine e_0 (f_254 (pc := 21) (e := (21, 0, 4294967295, 0, 0, 0, 0, 22)) rfl) (v := (-1)) rfl ?_
    exact e_120 (f_254 (pc := 22) (e := (22, 120, 0, 0, 0, 0, 0, 23)) rfl) F
  · replace F := F.2 c4
    refine e_12 (f_254 (pc := 13) (e := (13, 12, 0, 0, 0, 0, 0, 14)) rfl) rfl ?_
    refine e_10 (f_254 (pc := 14) (e := (14, 10, 2, 0, 0, 0, 0, 15)) rfl) rfl ?_
    refine e_130 (f_254 (pc := 15) (e := (15, 130, 190, 0, 11, 279, 1275, 18)) rfl) zA (as := [yr (some 102), yi x2]) (rest := []) rfl rfl rfl rfl (Nat.le_of_ble_eq_true rfl) (Nat.le_of_ble_eq_true rfl) ⟨_, _, _, rfl, (hT 102 rfl)⟩ (mc := 0) (ms := 0) (Nat.zero_le _) (Nat.zero_le _) ?_
    refine e_K ?_ F
    rintro r h' ⟨r6, I5, rfl, rfl, F⟩
    refine e_61 (f_254 (pc := 18) (e := (18, 61, 23, 0, 0, 0, 0, 21)) rfl) (fun c7 => ?_) (fun c7 => ?_)
    · replace F := F.1 c7
      refine e_12 (f_254 (pc := 23) (e := (23, 12, 0, 0, 0, 0, 0, 24)) rfl) rfl ?_
      refine e_10 (f_254 (pc := 24) (e := (24, 10, 2, 0, 0, 0, 0, 25)) rfl) rfl ?_
      refine e_0 (f_254 (pc := 25) (e := (25, 0, 0, 0, 0, 0, 0, 26)) rfl) (v := 0) rfl ?_
      refine e_130 (f_254 (pc := 26) (e := (26, 130, 237, 0, 11, 285, 1309, 29)) rfl) zA (as := [yr (some 102), yi x2, yi 0]) (rest := []) rfl rfl rfl rfl (Nat.le_of_ble_eq_true rfl) (Nat.le_of_ble_eq_true rfl) ⟨_, _, _, rfl, (hT 102 rfl)⟩ (mc := 0) (ms := 0) (Nat.zero_le _) (Nat.zero_le _) ?_
      refine e_K ?_ F
      rintro r h' ⟨I8, rfl, rfl, F⟩
      refine e_12 (f_254 (pc := 29) (e := (29, 12, 0, 0, 0, 0, 0, 30)) rfl) rfl ?_
      refine e_90r zA (f_254 (pc := 30) (e := (30, 90, 11, 24, 3, 50, 1164, 33)) rfl) rfl (hT 102 rfl) rfl rfl (hR 102 24 rfl) ?_
      refine e_10 (f_254 (pc := 33) (e := (33, 10, 1, 0, 0, 0, 0, 34)) rfl) rfl ?_
      obtain ⟨b9, b10, F⟩ := F
      refine e_110 (f_254 (pc := 34) (e := (34, 110, 0, 0, 0, 0, 0, 35)) rfl) rfl (hT 109 rfl) b9 b10 ?_
      exact e_120 (f_254 (pc := 35) (e := (35, 120, 0, 0, 0, 0, 0, 0)) rfl) F
    · replace F := F.2 c7
      refine e_0 (f_254 (pc := 21) (e := (21, 0, 4294967295, 0, 0, 0, 0, 22)) rfl) (v := (-1)) rfl ?_
      exact e_120 (f_254 (pc := 22) (e := (22, 120, 0, 0, 0, 0, 0, 23)) rfl) F

/-! ways()V -/
set_option maxRecDepth 20000 in
theorem B_255_0 (hT : yLT T) (hR : yLR R) (F : yW l zSS D cy zFk z d 255 bc bs K 0 0 2 [(0, yr (some 102)), (1, yi 0)] [] (N, T, R, I)) :
    yW l zSS D cy zFk z d 255 bc bs K 0 0 0 [(0, yr (some 102))] [] (N, T, R, I) := by
  refine e_0 (f_255 (pc := 0) (e := (0, 0, 0, 0, 0, 0, 0, 1)) rfl) (v := 0) rfl ?_
  refine e_20 (f_255 (pc := 1) (e := (1, 20, 1, 0, 0, 0, 0, 2)) rfl) ?_
  refine e_lo [0, 1] rfl ?_
  exact F
set_option maxRecDepth 20000 in
theorem B_255_2 (hT : yLT T) (hR : yLR R) {x1 : Int} (F : ((I 104 2) ≤ x1 → K none (N, T, R, I)) ∧ (¬ ((I 104 2) ≤ x1) → 0 ≤ (yadd 334 x1) ∧ (yadd 334 x1) < 1188 ∧ (yW l zSS D cy zFk z d 237 0 0 (fun r h' => ∃ I4, r = none ∧ h' = (N, T, R, I4) ∧ (yW l zSS D cy zFk z (d + 1) 255 bc bs K 0 0 2 [(0, yr (some 102)), (1, yi (yadd x1 1))] [] (N, T, R, I4))) 0 0 0 [(0, yr (some 102)), (1, yi (I 104 (yadd 334 x1).toNat)), (2, yi (ymul 100 x1))] [] (N, T, R, I)))) :
    yW l zSS D cy zFk z (d + 1) 255 bc bs K 0 0 2 [(0, yr (some 102)), (1, yi x1)] [] (N, T, R, I) := by
  refine e_10 (f_255 (pc := 2) (e := (2, 10, 1, 0, 0, 0, 0, 3)) rfl) rfl ?_
  refine e_12 (f_255 (pc := 3) (e := (3, 12, 0, 0, 0, 0, 0, 4)) rfl) rfl ?_
  refine e_90r zA (f_255 (pc := 4) (e := (4, 90, 11, 6, 3, 33, 1159, 7)) rfl) rfl (hT 102 rfl) rfl rfl (hR 102 6 rfl) ?_
  refine e_0 (f_255 (pc := 7) (e := (7, 0, 2, 0, 0, 0, 0, 8)) rfl) (v := 2) rfl ?_
  refine e_110 (f_255 (pc := 8) (e := (8, 110, 0, 0, 0, 0, 0, 9)) rfl) rfl (hT 104 rfl) (by decide) (by decide) ?_
  refine e_73 (f_255 (pc := 9) (e := (9, 73, 36, 0, 0, 0, 0, 12)) rfl) (fun c1 => ?_) (fun c1 => ?_)
  · replace F := F.1 c1
    exact e_122 (f_255 (pc := 36) (e := (36, 122, 0, 0, 0, 0, 0, 0)) rfl) F
  · replace F := F.2 c1
    refine e_12 (f_255 (pc := 12) (e := (12, 12, 0, 0, 0, 0, 0, 13)) rfl) rfl ?_
    refine e_12 (f_255 (pc := 13) (e := (13, 12, 0, 0, 0, 0, 0, 14)) rfl) rfl ?_
    refine e_90r zA (f_255 (pc := 14) (e := (14, 90, 11, 6, 3, 33, 1159, 17)) rfl) rfl (hT 102 rfl) rfl rfl (hR 102 6 rfl) ?_
    refine e_2 (f_255 (pc := 17) (e := (17, 2, 334, 0, 0, 0, 0, 20)) rfl) (v := 334) rfl ?_
    refine e_10 (f_255 (pc := 20) (e := (20, 10, 1, 0, 0, 0, 0, 21)) rfl) rfl ?_
    refine e_30 (f_255 (pc := 21) (e := (21, 30, 0, 0, 0, 0, 0, 22)) rfl) ?_
    obtain ⟨b2, b3, F⟩ := F
    refine e_110 (f_255 (pc := 22) (e := (22, 110, 0, 0, 0, 0, 0, 23)) rfl) rfl (hT 104 rfl) b2 b3 ?_
    refine e_1 (f_255 (pc := 23) (e := (23, 1, 100, 0, 0, 0, 0, 25)) rfl) (v := 100) rfl ?_
    refine e_10 (f_255 (pc := 25) (e := (25, 10, 1, 0, 0, 0, 0, 26)) rfl) rfl ?_
    refine e_32 (f_255 (pc := 26) (e := (26, 32, 0, 0, 0, 0, 0, 27)) rfl) ?_
    refine e_130 (f_255 (pc := 27) (e := (27, 130, 237, 0, 11, 285, 1309, 30)) rfl) zA (as := [yr (some 102), yi _, yi _]) (rest := []) rfl rfl rfl rfl (Nat.le_of_ble_eq_true rfl) (Nat.le_of_ble_eq_true rfl) ⟨_, _, _, rfl, (hT 102 rfl)⟩ (mc := 0) (ms := 0) (Nat.zero_le _) (Nat.zero_le _) ?_
    refine e_K ?_ F
    rintro r h' ⟨I4, rfl, rfl, F⟩
    refine e_26 (f_255 (pc := 30) (e := (30, 26, 1, 1, 0, 0, 0, 33)) rfl) (w := 1) rfl rfl ?_
    refine e_80 (f_255 (pc := 33) (e := (33, 80, 2, 0, 0, 0, 0, 36)) rfl) ?_
    refine e_lo [0, 1] rfl ?_
    exact F

/-! when(I)I -/
set_option maxRecDepth 20000 in
theorem B_256_0 (hT : yLT T) (hR : yLR R) {x1 : Int} (F : ∀ I1, I1 = yU I 102 0 0 → (yW l zSS D cy zFk z d 188 0 0 (fun r h' => ∃ r3 I2, r = some (yi r3) ∧ h' = (N, T, R, I2) ∧ ((r3 = 0 → K (some (yi (-1))) (N, T, R, I2)) ∧ (¬ (r3 = 0) → 0 ≤ (yadd 510 x1) ∧ (yadd 510 x1) < 1188 ∧ (((I2 104 (yadd 510 x1).toNat) < 0 → yW l zSS D cy zFk z d 249 0 0 (fun r h' => ∃ I8, r = none ∧ h' = (N, T, R, I8) ∧ (yW l zSS D cy zFk z d 257 0 0 (fun r h' => ∃ r10 I9, r = some (yi r10) ∧ h' = (N, T, R, I9) ∧ (K (some (yi r10)) (N, T, R, I9))) 0 0 0 [(0, yr (some 102)), (1, yi x1)] [] (N, T, R, I8))) 0 0 0 [(0, yr (some 102))] [] (N, T, R, I2)) ∧ (¬ ((I2 104 (yadd 510 x1).toNat) < 0) → K (some (yi (-1))) (N, T, R, I2)))))) 0 0 0 [(0, yr (some 102)), (1, yi x1)] [] (N, T, R, I1))) :
    yW l zSS D cy zFk z (d + 1) 256 bc bs K 0 0 0 [(0, yr (some 102)), (1, yi x1)] [] (N, T, R, I) := by
  refine e_12 (f_256 (pc := 0) (e := (0, 12, 0, 0, 0, 0, 0, 1)) rfl) rfl ?_
  refine e_0 (f_256 (pc := 1) (e := (1, 0, 0, 0, 0, 0, 0, 2)) rfl) (v := 0) rfl ?_
  refine e_91 zA (f_256 (pc := 2) (e := (2, 91, 11, 0, 0, 1, 1216, 5)) rfl) rfl (hT 102 rfl) rfl rfl trivial ?_
  replace F := F _ rfl
  refine e_12 (f_256 (pc := 5) (e := (5, 12, 0, 0, 0, 0, 0, 6)) rfl) rfl ?_
  refine e_10 (f_256 (pc := 6) (e := (6, 10, 1, 0, 0, 0, 0, 7)) rfl) rfl ?_
  refine e_130 (f_256 (pc := 7) (e := (7, 130, 188, 0, 11, 269, 1249, 10)) rfl) zA (as := [yr (some 102), yi x1]) (rest := []) rfl rfl rfl rfl (Nat.le_of_ble_eq_true rfl) (Nat.le_of_ble_eq_true rfl) ⟨_, _, _, rfl, (hT 102 rfl)⟩ (mc := 0) (ms := 0) (Nat.zero_le _) (Nat.zero_le _) ?_
  refine e_K ?_ F
  rintro r h' ⟨r3, I2, rfl, rfl, F⟩
  refine e_60 (f_256 (pc := 10) (e := (10, 60, 26, 0, 0, 0, 0, 13)) rfl) (fun c4 => ?_) (fun c4 => ?_)
  · replace F := F.1 c4
    refine e_0 (f_256 (pc := 26) (e := (26, 0, 4294967295, 0, 0, 0, 0, 27)) rfl) (v := (-1)) rfl ?_
    exact e_120 (f_256 (pc := 27) (e := (27, 120, 0, 0, 0, 0, 0, 28)) rfl) F
  · replace F := F.2 c4
    refine e_12 (f_256 (pc := 13) (e := (13, 12, 0, 0, 0, 0, 0, 14)) rfl) rfl ?_
    refine e_90r zA (f_256 (pc := 14) (e := (14, 90, 11, 6, 3, 33, 1159, 17)) rfl) rfl (hT 102 rfl) rfl rfl (hR 102 6 rfl) ?_
    refine e_2 (f_256 (pc := 17) (e := (17, 2, 510, 0, 0, 0, 0, 20)) rfl) (v := 510) rfl ?_
    refine e_10 (f_256 (pc := 20) (e := (20, 10, 1, 0, 0, 0, 0, 21)) rfl) rfl ?_
    refine e_30 (f_256 (pc := 21) (e := (21, 30, 0, 0, 0, 0, 0, 22)) rfl) ?_
    obtain ⟨b5, b6, F⟩ := F
    refine e_110 (f_256 (pc := 22) (e := (22, 110, 0, 0, 0, 0, 0, 23)) rfl) rfl (hT 104 rfl) b5 b6 ?_
    refine e_62 (f_256 (pc := 23) (e := (23, 62, 28, 0, 0, 0, 0, 26)) rfl) (fun c7 => ?_) (fun c7 => ?_)
    · replace F := F.1 c7
      refine e_12 (f_256 (pc := 28) (e := (28, 12, 0, 0, 0, 0, 0, 29)) rfl) rfl ?_
      refine e_130 (f_256 (pc := 29) (e := (29, 130, 249, 0, 11, 374, 1234, 32)) rfl) zA (as := [yr (some 102)]) (rest := []) rfl rfl rfl rfl (Nat.le_of_ble_eq_true rfl) (Nat.le_of_ble_eq_true rfl) ⟨_, _, _, rfl, (hT 102 rfl)⟩ (mc := 0) (ms := 0) (Nat.zero_le _) (Nat.zero_le _) ?_
      refine e_K ?_ F
      rintro r h' ⟨I8, rfl, rfl, F⟩
      refine e_12 (f_256 (pc := 32) (e := (32, 12, 0, 0, 0, 0, 0, 33)) rfl) rfl ?_
      refine e_10 (f_256 (pc := 33) (e := (33, 10, 1, 0, 0, 0, 0, 34)) rfl) rfl ?_
      refine e_130 (f_256 (pc := 34) (e := (34, 130, 257, 0, 11, 392, 1279, 37)) rfl) zA (as := [yr (some 102), yi x1]) (rest := []) rfl rfl rfl rfl (Nat.le_of_ble_eq_true rfl) (Nat.le_of_ble_eq_true rfl) ⟨_, _, _, rfl, (hT 102 rfl)⟩ (mc := 0) (ms := 0) (Nat.zero_le _) (Nat.zero_le _) ?_
      refine e_K ?_ F
      rintro r h' ⟨r10, I9, rfl, rfl, F⟩
      exact e_120 (f_256 (pc := 37) (e := (37, 120, 0, 0, 0, 0, 0, 0)) rfl) F
    · replace F := F.2 c7
      refine e_0 (f_256 (pc := 26) (e := (26, 0, 4294967295, 0, 0, 0, 0, 27)) rfl) (v := (-1)) rfl ?_
      exact e_120 (f_256 (pc := 27) (e := (27, 120, 0, 0, 0, 0, 0, 28)) rfl) F

/-! whenOf(I)I -/
set_option maxRecDepth 20000 in
theorem B_257_0 (hT : yLT T) (hR : yLR R) {x1 : Int} (F : yW l zSS D cy zFk z d 255 0 0 (fun r h' => ∃ I1, r = none ∧ h' = (N, T, R, I1) ∧ (yW l zSS D cy zFk z (d + 1) 257 bc bs K 0 0 4 [(0, yr (some 102)), (1, yi x1)] [] (N, T, R, I1))) 0 0 0 [(0, yr (some 102))] [] (N, T, R, I)) :
    yW l zSS D cy zFk z (d + 1) 257 bc bs K 0 0 0 [(0, yr (some 102)), (1, yi x1)] [] (N, T, R, I) := by
  refine e_12 (f_257 (pc := 0) (e := (0, 12, 0, 0, 0, 0, 0, 1)) rfl) rfl ?_
  refine e_130 (f_257 (pc := 1) (e := (1, 130, 255, 0, 11, 289, 1268, 4)) rfl) zA (as := [yr (some 102)]) (rest := []) rfl rfl rfl rfl (Nat.le_of_ble_eq_true rfl) (Nat.le_of_ble_eq_true rfl) ⟨_, _, _, rfl, (hT 102 rfl)⟩ (mc := 0) (ms := 0) (Nat.zero_le _) (Nat.zero_le _) ?_
  refine e_K ?_ F
  rintro r h' ⟨I1, rfl, rfl, F⟩
  refine e_lo [0, 1] rfl ?_
  exact F
set_option maxRecDepth 20000 in
theorem B_257_4 (hT : yLT T) (hR : yLR R) {x1 : Int} (F : (500 ≤ (I 104 458) → 0 ≤ (yadd 510 x1) ∧ (yadd 510 x1) < 1188 ∧ ((0 ≤ (I 104 (yadd 510 x1).toNat) → 0 ≤ (yadd 510 x1) ∧ (yadd 510 x1) < 1188 ∧ (yW l zSS D cy zFk z d 158 0 0 (fun r h' => ∃ I7, r = none ∧ h' = (N, T, R, I7) ∧ (K (some (yi (I 104 (yadd 510 x1).toNat))) (N, T, R, I7))) 0 0 0 [(0, yr (some 102))] [] (N, T, R, I))) ∧ (¬ (0 ≤ (I 104 (yadd 510 x1).toNat)) → yW l zSS D cy zFk z d 158 0 0 (fun r h' => ∃ I8, r = none ∧ h' = (N, T, R, I8) ∧ (K (some (yi 500)) (N, T, R, I8))) 0 0 0 [(0, yr (some 102))] [] (N, T, R, I)))) ∧ (¬ (500 ≤ (I 104 458)) → 0 ≤ (yadd 510 x1) ∧ (yadd 510 x1) < 1188 ∧ ((0 ≤ (I 104 (yadd 510 x1).toNat) → 0 ≤ (yadd 510 x1) ∧ (yadd 510 x1) < 1188 ∧ ((0 ≤ (I 104 (yadd 510 x1).toNat) → 0 ≤ (yadd 510 x1) ∧ (yadd 510 x1) < 1188 ∧ (yW l zSS D cy zFk z d 158 0 0 (fun r h' => ∃ I17, r = none ∧ h' = (N, T, R, I17) ∧ (K (some (yi (I 104 (yadd 510 x1).toNat))) (N, T, R, I17))) 0 0 0 [(0, yr (some 102))] [] (N, T, R, I))) ∧ (¬ (0 ≤ (I 104 (yadd 510 x1).toNat)) → yW l zSS D cy zFk z d 158 0 0 (fun r h' => ∃ I18, r = none ∧ h' = (N, T, R, I18) ∧ (K (some (yi 500)) (N, T, R, I18))) 0 0 0 [(0, yr (some 102))] [] (N, T, R, I)))) ∧ (¬ (0 ≤ (I 104 (yadd 510 x1).toNat)) → yW l zSS D cy zFk z d 215 0 0 (fun r h' => ∃ I19, r = none ∧ h' = (N, T, R, I19) ∧ (yW l zSS D cy zFk z (d + 1) 257 bc bs K 0 0 4 [(0, yr (some 102)), (1, yi x1)] [] (N, T, R, I19))) 0 0 0 [(0, yr (some 102))] [] (N, T, R, I))))) :
    yW l zSS D cy zFk z (d + 1) 257 bc bs K 0 0 4 [(0, yr (some 102)), (1, yi x1)] [] (N, T, R, I) := by
  refine e_12 (f_257 (pc := 4) (e := (4, 12, 0, 0, 0, 0, 0, 5)) rfl) rfl ?_
  refine e_90r zA (f_257 (pc := 5) (e := (5, 90, 11, 6, 3, 33, 1159, 8)) rfl) rfl (hT 102 rfl) rfl rfl (hR 102 6 rfl) ?_
  refine e_2 (f_257 (pc := 8) (e := (8, 2, 458, 0, 0, 0, 0, 11)) rfl) (v := 458) rfl ?_
  refine e_110 (f_257 (pc := 11) (e := (11, 110, 0, 0, 0, 0, 0, 12)) rfl) rfl (hT 104 rfl) (by decide) (by decide) ?_
  refine e_2 (f_257 (pc := 12) (e := (12, 2, 500, 0, 0, 0, 0, 15)) rfl) (v := 500) rfl ?_
  refine e_73 (f_257 (pc := 15) (e := (15, 73, 38, 0, 0, 0, 0, 18)) rfl) (fun c1 => ?_) (fun c1 => ?_)
  · replace F := F.1 c1
    refine e_12 (f_257 (pc := 38) (e := (38, 12, 0, 0, 0, 0, 0, 39)) rfl) rfl ?_
    refine e_90r zA (f_257 (pc := 39) (e := (39, 90, 11, 6, 3, 33, 1159, 42)) rfl) rfl (hT 102 rfl) rfl rfl (hR 102 6 rfl) ?_
    refine e_2 (f_257 (pc := 42) (e := (42, 2, 510, 0, 0, 0, 0, 45)) rfl) (v := 510) rfl ?_
    refine e_10 (f_257 (pc := 45) (e := (45, 10, 1, 0, 0, 0, 0, 46)) rfl) rfl ?_
    refine e_30 (f_257 (pc := 46) (e := (46, 30, 0, 0, 0, 0, 0, 47)) rfl) ?_
    obtain ⟨b2, b3, F⟩ := F
    refine e_110 (f_257 (pc := 47) (e := (47, 110, 0, 0, 0, 0, 0, 48)) rfl) rfl (hT 104 rfl) b2 b3 ?_
    refine e_63 (f_257 (pc := 48) (e := (48, 63, 57, 0, 0, 0, 0, 51)) rfl) (fun c4 => ?_) (fun c4 => ?_)
    · replace F := F.1 c4
      refine e_12 (f_257 (pc := 57) (e := (57, 12, 0, 0, 0, 0, 0, 58)) rfl) rfl ?_
      refine e_90r zA (f_257 (pc := 58) (e := (58, 90, 11, 6, 3, 33, 1159, 61)) rfl) rfl (hT 102 rfl) rfl rfl (hR 102 6 rfl) ?_
      refine e_2 (f_257 (pc := 61) (e := (61, 2, 510, 0, 0, 0, 0, 64)) rfl) (v := 510) rfl ?_
      refine e_10 (f_257 (pc := 64) (e := (64, 10, 1, 0, 0, 0, 0, 65)) rfl) rfl ?_
      refine e_30 (f_257 (pc := 65) (e := (65, 30, 0, 0, 0, 0, 0, 66)) rfl) ?_
      obtain ⟨b5, b6, F⟩ := F
      refine e_110 (f_257 (pc := 66) (e := (66, 110, 0, 0, 0, 0, 0, 67)) rfl) rfl (hT 104 rfl) b5 b6 ?_
      refine e_20 (f_257 (pc := 67) (e := (67, 20, 2, 0, 0, 0, 0, 68)) rfl) ?_
      refine e_12 (f_257 (pc := 68) (e := (68, 12, 0, 0, 0, 0, 0, 69)) rfl) rfl ?_
      refine e_130 (f_257 (pc := 69) (e := (69, 130, 158, 0, 11, 383, 1236, 72)) rfl) zA (as := [yr (some 102)]) (rest := []) rfl rfl rfl rfl (Nat.le_of_ble_eq_true rfl) (Nat.le_of_ble_eq_true rfl) ⟨_, _, _, rfl, (hT 102 rfl)⟩ (mc := 0) (ms := 0) (Nat.zero_le _) (Nat.zero_le _) ?_
      refine e_K ?_ F
      rintro r h' ⟨I7, rfl, rfl, F⟩
      refine e_10 (f_257 (pc := 72) (e := (72, 10, 2, 0, 0, 0, 0, 73)) rfl) rfl ?_
      exact e_120 (f_257 (pc := 73) (e := (73, 120, 0, 0, 0, 0, 0, 0)) rfl) F
    · replace F := F.2 c4
      refine e_2 (f_257 (pc := 51) (e := (51, 2, 500, 0, 0, 0, 0, 54)) rfl) (v := 500) rfl ?_
      refine e_80 (f_257 (pc := 54) (e := (54, 80, 67, 0, 0, 0, 0, 57)) rfl) ?_
      refine e_20 (f_257 (pc := 67) (e := (67, 20, 2, 0, 0, 0, 0, 68)) rfl) ?_
      refine e_12 (f_257 (pc := 68) (e := (68, 12, 0, 0, 0, 0, 0, 69)) rfl) rfl ?_
      refine e_130 (f_257 (pc := 69) (e := (69, 130, 158, 0, 11, 383, 1236, 72)) rfl) zA (as := [yr (some 102)]) (rest := []) rfl rfl rfl rfl (Nat.le_of_ble_eq_true rfl) (Nat.le_of_ble_eq_true rfl) ⟨_, _, _, rfl, (hT 102 rfl)⟩ (mc := 0) (ms := 0) (Nat.zero_le _) (Nat.zero_le _) ?_
      refine e_K ?_ F
      rintro r h' ⟨I8, rfl, rfl, F⟩
      refine e_10 (f_257 (pc := 72) (e := (72, 10, 2, 0, 0, 0, 0, 73)) rfl) rfl ?_
      exact e_120 (f_257 (pc := 73) (e := (73, 120, 0, 0, 0, 0, 0, 0)) rfl) F
  · replace F := F.2 c1
    refine e_12 (f_257 (pc := 18) (e := (18, 12, 0, 0, 0, 0, 0, 19)) rfl) rfl ?_
    refine e_90r zA (f_257 (pc := 19) (e := (19, 90, 11, 6, 3, 33, 1159, 22)) rfl) rfl (hT 102 rfl) rfl rfl (hR 102 6 rfl) ?_
    refine e_2 (f_257 (pc := 22) (e := (22, 2, 510, 0, 0, 0, 0, 25)) rfl) (v := 510) rfl ?_
    refine e_10 (f_257 (pc := 25) (e := (25, 10, 1, 0, 0, 0, 0, 26)) rfl) rfl ?_
    refine e_30 (f_257 (pc := 26) (e := (26, 30, 0, 0, 0, 0, 0, 27)) rfl) ?_
    obtain ⟨b9, b10, F⟩ := F
    refine e_110 (f_257 (pc := 27) (e := (27, 110, 0, 0, 0, 0, 0, 28)) rfl) rfl (hT 104 rfl) b9 b10 ?_
    refine e_63 (f_257 (pc := 28) (e := (28, 63, 38, 0, 0, 0, 0, 31)) rfl) (fun c11 => ?_) (fun c11 => ?_)
    · replace F := F.1 c11
      refine e_12 (f_257 (pc := 38) (e := (38, 12, 0, 0, 0, 0, 0, 39)) rfl) rfl ?_
      refine e_90r zA (f_257 (pc := 39) (e := (39, 90, 11, 6, 3, 33, 1159, 42)) rfl) rfl (hT 102 rfl) rfl rfl (hR 102 6 rfl) ?_
      refine e_2 (f_257 (pc := 42) (e := (42, 2, 510, 0, 0, 0, 0, 45)) rfl) (v := 510) rfl ?_
      refine e_10 (f_257 (pc := 45) (e := (45, 10, 1, 0, 0, 0, 0, 46)) rfl) rfl ?_
      refine e_30 (f_257 (pc := 46) (e := (46, 30, 0, 0, 0, 0, 0, 47)) rfl) ?_
      obtain ⟨b12, b13, F⟩ := F
      refine e_110 (f_257 (pc := 47) (e := (47, 110, 0, 0, 0, 0, 0, 48)) rfl) rfl (hT 104 rfl) b12 b13 ?_
      refine e_63 (f_257 (pc := 48) (e := (48, 63, 57, 0, 0, 0, 0, 51)) rfl) (fun c14 => ?_) (fun c14 => ?_)
      · replace F := F.1 c14
        refine e_12 (f_257 (pc := 57) (e := (57, 12, 0, 0, 0, 0, 0, 58)) rfl) rfl ?_
        refine e_90r zA (f_257 (pc := 58) (e := (58, 90, 11, 6, 3, 33, 1159, 61)) rfl) rfl (hT 102 rfl) rfl rfl (hR 102 6 rfl) ?_
        refine e_2 (f_257 (pc := 61) (e := (61, 2, 510, 0, 0, 0, 0, 64)) rfl) (v := 510) rfl ?_
        refine e_10 (f_257 (pc := 64) (e := (64, 10, 1, 0, 0, 0, 0, 65)) rfl) rfl ?_
        refine e_30 (f_257 (pc := 65) (e := (65, 30, 0, 0, 0, 0, 0, 66)) rfl) ?_
        obtain ⟨b15, b16, F⟩ := F
        refine e_110 (f_257 (pc := 66) (e := (66, 110, 0, 0, 0, 0, 0, 67)) rfl) rfl (hT 104 rfl) b15 b16 ?_
        refine e_20 (f_257 (pc := 67) (e := (67, 20, 2, 0, 0, 0, 0, 68)) rfl) ?_
        refine e_12 (f_257 (pc := 68) (e := (68, 12, 0, 0, 0, 0, 0, 69)) rfl) rfl ?_
        refine e_130 (f_257 (pc := 69) (e := (69, 130, 158, 0, 11, 383, 1236, 72)) rfl) zA (as := [yr (some 102)]) (rest := []) rfl rfl rfl rfl (Nat.le_of_ble_eq_true rfl) (Nat.le_of_ble_eq_true rfl) ⟨_, _, _, rfl, (hT 102 rfl)⟩ (mc := 0) (ms := 0) (Nat.zero_le _) (Nat.zero_le _) ?_
        refine e_K ?_ F
        rintro r h' ⟨I17, rfl, rfl, F⟩
        refine e_10 (f_257 (pc := 72) (e := (72, 10, 2, 0, 0, 0, 0, 73)) rfl) rfl ?_
        exact e_120 (f_257 (pc := 73) (e := (73, 120, 0, 0, 0, 0, 0, 0)) rfl) F
      · replace F := F.2 c14
        refine e_2 (f_257 (pc := 51) (e := (51, 2, 500, 0, 0, 0, 0, 54)) rfl) (v := 500) rfl ?_
        refine e_80 (f_257 (pc := 54) (e := (54, 80, 67, 0, 0, 0, 0, 57)) rfl) ?_
        refine e_20 (f_257 (pc := 67) (e := (67, 20, 2, 0, 0, 0, 0, 68)) rfl) ?_
        refine e_12 (f_257 (pc := 68) (e := (68, 12, 0, 0, 0, 0, 0, 69)) rfl) rfl ?_
        refine e_130 (f_257 (pc := 69) (e := (69, 130, 158, 0, 11, 383, 1236, 72)) rfl) zA (as := [yr (some 102)]) (rest := []) rfl rfl rfl rfl (Nat.le_of_ble_eq_true rfl) (Nat.le_of_ble_eq_true rfl) ⟨_, _, _, rfl, (hT 102 rfl)⟩ (mc := 0) (ms := 0) (Nat.zero_le _) (Nat.zero_le _) ?_
        refine e_K ?_ F
        rintro r h' ⟨I18, rfl, rfl, F⟩
        refine e_10 (f_257 (pc := 72) (e := (72, 10, 2, 0, 0, 0, 0, 73)) rfl) rfl ?_
        exact e_120 (f_257 (pc := 73) (e := (73, 120, 0, 0, 0, 0, 0, 0)) rfl) F
    · replace F := F.2 c11
      refine e_12 (f_257 (pc := 31) (e := (31, 12, 0, 0, 0, 0, 0, 32)) rfl) rfl ?_
      refine e_130 (f_257 (pc := 32) (e := (32, 130, 215, 0, 11, 339, 1269, 35)) rfl) zA (as := [yr (some 102)]) (rest := []) rfl rfl rfl rfl (Nat.le_of_ble_eq_true rfl) (Nat.le_of_ble_eq_true rfl) ⟨_, _, _, rfl, (hT 102 rfl)⟩ (mc := 0) (ms := 0) (Nat.zero_le _) (Nat.zero_le _) ?_
      refine e_K ?_ F
      rintro r h' ⟨I19, rfl, rfl, F⟩
      refine e_80 (f_257 (pc := 35) (e := (35, 80, 4, 0, 0, 0, 0, 38)) rfl) ?_
      refine e_lo [0, 1] rfl ?_
      exact F
end Sy
