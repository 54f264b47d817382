/-! BLOCKS of the reference, printed by wip/whole/y/gen73.py (3) -/
section Sy
variable {l : Launch} {D : va_G} {cy : Nat → ClassId} {z d bc bs N : Nat} {T : Nat → Nat × Nat} {R : Nat → Nat → Option Nat} {I : Nat → Nat → Int} {K : yKo}
/-! on(I)I -/
set_option maxRecDepth 20000 in
theorem B_220_0 (hT : yLT T) (hR : yLR R) {x1 : Int} (F : ∀ I1, I1 = yU I 102 0 0 → (yW l zSS D cy zFk z d 191 0 0 (fun r h' => ∃ r3 I2, r = some (yi r3) ∧ h' = (N, T, R, I2) ∧ ((r3 ≠ 0 → ((I2 104 458) ≠ 500 → yW l zSS D cy zFk z d 203 0 0 (fun r h' => ∃ I6, r = none ∧ h' = (N, T, R, I6) ∧ (yW l zSS D cy zFk z d 255 0 0 (fun r h' => ∃ I7, r = none ∧ h' = (N, T, R, I7) ∧ (yW l zSS D cy zFk z (d + 1) 220 bc bs K 0 0 43 [(0, yr (some 102)), (1, yi x1), (2, yi 0)] [] (N, T, R, I7))) 0 0 0 [(0, yr (some 102))] [] (N, T, R, I6))) 0 0 0 [(0, yr (some 102))] [] (N, T, R, I2)) ∧ (¬ ((I2 104 458) ≠ 500) → K (some (yi 0)) (N, T, R, I2))) ∧ (¬ (r3 ≠ 0) → K (some (yi (-1))) (N, T, R, I2)))) 0 0 0 [(0, yi x1), (1, yi 1), (2, yi 100)] [] (N, T, R, I1))) :
    yW l zSS D cy zFk z (d + 1) 220 bc bs K 0 0 0 [(0, yr (some 102)), (1, yi x1)] [] (N, T, R, I) := by
  refine e_12 (f_220 (pc := 0) (e := (0, 12, 0, 0, 0, 0, 0, 1)) rfl) rfl ?_
  refine e_0 (f_220 (pc := 1) (e := (1, 0, 0, 0, 0, 0, 0, 2)) rfl) (v := 0) rfl ?_
  refine e_91 zA (f_220 (pc := 2) (e := (2, 91, 11, 0, 0, 1, 1216, 5)) rfl) rfl (hT 102 rfl) rfl rfl trivial ?_
  replace F := F _ rfl
  refine e_10 (f_220 (pc := 5) (e := (5, 10, 1, 0, 0, 0, 0, 6)) rfl) rfl ?_
  refine e_0 (f_220 (pc := 6) (e := (6, 0, 1, 0, 0, 0, 0, 7)) rfl) (v := 1) rfl ?_
  refine e_1 (f_220 (pc := 7) (e := (7, 1, 100, 0, 0, 0, 0, 9)) rfl) (v := 100) rfl ?_
  refine e_132 (f_220 (pc := 9) (e := (9, 132, 191, 2, 11, 193, 1245, 12)) rfl) zA (as := [yi x1, yi 1, yi 100]) (rest := []) rfl rfl rfl rfl (Nat.le_of_ble_eq_true rfl) (Nat.le_of_ble_eq_true rfl) (mc := 0) (ms := 0) (Nat.zero_le _) (Nat.zero_le _) ?_
  refine e_K ?_ F
  rintro r h' ⟨r3, I2, rfl, rfl, F⟩
  refine e_61 (f_220 (pc := 12) (e := (12, 61, 17, 0, 0, 0, 0, 15)) rfl) (fun c4 => ?_) (fun c4 => ?_)
  · replace F := F.1 c4
    refine e_12 (f_220 (pc := 17) (e := (17, 12, 0, 0, 0, 0, 0, 18)) rfl) rfl ?_
    refine e_90r zA (f_220 (pc := 18) (e := (18, 90, 11, 6, 3, 33, 1159, 21)) rfl) rfl (hT 102 rfl) rfl rfl (hR 102 6 rfl) ?_
    refine e_2 (f_220 (pc := 21) (e := (21, 2, 458, 0, 0, 0, 0, 24)) rfl) (v := 458) rfl ?_
    refine e_110 (f_220 (pc := 24) (e := (24, 110, 0, 0, 0, 0, 0, 25)) rfl) rfl (hT 104 rfl) (by decide) (by decide) ?_
    refine e_2 (f_220 (pc := 25) (e := (25, 2, 500, 0, 0, 0, 0, 28)) rfl) (v := 500) rfl ?_
    refine e_71 (f_220 (pc := 28) (e := (28, 71, 33, 0, 0, 0, 0, 31)) rfl) (fun c5 => ?_) (fun c5 => ?_)
    · replace F := F.1 c5
      refine e_12 (f_220 (pc := 33) (e := (33, 12, 0, 0, 0, 0, 0, 34)) rfl) rfl ?_
      refine e_130 (f_220 (pc := 34) (e := (34, 130, 203, 0, 11, 342, 1255, 37)) rfl) zA (as := [yr (some 102)]) (rest := []) rfl rfl rfl rfl (Nat.le_of_ble_eq_true rfl) (Nat.le_of_ble_eq_true rfl) ⟨_, _, _, rfl, (hT 102 rfl)⟩ (mc := 0) (ms := 0) (Nat.zero_le _) (Nat.zero_le _) ?_
      refine e_K ?_ F
      rintro r h' ⟨I6, rfl, rfl, F⟩
      refine e_12 (f_220 (pc := 37) (e := (37, 12, 0, 0, 0, 0, 0, 38)) rfl) rfl ?_
      refine e_130 (f_220 (pc := 38) (e := (38, 130, 255, 0, 11, 289, 1268, 41)) rfl) zA (as := [yr (some 102)]) (rest := []) rfl rfl rfl rfl (Nat.le_of_ble_eq_true rfl) (Nat.le_of_ble_eq_true rfl) ⟨_, _, _, rfl, (hT 102 rfl)⟩ (mc := 0) (ms := 0) (Nat.zero_le _) (Nat.zero_le _) ?_
      refine e_K ?_ F
      rintro r h' ⟨I7, rfl, rfl, F⟩
      refine e_0 (f_220 (pc := 41) (e := (41, 0, 0, 0, 0, 0, 0, 42)) rfl) (v := 0) rfl ?_
      refine e_20 (f_220 (pc := 42) (e := (42, 20, 2, 0, 0, 0, 0, 43)) rfl) ?_
      refine e_lo [0, 1, 2] rfl ?_
      exact F
    · replace F := F.2 c5
      refine e_0 (f_220 (pc := 31) (e := (31, 0, 0, 0, 0, 0, 0, 32)) rfl) (v := 0) rfl ?_
      exact e_120 (f_220 (pc := 32) (e := (32, 120, 0, 0, 0, 0, 0, 33)) rfl) F
  · replace F := F.2 c4
    refine e_0 (f_220 (pc := 15) (e := (15, 0, 4294967295, 0, 0, 0, 0, 16)) rfl) (v := (-1)) rfl ?_
    exact e_120 (f_220 (pc := 16) (e := (16, 120, 0, 0, 0, 0, 0, 17)) rfl) F
set_option maxRecDepth 20000 in
theorem B_220_43 (hT : yLT T) (hR : yLR R) {x1 x2 : Int} (F : (x1 ≤ x2 → K (some (yi x2)) (N, T, R, I)) ∧ (¬ (x1 ≤ x2) → (500 ≤ (I 104 458) → K (some (yi x2)) (N, T, R, I)) ∧ (¬ (500 ≤ (I 104 458)) → yW l zSS D cy zFk z d 215 0 0 (fun r h' => ∃ I3, r = none ∧ h' = (N, T, R, I3) ∧ (yW l zSS D cy zFk z (d + 1) 220 bc bs K 0 0 43 [(0, yr (some 102)), (1, yi x1), (2, yi (yadd x2 1))] [] (N, T, R, I3))) 0 0 0 [(0, yr (some 102))] [] (N, T, R, I)))) :
    yW l zSS D cy zFk z (d + 1) 220 bc bs K 0 0 43 [(0, yr (some 102)), (1, yi x1), (2, yi x2)] [] (N, T, R, I) := by
  refine e_10 (f_220 (pc := 43) (e := (43, 10, 2, 0, 0, 0, 0, 44)) rfl) rfl ?_
  refine e_10 (f_220 (pc := 44) (e := (44, 10, 1, 0, 0, 0, 0, 45)) rfl) rfl ?_
  refine e_73 (f_220 (pc := 45) (e := (45, 73, 72, 0, 0, 0, 0, 48)) rfl) (fun c1 => ?_) (fun c1 => ?_)
  · replace F := F.1 c1
    refine e_10 (f_220 (pc := 72) (e := (72, 10, 2, 0, 0, 0, 0, 73)) rfl) rfl ?_
    exact e_120 (f_220 (pc := 73) (e := (73, 120, 0, 0, 0, 0, 0, 0)) rfl) F
  · replace F := F.2 c1
    refine e_12 (f_220 (pc := 48) (e := (48, 12, 0, 0, 0, 0, 0, 49)) rfl) rfl ?_
    refine e_90r zA (f_220 (pc := 49) (e := (49, 90, 11, 6, 3, 33, 1159, 52)) rfl) rfl (hT 102 rfl) rfl rfl (hR 102 6 rfl) ?_
    refine e_2 (f_220 (pc := 52) (e := (52, 2, 458, 0, 0, 0, 0, 55)) rfl) (v := 458) rfl ?_
    refine e_110 (f_220 (pc := 55) (e := (55, 110, 0, 0, 0, 0, 0, 56)) rfl) rfl (hT 104 rfl) (by decide) (by decide) ?_
    refine e_2 (f_220 (pc := 56) (e := (56, 2, 500, 0, 0, 0, 0, 59)) rfl) (v := 500) rfl ?_
    refine e_73 (f_220 (pc := 59) (e := (59, 73, 72, 0, 0, 0, 0, 62)) rfl) (fun c2 => ?_) (fun c2 => ?_)
    · replace F := F.1 c2
      refine e_10 (f_220 (pc := 72) (e := (72, 10, 2, 0, 0, 0, 0, 73)) rfl) rfl ?_
      exact e_120 (f_220 (pc := 73) (e := (73, 120, 0, 0, 0, 0, 0, 0)) rfl) F
    · replace F := F.2 c2
      refine e_12 (f_220 (pc := 62) (e := (62, 12, 0, 0, 0, 0, 0, 63)) rfl) rfl ?_
      refine e_130 (f_220 (pc := 63) (e := (63, 130, 215, 0, 11, 339, 1269, 66)) rfl) zA (as := [yr (some 102)]) (rest := []) rfl rfl rfl rfl (Nat.le_of_ble_eq_true rfl) (Nat.le_of_ble_eq_true rfl) ⟨_, _, _, rfl, (hT 102 rfl)⟩ (mc := 0) (ms := 0) (Nat.zero_le _) (Nat.zero_le _) ?_
      refine e_K ?_ F
      rintro r h' ⟨I3, rfl, rfl, F⟩
      refine e_26 (f_220 (pc := 66) (e := (66, 26, 2, 1, 0, 0, 0, 69)) rfl) (w := 1) rfl rfl ?_
      refine e_80 (f_220 (pc := 69) (e := (69, 80, 43, 0, 0, 0, 0, 72)) rfl) ?_
      refine e_lo [0, 1, 2] rfl ?_
      exact F

/-! oneWay()I -/
set_option maxRecDepth 20000 in
theorem B_221_0 (hT : yLT T) (hR : yLR R) (F : ∀ I1, I1 = yU I 102 0 0 → (yW l zSS D cy zFk z d 157 0 0 (fun r h' => ∃ r3 I2, r = some (yi r3) ∧ h' = (N, T, R, I2) ∧ ((r3 = 0 → yW l zSS D cy zFk z d 249 0 0 (fun r h' => ∃ I5, r = none ∧ h' = (N, T, R, I5) ∧ (yW l zSS D cy zFk z d 232 0 0 (fun r h' => ∃ I6, r = none ∧ h' = (N, T, R, I6) ∧ (yW l zSS D cy zFk z d 207 0 0 (fun r h' => ∃ r8 I7, r = some (yi r8) ∧ h' = (N, T, R, I7) ∧ (yW l zSS D cy zFk z d 253 0 0 (fun r h' => ∃ r10 I9, r = some (yi r10) ∧ h' = (N, T, R, I9) ∧ (yW l zSS D cy zFk z d 158 0 0 (fun r h' => ∃ I11, r = none ∧ h' = (N, T, R, I11) ∧ (yW l zSS D cy zFk z (d + 1) 221 bc bs K 0 0 41 [(0, yr (some 102)), (1, yi r8), (2, yi r10), (3, yi (-1)), (4, yi 0)] [] (N, T, R, I11))) 0 0 0 [(0, yr (some 102))] [] (N, T, R, I9))) 0 0 0 [(0, yr (some 102))] [] (N, T, R, I7))) 0 0 0 [(0, yr (some 102))] [] (N, T, R, I6))) 0 0 0 [(0, yr (some 102))] [] (N, T, R, I5))) 0 0 0 [(0, yr (some 102))] [] (N, T, R, I2)) ∧ (¬ (r3 = 0) → K (some (yi (-1))) (N, T, R, I2)))) 0 0 0 [(0, yr (some 102))] [] (N, T, R, I1))) :
    yW l zSS D cy zFk z (d + 1) 221 bc bs K 0 0 0 [(0, yr (some 102))] [] (N, T, R, I) := by
  refine e_12 (f_221 (pc := 0) (e := (0, 12, 0, 0, 0, 0, 0, 1)) rfl) rfl ?_
  refine e_0 (f_221 (pc := 1) (e := (1, 0, 0, 0, 0, 0, 0, 2)) rfl) (v := 0) rfl ?_
  refine e_91 zA (f_221 (pc := 2) (e := (2, 91, 11, 0, 0, 1, 1216, 5)) rfl) rfl (hT 102 rfl) rfl rfl trivial ?_
  replace F := F _ rfl
  refine e_12 (f_221 (pc := 5) (e := (5, 12, 0, 0, 0, 0, 0, 6)) rfl) rfl ?_
  refine e_130 (f_221 (pc := 6) (e := (6, 130, 157, 0, 11, 336, 1276, 9)) rfl) zA (as := [yr (some 102)]) (rest := []) rfl rfl rfl rfl (Nat.le_of_ble_eq_true rfl) (Nat.le_of_ble_eq_true rfl) ⟨_, _, _, rfl, (hT 102 rfl)⟩ (mc := 0) (ms := 0) (Nat.zero_le _) (Nat.zero_le _) ?_
  refine e_K ?_ F
  rintro r h' ⟨r3, I2, rfl, rfl, F⟩
  refine e_60 (f_221 (pc := 9) (e := (9, 60, 14, 0, 0, 0, 0, 12)) rfl) (fun c4 => ?_) (fun c4 => ?_)
  · replace F := F.1 c4
    refine e_12 (f_221 (pc := 14) (e := (14, 12, 0, 0, 0, 0, 0, 15)) rfl) rfl ?_
    refine e_130 (f_221 (pc := 15) (e := (15, 130, 249, 0, 11, 374, 1234, 18)) rfl) zA (as := [yr (some 102)]) (rest := []) rfl rfl rfl rfl (Nat.le_of_ble_eq_true rfl) (Nat.le_of_ble_eq_true rfl) ⟨_, _, _, rfl, (hT 102 rfl)⟩ (mc := 0) (ms := 0) (Nat.zero_le _) (Nat.zero_le _) ?_
    refine e_K ?_ F
    rintro r h' ⟨I5, rfl, rfl, F⟩
    refine e_12 (f_221 (pc := 18) (e := (18, 12, 0, 0, 0, 0, 0, 19)) rfl) rfl ?_
    refine e_130 (f_221 (pc := 19) (e := (19, 130, 232, 0, 11, 377, 1277, 22)) rfl) zA (as := [yr (some 102)]) (rest := []) rfl rfl rfl rfl (Nat.le_of_ble_eq_true rfl) (Nat.le_of_ble_eq_true rfl) ⟨_, _, _, rfl, (hT 102 rfl)⟩ (mc := 0) (ms := 0) (Nat.zero_le _) (Nat.zero_le _) ?_
    refine e_K ?_ F
    rintro r h' ⟨I6, rfl, rfl, F⟩
    refine e_12 (f_221 (pc := 22) (e := (22, 12, 0, 0, 0, 0, 0, 23)) rfl) rfl ?_
    refine e_130 (f_221 (pc := 23) (e := (23, 130, 207, 0, 11, 380, 1278, 26)) rfl) zA (as := [yr (some 102)]) (rest := []) rfl rfl rfl rfl (Nat.le_of_ble_eq_true rfl) (Nat.le_of_ble_eq_true rfl) ⟨_, _, _, rfl, (hT 102 rfl)⟩ (mc := 0) (ms := 0) (Nat.zero_le _) (Nat.zero_le _) ?_
    refine e_K ?_ F
    rintro r h' ⟨r8, I7, rfl, rfl, F⟩
    refine e_20 (f_221 (pc := 26) (e := (26, 20, 1, 0, 0, 0, 0, 27)) rfl) ?_
    refine e_12 (f_221 (pc := 27) (e := (27, 12, 0, 0, 0, 0, 0, 28)) rfl) rfl ?_
    refine e_130 (f_221 (pc := 28) (e := (28, 130, 253, 0, 11, 386, 1291, 31)) rfl) zA (as := [yr (some 102)]) (rest := []) rfl rfl rfl rfl (Nat.le_of_ble_eq_true rfl) (Nat.le_of_ble_eq_true rfl) ⟨_, _, _, rfl, (hT 102 rfl)⟩ (mc := 0) (ms := 0) (Nat.zero_le _) (Nat.zero_le _) ?_
    refine e_K ?_ F
    rintro r h' ⟨r10, I9, rfl, rfl, F⟩
    refine e_20 (f_221 (pc := 31) (e := (31, 20, 2, 0, 0, 0, 0, 32)) rfl) ?_
    refine e_12 (f_221 (pc := 32) (e := (32, 12, 0, 0, 0, 0, 0, 33)) rfl) rfl ?_
    refine e_130 (f_221 (pc := 33) (e := (33, 130, 158, 0, 11, 383, 1236, 36)) rfl) zA (as := [yr (some 102)]) (rest := []) rfl rfl rfl rfl (Nat.le_of_ble_eq_true rfl) (Nat.le_of_ble_eq_true rfl) ⟨_, _, _, rfl, (hT 102 rfl)⟩ (mc := 0) (ms := 0) (Nat.zero_le _) (Nat.zero_le _) ?_
    refine e_K ?_ F
    rintro r h' ⟨I11, rfl, rfl, F⟩
    refine e_0 (f_221 (pc := 36) (e := (36, 0, 4294967295, 0, 0, 0, 0, 37)) rfl) (v := (-1)) rfl ?_
    refine e_20 (f_221 (pc := 37) (e := (37, 20, 3, 0, 0, 0, 0, 38)) rfl) ?_
    refine e_0 (f_221 (pc := 38) (e := (38, 0, 0, 0, 0, 0, 0, 39)) rfl) (v := 0) rfl ?_
    refine e_21 (f_221 (pc := 39) (e := (39, 21, 4, 0, 0, 0, 0, 41)) rfl) ?_
    refine e_lo [0, 1, 2, 3, 4] rfl ?_
    exact F
  · replace F := F.2 c4
    refine e_0 (f_221 (pc := 12) (e := (12, 0, 4294967295, 0, 0, 0, 0, 13)) rfl) (v := (-1)) rfl ?_
    exact e_120 (f_221 (pc := 13) (e := (13, 120, 0, 0, 0, 0, 0, 14)) rfl) F
set_option maxRecDepth 20000 in
theorem B_221_41 (hT : yLT T) (hR : yLR R) {x1 x2 x3 x4 : Int} (F : (100 ≤ x4 → K (some (yi x3)) (N, T, R, I)) ∧ (¬ (100 ≤ x4) → yW l zSS D cy zFk z d 221 bc bs K 0 0 51 [(0, yr (some 102)), (1, yi x1), (2, yi x2), (3, yi x3), (4, yi x4), (5, yi 0)] [] (N, T, R, I))) :
    yW l zSS D cy zFk z d 221 bc bs K 0 0 41 [(0, yr (some 102)), (1, yi x1), (2, yi x2), (3, yi x3), (4, yi x4)] [] (N, T, R, I) := by
  refine e_11 (f_221 (pc := 41) (e := (41, 11, 4, 0, 0, 0, 0, 43)) rfl) rfl ?_
  refine e_1 (f_221 (pc := 43) (e := (43, 1, 100, 0, 0, 0, 0, 45)) rfl) (v := 100) rfl ?_
  refine e_73 (f_221 (pc := 45) (e := (45, 73, 166, 0, 0, 0, 0, 48)) rfl) (fun c1 => ?_) (fun c1 => ?_)
  · replace F := F.1 c1
    refine e_10 (f_221 (pc := 166) (e := (166, 10, 3, 0, 0, 0, 0, 167)) rfl) rfl ?_
    exact e_120 (f_221 (pc := 167) (e := (167, 120, 0, 0, 0, 0, 0, 0)) rfl) F
  · replace F := F.2 c1
    refine e_0 (f_221 (pc := 48) (e := (48, 0, 0, 0, 0, 0, 0, 49)) rfl) (v := 0) rfl ?_
    refine e_21 (f_221 (pc := 49) (e := (49, 21, 5, 0, 0, 0, 0, 51)) rfl) ?_
    refine e_lo [0, 1, 2, 3, 4, 5] rfl ?_
    exact F
set_option maxRecDepth 20000 in
theorem B_221_51 (hT : yLT T) (hR : yLR R) {x1 x2 x3 x4 x5 : Int} (F : (4 ≤ x5 → yW l zSS D cy zFk z (d + 1) 221 bc bs K 0 0 41 [(0, yr (some 102)), (1, yi x1), (2, yi x2), (3, yi x3), (4, yi (yadd x4 1))] [] (N, T, R, I)) ∧ (¬ (4 ≤ x5) → yW l zSS D cy zFk z d 190 0 0 (fun r h' => ∃ r3 I2, r = some (yi r3) ∧ h' = (N, T, R, I2) ∧ ((r3 = 0 → yW l zSS D cy zFk z (d + 1) 221 bc bs K 0 0 51 [(0, yr (some 102)), (1, yi x1), (2, yi x2), (3, yi x3), (4, yi x4), (5, yi (yadd x5 1))] [] (N, T, R, I2)) ∧ (¬ (r3 = 0) → 0 ≤ (yadd 526 x4) ∧ (yadd 526 x4) < 1188 ∧ (((I2 104 (yadd 526 x4).toNat) ≤ 0 → 0 ≤ (yadd 526 x4) ∧ (yadd 526 x4) < 1188 ∧ (∀ I10, I10 = yU I2 104 ((yadd 526 x4).toNat) (ynar 1 (yadd x5 1)) → (yW l zSS D cy zFk z d 232 0 0 (fun r h' => ∃ I11, r = none ∧ h' = (N, T, R, I11) ∧ (yW l zSS D cy zFk z d 207 0 0 (fun r h' => ∃ r13 I12, r = some (yi r13) ∧ h' = (N, T, R, I12) ∧ (yW l zSS D cy zFk z d 253 0 0 (fun r h' => ∃ r15 I14, r = some (yi r15) ∧ h' = (N, T, R, I14) ∧ (yW l zSS D cy zFk z d 158 0 0 (fun r h' => ∃ I16, r = none ∧ h' = (N, T, R, I16) ∧ ((x1 < r13 → yW l zSS D cy zFk z (d + 1) 221 bc bs K 0 0 51 [(0, yr (some 102)), (1, yi x1), (2, yi x2), (3, yi x3), (4, yi x4), (5, yi (yadd x5 1))] [] (N, T, R, I16)) ∧ (¬ (x1 < r13) → (r13 ≠ x1 → yW l zSS D cy zFk z (d + 1) 221 bc bs K 0 0 51 [(0, yr (some 102)), (1, yi r13), (2, yi r15), (3, yi (yadd (ymul 10 x4) x5)), (4, yi x4), (5, yi (yadd x5 1))] [] (N, T, R, I16)) ∧ (¬ (r13 ≠ x1) → (r15 < x2 → yW l zSS D cy zFk z (d + 1) 221 bc bs K 0 0 51 [(0, yr (some 102)), (1, yi r13), (2, yi r15), (3, yi (yadd (ymul 10 x4) x5)), (4, yi x4), (5, yi (yadd x5 1))] [] (N, T, R, I16)) ∧ (¬ (r15 < x2) → yW l zSS D cy zFk z (d + 1) 221 bc bs K 0 0 51 [(0, yr (some 102)), (1, yi x1), (2, yi x2), (3, yi x3), (4, yi x4), (5, yi (yadd x5 1))] [] (N, T, R, I16)))))) 0 0 0 [(0, yr (some 102))] [] (N, T, R, I14))) 0 0 0 [(0, yr (some 102))] [] (N, T, R, I12))) 0 0 0 [(0, yr (some 102))] [] (N, T, R, I11))) 0 0 0 [(0, yr (some 102))] [] (N, T, R, I10)))) ∧ (¬ ((I2 104 (yadd 526 x4).toNat) ≤ 0) → yW l zSS D cy zFk z (d + 1) 221 bc bs K 0 0 51 [(0, yr (some 102)), (1, yi x1), (2, yi x2), (3, yi x3), (4, yi x4), (5, yi (yadd x5 1))] [] (N, T, R, I2)))))) 0 0 0 [(0, yr (some 102)), (1, yi x4)] [] (N, T, R, I))) :
    yW l zSS D cy zFk z (d + 1) 221 bc bs K 0 0 51 [(0, yr (some 102)), (1, yi x1), (2, yi x2), (3, yi x3), (4, yi x4), (5, yi x5)] [] (N, T, R, I) := by
  refine e_11 (f_221 (pc := 51) (e := (51, 11, 5, 0, 0, 0, 0, 53)) rfl) rfl ?_
  refine e_0 (f_221 (pc := 53) (e := (53, 0, 4, 0, 0, 0, 0, 54)) rfl) (v := 4) rfl ?_
  refine e_73 (f_221 (pc := 54) (e := (54, 73, 160, 0, 0, 0, 0, 57)) rfl) (fun c1 => ?_) (fun c1 => ?_)
  · replace F := F.1 c1
    refine e_26 (f_221 (pc := 160) (e := (160, 26, 4, 1, 0, 0, 0, 163)) rfl) (w := 1) rfl rfl ?_
    refine e_80 (f_221 (pc := 163) (e := (163, 80, 41, 0, 0, 0, 0, 166)) rfl) ?_
    refine e_lo [0, 1, 2, 3, 4] rfl ?_
    exact F
  · replace F := F.2 c1
    refine e_12 (f_221 (pc := 57) (e := (57, 12, 0, 0, 0, 0, 0, 58)) rfl) rfl ?_
    refine e_11 (f_221 (pc := 58) (e := (58, 11, 4, 0, 0, 0, 0, 60)) rfl) rfl ?_
    refine e_130 (f_221 (pc := 60) (e := (60, 130, 190, 0, 11, 279, 1275, 63)) rfl) zA (as := [yr (some 102), yi x4]) (rest := []) rfl rfl rfl rfl (Nat.le_of_ble_eq_true rfl) (Nat.le_of_ble_eq_true rfl) ⟨_, _, _, rfl, (hT 102 rfl)⟩ (mc := 0) (ms := 0) (Nat.zero_le _) (Nat.zero_le _) ?_
    refine e_K ?_ F
    rintro r h' ⟨r3, I2, rfl, rfl, F⟩
    refine e_60 (f_221 (pc := 63) (e := (63, 60, 154, 0, 0, 0, 0, 66)) rfl) (fun c4 => ?_) (fun c4 => ?_)
    · replace F := F.1 c4
      refine e_26 (f_221 (pc := 154) (e := (154, 26, 5, 1, 0, 0, 0, 157)) rfl) (w := 1) rfl rfl ?_
      refine e_80 (f_221 (pc := 157) (e := (157, 80, 51, 0, 0, 0, 0, 160)) rfl) ?_
      refine e_lo [0, 1, 2, 3, 4, 5] rfl ?_
      exact F
    · replace F := F.2 c4
      refine e_12 (f_221 (pc := 66) (e := (66, 12, 0, 0, 0, 0, 0, 67)) rfl) rfl ?_
      refine e_90r zA (f_221 (pc := 67) (e := (67, 90, 11, 6, 3, 33, 1159, 70)) rfl) rfl (hT 102 rfl) rfl rfl (hR 102 6 rfl) ?_
      refine e_2 (f_221 (pc := 70) (e := (70, 2, 526, 0, 0, 0, 0, 73)) rfl) (v := 526) rfl ?_
      refine e_11 (f_221 (pc := 73) (e := (73, 11, 4, 0, 0, 0, 0, 75)) rfl) rfl ?_
      refine e_30 (f_221 (pc := 75) (e := (75, 30, 0, 0, 0, 0, 0, 76)) rfl) ?_
      obtain ⟨b5, b6, F⟩ := F
      refine e_110 (f_221 (pc := 76) (e := (76, 110, 0, 0, 0, 0, 0, 77)) rfl) rfl (hT 104 rfl) b5 b6 ?_
      refine e_65 (f_221 (pc := 77) (e := (77, 65, 83, 0, 0, 0, 0, 80)) rfl) (fun c7 => ?_) (fun c7 => ?_)
      · replace F := F.1 c7
        refine e_12 (f_221 (pc := 83) (e := (83, 12, 0, 0, 0, 0, 0, 84)) rfl) rfl ?_
        refine e_90r zA (f_221 (pc := 84) (e := (84, 90, 11, 6, 3, 33, 1159, 87)) rfl) rfl (hT 102 rfl) rfl rfl (hR 102 6 rfl) ?_
        refine e_2 (f_221 (pc := 87) (e := (87, 2, 526, 0, 0, 0, 0, 90)) rfl) (v := 526) rfl ?_
        refine e_11 (f_221 (pc := 90) (e := (90, 11, 4, 0, 0, 0, 0, 92)) rfl) rfl ?_
        refine e_30 (f_221 (pc := 92) (e := (92, 30, 0, 0, 0, 0, 0, 93)) rfl) ?_
        refine e_11 (f_221 (pc := 93) (e := (93, 11, 5, 0, 0, 0, 0, 95)) rfl) rfl ?_
        refine e_0 (f_221 (pc := 95) (e := (95, 0, 1, 0, 0, 0, 0, 96)) rfl) (v := 1) rfl ?_
        refine e_30 (f_221 (pc := 96) (e := (96, 30, 0, 0, 0, 0, 0, 97)) rfl) ?_
        obtain ⟨b8, b9, F⟩ := F
        refine e_111 (f_221 (pc := 97) (e := (97, 111, 0, 0, 0, 0, 0, 98)) rfl) rfl (hT 104 rfl) b8 b9 ?_
        replace F := F _ rfl
        refine e_12 (f_221 (pc := 98) (e := (98, 12, 0, 0, 0, 0, 0, 99)) rfl) rfl ?_
        refine e_130 (f_221 (pc := 99) (e := (99, 130, 232, 0, 11, 377, 1277, 102)) rfl) zA (as := [yr (some 102)]) (rest := []) rfl rfl rfl rfl (Nat.le_of_ble_eq_true rfl) (Nat.le_of_ble_eq_true rfl) ⟨_, _, _, rfl, (hT 102 rfl)⟩ (mc := 0) (ms := 0) (Nat.zero_le _) (Nat.zero_le _) ?_
        refine e_K ?_ F
        rintro r h' ⟨I11, rfl, rfl, F⟩
        refine e_12 (f_221 (pc := 102) (e := (102, 12, 0, 0, 0, 0, 0, 103)) rfl) rfl ?_
        refine e_130 (f_221 (pc := 103) (e := (103, 130, 207, 0, 11, 380, 1278, 106)) rfl) zA (as := [yr (some 102)]) (rest := []) rfl rfl rfl rfl (Nat.le_of_ble_eq_true rfl) (Nat.le_of_ble_eq_true rfl) ⟨_, _, _, rfl, (hT 102 rfl)⟩ (mc := 0) (ms := 0) (Nat.zero_le _) (Nat.zero_le _) ?_
        refine e_K ?_ F
        rintro r h' ⟨r13, I12, rfl, rfl, F⟩
        refine e_21 (f_221 (pc := 106) (e := (106, 21, 6, 0, 0, 0, 0, 108)) rfl) ?_
        refine e_12 (f_221 (pc := 108) (e := (108, 12, 0, 0, 0, 0, 0, 109)) rfl) rfl ?_
        refine e_130 (f_221 (pc := 109) (e := (109, 130, 253, 0, 11, 386, 1291, 112)) rfl) zA (as := [yr (some 102)]) (rest := []) rfl rfl rfl rfl (Nat.le_of_ble_eq_true rfl) (Nat.le_of_ble_eq_true rfl) ⟨_, _, _, rfl, (hT 102 rfl)⟩ (mc := 0) (ms := 0) (Nat.zero_le _) (Nat.zero_le _) ?_
        refine e_K ?_ F
        rintro r h' ⟨r15, I14, rfl, rfl, F⟩
        refine e_21 (f_221 (pc := 112) (e := (112, 21, 7, 0, 0, 0, 0, 114)) rfl) ?_
        refine e_12 (f_221 (pc := 114) (e := (114, 12, 0, 0, 0, 0, 0, 115)) rfl) rfl ?_
        refine e_130 (f_221 (pc := 115) (e := (115, 130, 158, 0, 11, 383, 1236, 118)) rfl) zA (as := [yr (some 102)]) (rest := []) rfl rfl rfl rfl (Nat.le_of_ble_eq_true rfl) (Nat.le_of_ble_eq_true rfl) ⟨_, _, _, rfl, (hT 102 rfl)⟩ (mc := 0) (ms := 0) (Nat.zero_le _) (Nat.zero_le _) ?_
        refine e_K ?_ F
        rintro r h' ⟨I16, rfl, rfl, F⟩
        refine e_11 (f_221 (pc := 118) (e := (118, 11, 6, 0, 0, 0, 0, 120)) rfl) rfl ?_
        refine e_10 (f_221 (pc := 120) (e := (120, 10, 1, 0, 0, 0, 0, 121)) rfl) rfl ?_
        refine e_74 (f_221 (pc := 121) (e := (121, 74, 154, 0, 0, 0, 0, 124)) rfl) (fun c17 => ?_) (fun c17 => ?_)
        · replace F := F.1 c17
          refine e_26 (f_221 (pc := 154) (e := (154, 26, 5, 1, 0, 0, 0, 157)) rfl) (w := 1) rfl rfl ?_
          refine e_80 (f_221 (pc := 157) (e := (157, 80, 51, 0, 0, 0, 0, 160)) rfl) ?_
          refine e_lo [0, 1, 2, 3, 4, 5] rfl ?_
          exact F
        · replace F := F.2 c17
          refine e_11 (f_221 (pc := 124) (e := (124, 11, 6, 0, 0, 0, 0, 126)) rfl) rfl ?_
          refine e_10 (f_221 (pc := 126) (e := (126, 10, 1, 0, 0, 0, 0, 127)) rfl) rfl ?_
          refine e_71 (f_221 (pc := 127) (e := (127, 71, 139, 0, 0, 0, 0, 130)) rfl) (fun c18 => ?_) (fun c18 => ?_)
          · replace F := F.1 c18
            refine e_11 (f_221 (pc := 139) (e := (139, 11, 6, 0, 0, 0, 0, 141)) rfl) rfl ?_
            refine e_20 (f_221 (pc := 141) (e := (141, 20, 1, 0, 0, 0, 0, 142)) rfl) ?_
            refine e_11 (f_221 (pc := 142) (e := (142, 11, 7, 0, 0, 0, 0, 144)) rfl) rfl ?_
            refine e_20 (f_221 (pc := 144) (e := (144, 20, 2, 0, 0, 0, 0, 145)) rfl) ?_
            refine e_1 (f_221 (pc := 145) (e := (145, 1, 10, 0, 0, 0, 0, 147)) rfl) (v := 10) rfl ?_
            refine e_11 (f_221 (pc := 147) (e := (147, 11, 4, 0, 0, 0, 0, 149)) rfl) rfl ?_
            refine e_32 (f_221 (pc := 149) (e := (149, 32, 0, 0, 0, 0, 0, 150)) rfl) ?_
            refine e_11 (f_221 (pc := 150) (e := (150, 11, 5, 0, 0, 0, 0, 152)) rfl) rfl ?_
            refine e_30 (f_221 (pc := 152) (e := (152, 30, 0, 0, 0, 0, 0, 153)) rfl) ?_
            refine e_20 (f_221 (pc := 153) (e := (153, 20, 3, 0, 0, 0, 0, 154)) rfl) ?_
            refine e_26 (f_221 (pc := 154) (e := (154, 26, 5, 1, 0, 0, 0, 157)) rfl) (w := 1) rfl rfl ?_
            refine e_80 (f_221 (pc := 157) (e := (157, 80, 51, 0, 0, 0, 0, 160)) rfl) ?_
            refine e_lo [0, 1, 2, 3, 4, 5] rfl ?_
            exact F
          · replace F := F.2 c18
            refine e_11 (f_221 (pc := 130) (e := (130, 11, 7, 0, 0, 0, 0, 132)) rfl) rfl ?_
            refine e_10 (f_221 (pc := 132) (e := (132, 10, 2, 0, 0, 0, 0, 133)) rfl) rfl ?_
            refine e_72 (f_221 (pc := 133) (e := (133, 72, 139, 0, 0, 0, 0, 136)) rfl) (fun c19 => ?_) (fun c19 => ?_)
            · replace F := F.1 c19
              refine e_11 (f_221 (pc := 139) (e := (139, 11, 6, 0, 0, 0, 0, 141)) rfl) rfl ?_
              refine e_20 (f_221 (pc := 141) (e := (141, 20, 1, 0, 0, 0, 0, 142)) rfl) ?_
              refine e_11 (f_221 (pc := 142) (e := (142, 11, 7, 0, 0, 0, 0, 144)) rfl) rfl ?_
              refine e_20 (f_221 (pc := 144) (e := (144, 20, 2, 0, 0, 0, 0, 145)) rfl) ?_
              refine e_1 (f_221 (pc := 145) (e := (145, 1, 10, 0, 0, 0, 0, 147)) rfl) (v := 10) rfl ?_
              refine e_11 (f_221 (pc := 147) (e := (147, 11, 4, 0, 0, 0, 0, 149)) rfl) rfl ?_
              refine e_32 (f_221 (pc := 149) (e := (149, 32, 0, 0, 0, 0, 0, 150)) rfl) ?_
              refine e_11 (f_221 (pc := 150) (e := (150, 11, 5, 0, 0, 0, 0, 152)) rfl) rfl ?_
              refine e_30 (f_221 (pc := 152) (e := (152, 30, 0, 0, 0, 0, 0, 153)) rfl) ?_
              refine e_20 (f_221 (pc := 153) (e := (153, 20, 3, 0, 0, 0, 0, 154)) rfl) ?_
              refine e_26 (f_221 (pc := 154) (e := (154, 26, 5, 1, 0, 0, 0, 157)) rfl) (w := 1) rfl rfl ?_
              refine e_80 (f_221 (pc := 157) (e := (157, 80, 51, 0, 0, 0, 0, 160)) rfl) ?_
              refine e_lo [0, 1, 2, 3, 4, 5] rfl ?_
              exact F
            · replace F := F.2 c19
              refine e_80 (f_221 (pc := 136) (e := (136, 80, 154, 0, 0, 0, 0, 139)) rfl) ?_
              refine e_26 (f_221 (pc := 154) (e := (154, 26, 5, 1, 0, 0, 0, 157)) rfl) (w := 1) rfl rfl ?_
              refine e_80 (f_221 (pc := 157) (e := (157, 80, 51, 0, 0, 0, 0, 160)) rfl) ?_
              refine e_lo [0, 1, 2, 3, 4, 5] rfl ?_
              exact F
      · replace F := F.2 c7
        refine e_80 (f_221 (pc := 80) (e := (80, 80, 154, 0, 0, 0, 0, 83)) rfl) ?_
        refine e_26 (f_221 (pc := 154) (e := (154, 26, 5, 1, 0, 0, 0, 157)) rfl) (w := 1) rfl rfl ?_
        refine e_80 (f_221 (pc := 157) (e := (157, 80, 51, 0, 0, 0, 0, 160)) rfl) ?_
        refine e_lo [0, 1, 2, 3, 4, 5] rfl ?_
        exact F

/-! operand()Z -/
set_option maxRecDepth 20000 in
theorem B_222_0 (hT : yLT T) (hR : yLR R) (F : yW l zSS D cy zFk z d 199 0 0 (fun r h' => ∃ r2 I1, r = some (yi r2) ∧ h' = (N, T, R, I1) ∧ (yW l zSS D cy zFk z d 196 0 0 (fun r h' => ∃ r4 I3, r = some (yi r4) ∧ h' = (N, T, R, I3) ∧ (yW l zSS D cy zFk z d 209 0 0 (fun r h' => ∃ r6 I5, r = some (yi r6) ∧ h' = (N, T, R, I5) ∧ ((r2 ≠ 0 → yW l zSS D cy zFk z (d + 1) 222 bc bs K 0 0 38 [(0, yr (some 102)), (1, yi r2), (2, yi r4), (3, yi r6)] [] (N, T, R, I5)) ∧ (¬ (r2 ≠ 0) → (r4 ≠ 0 → yW l zSS D cy zFk z (d + 1) 222 bc bs K 0 0 38 [(0, yr (some 102)), (1, yi r2), (2, yi r4), (3, yi r6)] [] (N, T, R, I5)) ∧ (¬ (r4 ≠ 0) → (0 ≤ r6 → yW l zSS D cy zFk z (d + 1) 222 bc bs K 0 0 38 [(0, yr (some 102)), (1, yi r2), (2, yi r4), (3, yi r6)] [] (N, T, R, I5)) ∧ (¬ (0 ≤ r6) → yW l zSS D cy zFk z d 159 0 0 (fun r h' => ∃ r11 I10, r = some (yi r11) ∧ h' = (N, T, R, I10) ∧ ((r11 = 0 ∨ r11 = 1) ∧ K (some (yi r11)) (N, T, R, I10))) 0 0 0 [(0, yr (some 102)), (1, yi 1)] [] (N, T, R, I5)))))) 0 0 0 [(0, yr (some 102))] [] (N, T, R, I3))) 0 0 0 [(0, yr (some 102)), (1, yi 40)] [] (N, T, R, I1))) 0 0 0 [(0, yr (some 102)), (1, yj 7237492)] [] (N, T, R, I)) :
    yW l zSS D cy zFk z (d + 1) 222 bc bs K 0 0 0 [(0, yr (some 102))] [] (N, T, R, I) := by
  refine e_12 (f_222 (pc := 0) (e := (0, 12, 0, 0, 0, 0, 0, 1)) rfl) rfl ?_
  refine e_5 (f_222 (pc := 1) (e := (1, 5, 7237492, 0, 0, 139, 1200, 4)) rfl) (v := 7237492) rfl ?_
  refine e_130 (f_222 (pc := 4) (e := (4, 130, 199, 0, 11, 204, 1238, 7)) rfl) zA (as := [yr (some 102), yj 7237492]) (rest := []) rfl rfl rfl rfl (Nat.le_of_ble_eq_true rfl) (Nat.le_of_ble_eq_true rfl) ⟨_, _, _, rfl, (hT 102 rfl)⟩ (mc := 0) (ms := 0) (Nat.zero_le _) (Nat.zero_le _) ?_
  refine e_K ?_ F
  rintro r h' ⟨r2, I1, rfl, rfl, F⟩
  refine e_20 (f_222 (pc := 7) (e := (7, 20, 1, 0, 0, 0, 0, 8)) rfl) ?_
  refine e_12 (f_222 (pc := 8) (e := (8, 12, 0, 0, 0, 0, 0, 9)) rfl) rfl ?_
  refine e_1 (f_222 (pc := 9) (e := (9, 1, 40, 0, 0, 0, 0, 11)) rfl) (v := 40) rfl ?_
  refine e_130 (f_222 (pc := 11) (e := (11, 130, 196, 0, 11, 184, 1242, 14)) rfl) zA (as := [yr (some 102), yi 40]) (rest := []) rfl rfl rfl rfl (Nat.le_of_ble_eq_true rfl) (Nat.le_of_ble_eq_true rfl) ⟨_, _, _, rfl, (hT 102 rfl)⟩ (mc := 0) (ms := 0) (Nat.zero_le _) (Nat.zero_le _) ?_
  refine e_K ?_ F
  rintro r h' ⟨r4, I3, rfl, rfl, F⟩
  refine e_20 (f_222 (pc := 14) (e := (14, 20, 2, 0, 0, 0, 0, 15)) rfl) ?_
  refine e_12 (f_222 (pc := 15) (e := (15, 12, 0, 0, 0, 0, 0, 16)) rfl) rfl ?_
  refine e_130 (f_222 (pc := 16) (e := (16, 130, 209, 0, 11, 426, 1292, 19)) rfl) zA (as := [yr (some 102)]) (rest := []) rfl rfl rfl rfl (Nat.le_of_ble_eq_true rfl) (Nat.le_of_ble_eq_true rfl) ⟨_, _, _, rfl, (hT 102 rfl)⟩ (mc := 0) (ms := 0) (Nat.zero_le _) (Nat.zero_le _) ?_
  refine e_K ?_ F
  rintro r h' ⟨r6, I5, rfl, rfl, F⟩
  refine e_20 (f_222 (pc := 19) (e := (19, 20, 3, 0, 0, 0, 0, 20)) rfl) ?_
  refine e_10 (f_222 (pc := 20) (e := (20, 10, 1, 0, 0, 0, 0, 21)) rfl) rfl ?_
  refine e_61 (f_222 (pc := 21) (e := (21, 61, 38, 0, 0, 0, 0, 24)) rfl) (fun c7 => ?_) (fun c7 => ?_)
  · replace F := F.1 c7
    refine e_lo [0, 1, 2, 3] rfl ?_
    exact F
  · replace F := F.2 c7
    refine e_10 (f_222 (pc := 24) (e := (24, 10, 2, 0, 0, 0, 0, 25)) rfl) rfl ?_
    refine e_61 (f_222 (pc := 25) (e := (25, 61, 38, 0, 0, 0, 0, 28)) rfl) (fun c8 => ?_) (fun c8 => ?_)
    · replace F := F.1 c8
      refine e_lo [0, 1, 2, 3] rfl ?_
      exact F
    · replace F := F.2 c8
      refine e_10 (f_222 (pc := 28) (e := (28, 10, 3, 0, 0, 0, 0, 29)) rfl) rfl ?_
      refine e_63 (f_222 (pc := 29) (e := (29, 63, 38, 0, 0, 0, 0, 32)) rfl) (fun c9 => ?_) (fun c9 => ?_)
      · replace F := F.1 c9
        refine e_lo [0, 1, 2, 3] rfl ?_
        exact F
      · replace F := F.2 c9
        refine e_12 (f_222 (pc := 32) (e := (32, 12, 0, 0, 0, 0, 0, 33)) rfl) rfl ?_
        refine e_0 (f_222 (pc := 33) (e := (33, 0, 1, 0, 0, 0, 0, 34)) rfl) (v := 1) rfl ?_
        refine e_130 (f_222 (pc := 34) (e := (34, 130, 159, 0, 11, 187, 1243, 37)) rfl) zA (as := [yr (some 102), yi 1]) (rest := []) rfl rfl rfl rfl (Nat.le_of_ble_eq_true rfl) (Nat.le_of_ble_eq_true rfl) ⟨_, _, _, rfl, (hT 102 rfl)⟩ (mc := 0) (ms := 0) (Nat.zero_le _) (Nat.zero_le _) ?_
        refine e_K ?_ F
        rintro r h' ⟨r11, I10, rfl, rfl, F⟩
        exact e_121 (f_222 (pc := 37) (e := (37, 121, 0, 0, 0, 0, 0, 38)) rfl) F.1 F.2
set_option maxRecDepth 20000 in
theorem B_222_38 (hT : yLT T) (hR : yLR R) {x1 x2 x3 : Int} (F : ((I 102 49) = 20 → yW l zSS D cy zFk z (d + 1) 222 bc bs K 0 0 56 [(0, yr (some 102))] [] (N, T, R, I)) ∧ (¬ ((I 102 49) = 20) → ((I 102 51) ≤ 8 → ∀ I3, I3 = yU I 102 49 (yadd (I 102 49) 1) → (yW l zSS D cy zFk z d 182 0 0 (fun r h' => ∃ I4, r = none ∧ h' = (N, T, R, I4) ∧ ((x1 ≠ 0 → yW l zSS D cy zFk z (d + 1) 222 bc bs K 0 0 84 [(0, yr (some 102)), (1, yi x1)] [] (N, T, R, I4)) ∧ (¬ (x1 ≠ 0) → (x2 = 0 → ∀ I7, I7 = yU I4 102 52 1 → ((2 ≤ x3 → (x3 ≠ 2 → ((I7 102 11) ≠ 3 → yW l zSS D cy zFk z (d + 1) 222 bc bs K 0 0 227 [(0, yr (some 102))] [] (N, T, R, I7)) ∧ (¬ ((I7 102 11) ≠ 3) → ((I7 102 14) < 60 → yW l zSS D cy zFk z (d + 1) 222 bc bs K 0 0 227 [(0, yr (some 102))] [] (N, T, R, I7)) ∧ (¬ ((I7 102 14) < 60) → ((I7 102 14) ≤ 62 → yW l zSS D cy zFk z d 182 0 0 (fun r h' => ∃ I13, r = none ∧ h' = (N, T, R, I13) ∧ (((I13 102 11) = 2 → yW l zSS D cy zFk z d 169 0 0 (fun r h' => ∃ I15, r = none ∧ h' = (N, T, R, I15) ∧ (yW l zSS D cy zFk z d 182 0 0 (fun r h' => ∃ I16, r = none ∧ h' = (N, T, R, I16) ∧ (K (some (yi 1)) (N, T, R, I16))) 0 0 0 [(0, yr (some 102))] [] (N, T, R, I15))) 0 0 0 [(0, yr (some 102)), (1, yi x3), (2, yi (I7 102 14)), (3, yi (I13 102 14))] [] (N, T, R, I13)) ∧ (¬ ((I13 102 11) = 2) → yW l zSS D cy zFk z d 159 0 0 (fun r h' => ∃ r18 I17, r = some (yi r18) ∧ h' = (N, T, R, I17) ∧ ((r18 = 0 ∨ r18 = 1) ∧ K (some (yi r18)) (N, T, R, I17))) 0 0 0 [(0, yr (some 102)), (1, yi 1)] [] (N, T, R, I13)))) 0 0 0 [(0, yr (some 102))] [] (N, T, R, I7)) ∧ (¬ ((I7 102 14) ≤ 62) → yW l zSS D cy zFk z (d + 1) 222 bc bs K 0 0 227 [(0, yr (some 102))] [] (N, T, R, I7))))) ∧ (¬ (x3 ≠ 2) → yW l zSS D cy zFk z d 194 0 0 (fun r h' => ∃ r20 I19, r = some (yi r20) ∧ h' = (N, T, R, I19) ∧ ((r20 ≠ 0 → yW l zSS D cy zFk z d 180 0 0 (fun r h' => ∃ r23 I22, r = some (yi r23) ∧ h' = (N, T, R, I22) ∧ ((0 ≤ r23 → yW l zSS D cy zFk z d 169 0 0 (fun r h' => ∃ I25, r = none ∧ h' = (N, T, R, I25) ∧ (yW l zSS D cy zFk z d 182 0 0 (fun r h' => ∃ I26, r = none ∧ h' = (N, T, R, I26) ∧ (K (some (yi 1)) (N, T, R, I26))) 0 0 0 [(0, yr (some 102))] [] (N, T, R, I25))) 0 0 0 [(0, yr (some 102)), (1, yi x3), (2, yi 0), (3, yi r23)] [] (N, T, R, I22)) ∧ (¬ (0 ≤ r23) → yW l zSS D cy zFk z d 159 0 0 (fun r h' => ∃ r28 I27, r = some (yi r28) ∧ h' = (N, T, R, I27) ∧ ((r28 = 0 ∨ r28 = 1) ∧ K (some (yi r28)) (N, T, R, I27))) 0 0 0 [(0, yr (some 102)), (1, yi 3)] [] (N, T, R, I22)))) 0 0 0 [(0, yr (some 102)), (1, yi 0), (2, yi (I19 104 2))] [] (N, T, R, I19)) ∧ (¬ (r20 ≠ 0) → yW l zSS D cy zFk z d 159 0 0 (fun r h' => ∃ r30 I29, r = some (yi r30) ∧ h' = (N, T, R, I29) ∧ ((r30 = 0 ∨ r30 = 1) ∧ K (some (yi r30)) (N, T, R, I29))) 0 0 0 [(0, yr (some 102)), (1, yi 1)] [] (N, T, R, I19)))) 0 0 0 [(0, yr (some 102))] [] (N, T, R, I7))) ∧ (¬ (2 ≤ x3) → yW l zSS D cy zFk z d 169 0 0 (fun r h' => ∃ I31, r = none ∧ h' = (N, T, R, I31) ∧ (K (some (yi 1)) (N, T, R, I31))) 0 0 0 [(0, yr (some 102)), (1, yi x3), (2, yi 0), (3, yi 0)] [] (N, T, R, I7)))) ∧ (¬ (x2 = 0) → yW l zSS D cy zFk z (d + 1) 222 bc bs K 0 0 84 [(0, yr (some 102)), (1, yi x1)] [] (N, T, R, I4))))) 0 0 0 [(0, yr (some 102))] [] (N, T, R, I3))) ∧ (¬ ((I 102 51) ≤ 8) → yW l zSS D cy zFk z (d + 1) 222 bc bs K 0 0 56 [(0, yr (some 102))] [] (N, T, R, I)))) :
    yW l zSS D cy zFk z (d + 1) 222 bc bs K 0 0 38 [(0, yr (some 102)), (1, yi x1), (2, yi x2), (3, yi x3)] [] (N, T, R, I) := by
  refine e_12 (f_222 (pc := 38) (e := (38, 12, 0, 0, 0, 0, 0, 39)) rfl) rfl ?_
  refine e_90 zA (f_222 (pc := 39) (e := (39, 90, 11, 49, 0, 429, 1293, 42)) rfl) rfl (hT 102 rfl) rfl rfl ?_
  refine e_1 (f_222 (pc := 42) (e := (42, 1, 20, 0, 0, 0, 0, 44)) rfl) (v := 20) rfl ?_
  refine e_70 (f_222 (pc := 44) (e := (44, 70, 56, 0, 0, 0, 0, 47)) rfl) (fun c1 => ?_) (fun c1 => ?_)
  · replace F := F.1 c1
    refine e_lo [0] rfl ?_
    exact F
  · replace F := F.2 c1
    refine e_12 (f_222 (pc := 47) (e := (47, 12, 0, 0, 0, 0, 0, 48)) rfl) rfl ?_
    refine e_90 zA (f_222 (pc := 48) (e := (48, 90, 11, 51, 0, 423, 1244, 51)) rfl) rfl (hT 102 rfl) rfl rfl ?_
    refine e_1 (f_222 (pc := 51) (e := (51, 1, 8, 0, 0, 0, 0, 53)) rfl) (v := 8) rfl ?_
    refine e_75 (f_222 (pc := 53) (e := (53, 75, 62, 0, 0, 0, 0, 56)) rfl) (fun c2 => ?_) (fun c2 => ?_)
    · replace F := F.1 c2
      refine e_12 (f_222 (pc := 62) (e := (62, 12, 0, 0, 0, 0, 0, 63)) rfl) rfl ?_
      refine e_50 (f_222 (pc := 63) (e := (63, 50, 0, 0, 0, 0, 0, 64)) rfl) rfl ?_
      refine e_90 zA (f_222 (pc := 64) (e := (64, 90, 11, 49, 0, 429, 1293, 67)) rfl) rfl (hT 102 rfl) rfl rfl ?_
      refine e_0 (f_222 (pc := 67) (e := (67, 0, 1, 0, 0, 0, 0, 68)) rfl) (v := 1) rfl ?_
      refine e_30 (f_222 (pc := 68) (e := (68, 30, 0, 0, 0, 0, 0, 69)) rfl) ?_
      refine e_91 zA (f_222 (pc := 69) (e := (69, 91, 11, 49, 0, 429, 1293, 72)) rfl) rfl (hT 102 rfl) rfl rfl trivial ?_
      replace F := F _ rfl
      refine e_12 (f_222 (pc := 72) (e := (72, 12, 0, 0, 0, 0, 0, 73)) rfl) rfl ?_
      refine e_130 (f_222 (pc := 73) (e := (73, 130, 182, 0, 11, 190, 1224, 76)) rfl) zA (as := [yr (some 102)]) (rest := []) rfl rfl rfl rfl (Nat.le_of_ble_eq_true rfl) (Nat.le_of_ble_eq_true rfl) ⟨_, _, _, rfl, (hT 102 rfl)⟩ (mc := 0) (ms := 0) (Nat.zero_le _) (Nat.zero_le _) ?_
      refine e_K ?_ F
      rintro r h' ⟨I4, rfl, rfl, F⟩
      refine e_10 (f_222 (pc := 76) (e := (76, 10, 1, 0, 0, 0, 0, 77)) rfl) rfl ?_
      refine e_61 (f_222 (pc := 77) (e := (77, 61, 84, 0, 0, 0, 0, 80)) rfl) (fun c5 => ?_) (fun c5 => ?_)
      · replace F := F.1 c5
        refine e_lo [0, 1] rfl ?_
        exact F
      · replace F := F.2 c5
        refine e_10 (f_222 (pc := 80) (e := (80, 10, 2, 0, 0, 0, 0, 81)) rfl) rfl ?_
        refine e_60 (f_222 (pc := 81) (e := (81, 60, 126, 0, 0, 0, 0, 84)) rfl) (fun c6 => ?_) (fun c6 => ?_)
        · replace F := F.1 c6
          refine e_12 (f_222 (pc := 126) (e := (126, 12, 0, 0, 0, 0, 0, 127)) rfl) rfl ?_
          refine e_0 (f_222 (pc := 127) (e := (127, 0, 1, 0, 0, 0, 0, 128)) rfl) (v := 1) rfl ?_
          refine e_91 zA (f_222 (pc := 128) (e := (128, 91, 11, 52, 2, 432, 1241, 131)) rfl) rfl (hT 102 rfl) rfl rfl (.inr rfl) ?_
          replace F := F _ rfl
          refine e_10 (f_222 (pc := 131) (e := (131, 10, 3, 0, 0, 0, 0, 132)) rfl) rfl ?_
          refine e_0 (f_222 (pc := 132) (e := (132, 0, 2, 0, 0, 0, 0, 133)) rfl) (v := 2) rfl ?_
          refine e_73 (f_222 (pc := 133) (e := (133, 73, 145, 0, 0, 0, 0, 136)) rfl) (fun c8 => ?_) (fun c8 => ?_)
          · replace F := F.1 c8
            refine e_10 (f_222 (pc := 145) (e := (145, 10, 3, 0, 0, 0, 0, 146)) rfl) rfl ?_
            refine e_0 (f_222 (pc := 146) (e := (146, 0, 2, 0, 0, 0, 0, 147)) rfl) (v := 2) rfl ?_
            refine e_71 (f_222 (pc := 147) (e := (147, 71, 201, 0, 0, 0, 0, 150)) rfl) (fun c9 => ?_) (fun c9 => ?_)
            · replace F := F.1 c9
              refine e_12 (f_222 (pc := 201) (e := (201, 12, 0, 0, 0, 0, 0, 202)) rfl) rfl ?_
              refine e_90 zA (f_222 (pc := 202) (e := (202, 90, 11, 11, 0, 161, 1225, 205)) rfl) rfl (hT 102 rfl) rfl rfl ?_
              refine e_0 (f_222 (pc := 205) (e := (205, 0, 3, 0, 0, 0, 0, 206)) rfl) (v := 3) rfl ?_
              refine e_71 (f_222 (pc := 206) (e := (206, 71, 227, 0, 0, 0, 0, 209)) rfl) (fun c10 => ?_) (fun c10 => ?_)
              · replace F := F.1 c10
                refine e_lo [0] rfl ?_
                exact F
              · replace F := F.2 c10
                refine e_12 (f_222 (pc := 209) (e := (209, 12, 0, 0, 0, 0, 0, 210)) rfl) rfl ?_
                refine e_90 zA (f_222 (pc := 210) (e := (210, 90, 11, 14, 0, 171, 1266, 213)) rfl) rfl (hT 102 rfl) rfl rfl ?_
                refine e_1 (f_222 (pc := 213) (e := (213, 1, 60, 0, 0, 0, 0, 215)) rfl) (v := 60) rfl ?_
                refine e_72 (f_222 (pc := 215) (e := (215, 72, 227, 0, 0, 0, 0, 218)) rfl) (fun c11 => ?_) (fun c11 => ?_)
                · replace F := F.1 c11
                  refine e_lo [0] rfl ?_
                  exact F
                · replace F := F.2 c11
                  refine e_12 (f_222 (pc := 218) (e := (218, 12, 0, 0, 0, 0, 0, 219)) rfl) rfl ?_
                  refine e_90 zA (f_222 (pc := 219) (e := (219, 90, 11, 14, 0, 171, 1266, 222)) rfl) rfl (hT 102 rfl) rfl rfl ?_
                  refine e_1 (f_222 (pc := 222) (e := (222, 1, 62, 0, 0, 0, 0, 224)) rfl) (v := 62) rfl ?_
                  refine e_75 (f_222 (pc := 224) (e := (224, 75, 233, 0, 0, 0, 0, 227)) rfl) (fun c12 => ?_) (fun c12 => ?_)
                  · replace F := F.1 c12
                    refine e_12 (f_222 (pc := 233) (e := (233, 12, 0, 0, 0, 0, 0, 234)) rfl) rfl ?_
                    refine e_90 zA (f_222 (pc := 234) (e := (234, 90, 11, 14, 0, 171, 1266, 237)) rfl) rfl (hT 102 rfl) rfl rfl ?_
                    refine e_21 (f_222 (pc := 237) (e := (237, 21, 4, 0, 0, 0, 0, 239)) rfl) ?_
                    refine e_12 (f_222 (pc := 239) (e := (239, 12, 0, 0, 0, 0, 0, 240)) rfl) rfl ?_
                    refine e_130 (f_222 (pc := 240) (e := (240, 130, 182, 0, 11, 190, 1224, 243)) rfl) zA (as := [yr (some 102)]) (rest := []) rfl rfl rfl rfl (Nat.le_of_ble_eq_true rfl) (Nat.le_of_ble_eq_true rfl) ⟨_, _, _, rfl, (hT 102 rfl)⟩ (mc := 0) (ms := 0) (Nat.zero_le _) (Nat.zero_le _) ?_
                    refine e_K ?_ F
                    rintro r h' ⟨I13, rfl, rfl, F⟩
                    refine e_12 (f_222 (pc := 243) (e := (243, 12, 0, 0, 0, 0, 0, 244)) rfl) rfl ?_
                    refine e_90 zA (f_222 (pc := 244) (e := (244, 90, 11, 11, 0, 161, 1225, 247)) rfl) rfl (hT 102 rfl) rfl rfl ?_
                    refine e_0 (f_222 (pc := 247) (e := (247, 0, 2, 0, 0, 0, 0, 248)) rfl) (v := 2) rfl ?_
                    refine e_70 (f_222 (pc := 248) (e := (248, 70, 257, 0, 0, 0, 0, 251)) rfl) (fun c14 => ?_) (fun c14 => ?_)
                    · replace F := F.1 c14
                      refine e_12 (f_222 (pc := 257) (e := (257, 12, 0, 0, 0, 0, 0, 258)) rfl) rfl ?_
                      refine e_10 (f_222 (pc := 258) (e := (258, 10, 3, 0, 0, 0, 0, 259)) rfl) rfl ?_
                      refine e_11 (f_222 (pc := 259) (e := (259, 11, 4, 0, 0, 0, 0, 261)) rfl) rfl ?_
                      refine e_12 (f_222 (pc := 261) (e := (261, 12, 0, 0, 0, 0, 0, 262)) rfl) rfl ?_
                      refine e_90 zA (f_222 (pc := 262) (e := (262, 90, 11, 14, 0, 171, 1266, 265)) rfl) rfl (hT 102 rfl) rfl rfl ?_
                      refine e_130 (f_222 (pc := 265) (e := (265, 130, 169, 0, 11, 420, 1271, 268)) rfl) zA (as := [yr (some 102), yi x3, yi _, yi _]) (rest := []) rfl rfl rfl rfl (Nat.le_of_ble_eq_true rfl) (Nat.le_of_ble_eq_true rfl) ⟨_, _, _, rfl, (hT 102 rfl)⟩ (mc := 0) (ms := 0) (Nat.zero_le _) (Nat.zero_le _) ?_
                      refine e_K ?_ F
                      rintro r h' ⟨I15, rfl, rfl, F⟩
                      refine e_12 (f_222 (pc := 268) (e := (268, 12, 0, 0, 0, 0, 0, 269)) rfl) rfl ?_
                      refine e_130 (f_222 (pc := 269) (e := (269, 130, 182, 0, 11, 190, 1224, 272)) rfl) zA (as := [yr (some 102)]) (rest := []) rfl rfl rfl rfl (Nat.le_of_ble_eq_true rfl) (Nat.le_of_ble_eq_true rfl) ⟨_, _, _, rfl, (hT 102 rfl)⟩ (mc := 0) (ms := 0) (Nat.zero_le _) (Nat.zero_le _) ?_
                      refine e_K ?_ F
                      rintro r h' ⟨I16, rfl, rfl, F⟩
                      refine e_0 (f_222 (pc := 272) (e := (272, 0, 1, 0, 0, 0, 0, 273)) rfl) (v := 1) rfl ?_
                      exact e_121 (f_222 (pc := 273) (e := (273, 121, 0, 0, 0, 0, 0, 0)) rfl) (.inr rfl) F
                    · replace F := F.2 c14
                      refine e_12 (f_222 (pc := 251) (e := (251, 12, 0, 0, 0, 0, 0, 252)) rfl) rfl ?_
                      refine e_0 (f_222 (pc := 252) (e := (252, 0, 1, 0, 0, 0, 0, 253)) rfl) (v := 1) rfl ?_
                      refine e_130 (f_222 (pc := 253) (e := (253, 130, 159, 0, 11, 187, 1243, 256)) rfl) zA (as := [yr (some 102), yi 1]) (rest := []) rfl rfl rfl rfl (Nat.le_of_ble_eq_true rfl) (Nat.le_of_ble_eq_true rfl) ⟨_, _, _, rfl, (hT 102 rfl)⟩ (mc := 0) (ms := 0) (Nat.zero_le _) (Nat.zero_le _) ?_
                      refine e_K ?_ F
                      rintro r h' ⟨r18, I17, rfl, rfl, F⟩
                      exact e_121 (f_222 (pc := 256) (e := (256, 121, 0, 0, 0, 0, 0, 257)) rfl) F.1 F.2
                  · replace F := F.2 c12
                    refine e_lo [0] rfl ?_
                    exact F
            · replace F := F.2 c9
              refine e_12 (f_222 (pc := 150) (e := (150, 12, 0, 0, 0, 0, 0, 151)) rfl) rfl ?_
              refine e_130 (f_222 (pc := 151) (e := (151, 130, 194, 0, 11, 228, 1286, 154)) rfl) zA (as := [yr (some 102)]) (rest := []) rfl rfl rfl rfl (Nat.le_of_ble_eq_true rfl) (Nat.le_of_ble_eq_true rfl) ⟨_, _, _, rfl, (hT 102 rfl)⟩ (mc := 0) (ms := 0) (Nat.zero_le _) (Nat.zero_le _) ?_
              refine e_K ?_ F
              rintro r h' ⟨r20, I19, rfl, rfl, F⟩
              refine e_61 (f_222 (pc := 154) (e := (154, 61, 163, 0, 0, 0, 0, 157)) rfl) (fun c21 => ?_) (fun c21 => ?_)
              · replace F := F.1 c21
                refine e_12 (f_222 (pc := 163) (e := (163, 12, 0, 0, 0, 0, 0, 164)) rfl) rfl ?_
                refine e_0 (f_222 (pc := 164) (e := (164, 0, 0, 0, 0, 0, 0, 165)) rfl) (v := 0) rfl ?_
                refine e_12 (f_222 (pc := 165) (e := (165, 12, 0, 0, 0, 0, 0, 166)) rfl) rfl ?_
                refine e_90r zA (f_222 (pc := 166) (e := (166, 90, 11, 6, 3, 33, 1159, 169)) rfl) rfl (hT 102 rfl) rfl rfl (hR 102 6 rfl) ?_
                refine e_0 (f_222 (pc := 169) (e := (169, 0, 2, 0, 0, 0, 0, 170)) rfl) (v := 2) rfl ?_
                refine e_110 (f_222 (pc := 170) (e := (170, 110, 0, 0, 0, 0, 0, 171)) rfl) rfl (hT 104 rfl) (by decide) (by decide) ?_
                refine e_130 (f_222 (pc := 171) (e := (171, 130, 180, 0, 11, 231, 1287, 174)) rfl) zA (as := [yr (some 102), yi 0, yi _]) (rest := []) rfl rfl rfl rfl (Nat.le_of_ble_eq_true rfl) (Nat.le_of_ble_eq_true rfl) ⟨_, _, _, rfl, (hT 102 rfl)⟩ (mc := 0) (ms := 0) (Nat.zero_le _) (Nat.zero_le _) ?_
                refine e_K ?_ F
                rintro r h' ⟨r23, I22, rfl, rfl, F⟩
                refine e_21 (f_222 (pc := 174) (e := (174, 21, 4, 0, 0, 0, 0, 176)) rfl) ?_
                refine e_11 (f_222 (pc := 176) (e := (176, 11, 4, 0, 0, 0, 0, 178)) rfl) rfl ?_
                refine e_63 (f_222 (pc := 178) (e := (178, 63, 187, 0, 0, 0, 0, 181)) rfl) (fun c24 => ?_) (fun c24 => ?_)
                · replace F := F.1 c24
                  refine e_12 (f_222 (pc := 187) (e := (187, 12, 0, 0, 0, 0, 0, 188)) rfl) rfl ?_
                  refine e_10 (f_222 (pc := 188) (e := (188, 10, 3, 0, 0, 0, 0, 189)) rfl) rfl ?_
                  refine e_0 (f_222 (pc := 189) (e := (189, 0, 0, 0, 0, 0, 0, 190)) rfl) (v := 0) rfl ?_
                  refine e_11 (f_222 (pc := 190) (e := (190, 11, 4, 0, 0, 0, 0, 192)) rfl) rfl ?_
                  refine e_130 (f_222 (pc := 192) (e := (192, 130, 169, 0, 11, 420, 1271, 195)) rfl) zA (as := [yr (some 102), yi x3, yi 0, yi r23]) (rest := []) rfl rfl rfl rfl (Nat.le_of_ble_eq_true rfl) (Nat.le_of_ble_eq_true rfl) ⟨_, _, _, rfl, (hT 102 rfl)⟩ (mc := 0) (ms := 0) (Nat.zero_le _) (Nat.zero_le _) ?_
                  refine e_K ?_ F
                  rintro r h' ⟨I25, rfl, rfl, F⟩
                  refine e_12 (f_222 (pc := 195) (e := (195, 12, 0, 0, 0, 0, 0, 196)) rfl) rfl ?_
                  refine e_130 (f_222 (pc := 196) (e := (196, 130, 182, 0, 11, 190, 1224, 199)) rfl) zA (as := [yr (some 102)]) (rest := []) rfl rfl rfl rfl (Nat.le_of_ble_eq_true rfl) (Nat.le_of_ble_eq_true rfl) ⟨_, _, _, rfl, (hT 102 rfl)⟩ (mc := 0) (ms := 0) (Nat.zero_le _) (Nat.zero_le _) ?_
                  refine e_K ?_ F
                  rintro r h' ⟨I26, rfl, rfl, F⟩
                  refine e_0 (f_222 (pc := 199) (e := (199, 0, 1, 0, 0, 0, 0, 200)) rfl) (v := 1) rfl ?_
                  exact e_121 (f_222 (pc := 200) (e := (200, 121, 0, 0, 0, 0, 0, 201)) rfl) (.inr rfl) F
                · replace F := F.2 c24
                  refine e_12 (f_222 (pc := 181) (e := (181, 12, 0, 0, 0, 0, 0, 182)) rfl) rfl ?_
                  refine e_0 (f_222 (pc := 182) (e := (182, 0, 3, 0, 0, 0, 0, 183)) rfl) (v := 3) rfl ?_
                  refine e_130 (f_222 (pc := 183) (e := (183, 130, 159, 0, 11, 187, 1243, 186)) rfl) zA (as := [yr (some 102), yi 3]) (rest := []) rfl rfl rfl rfl (Nat.le_of_ble_eq_true rfl) (Nat.le_of_ble_eq_true rfl) ⟨_, _, _, rfl, (hT 102 rfl)⟩ (mc := 0) (ms := 0) (Nat.zero_le _) (Nat.zero_le _) ?_
                  refine e_K ?_ F
                  rintro r h' ⟨r28, I27, rfl, rfl, F⟩
                  exact e_121 (f_222 (pc := 186) (e := (186, 121, 0, 0, 0, 0, 0, 187)) rfl) F.1 F.2
              · replace F := F.2 c21
                refine e_12 (f_222 (pc := 157) (e := (157, 12, 0, 0, 0, 0, 0, 158)) rfl) rfl ?_
                refine e_0 (f_222 (pc := 158) (e := (158, 0, 1, 0, 0, 0, 0, 159)) rfl) (v := 1) rfl ?_
                refine e_130 (f_222 (pc := 159) (e := (159, 130, 159, 0, 11, 187, 1243, 162)) rfl) zA (as := [yr (some 102), yi 1]) (rest := []) rfl rfl rfl rfl (Nat.le_of_ble_eq_true rfl) (Nat.le_of_ble_eq_true rfl) ⟨_, _, _, rfl, (hT 102 rfl)⟩ (mc := 0) (ms := 0) (Nat.zero_le _) (Nat.zero_le _) ?_
                refine e_K ?_ F
                rintro r h' ⟨r30, I29, rfl, rfl, F⟩
                exact e_121 (f_222 (pc := 162) (e := (162, 121, 0, 0, 0, 0, 0, 163)) rfl) F.1 F.2
          · replace F := F.2 c8
            refine e_12 (f_222 (pc := 136) (e := (136, 12, 0, 0, 0, 0, 0, 137)) rfl) rfl ?_
            refine e_10 (f_222 (pc := 137) (e := (137, 10, 3, 0, 0, 0, 0, 138)) rfl) rfl ?_
            refine e_0 (f_222 (pc := 138) (e := (138, 0, 0, 0, 0, 0, 0, 139)) rfl) (v := 0) rfl ?_
            refine e_0 (f_222 (pc := 139) (e := (139, 0, 0, 0, 0, 0, 0, 140)) rfl) (v := 0) rfl ?_
            refine e_130 (f_222 (pc := 140) (e := (140, 130, 169, 0, 11, 420, 1271, 143)) rfl) zA (as := [yr (some 102), yi x3, yi 0, yi 0]) (rest := []) rfl rfl rfl rfl (Nat.le_of_ble_eq_true rfl) (Nat.le_of_ble_eq_true rfl) ⟨_, _, _, rfl, (hT 102 rfl)⟩ (mc := 0) (ms := 0) (Nat.zero_le _) (Nat.zero_le _) ?_
            refine e_K ?_ F
            rintro r h' ⟨I31, rfl, rfl, F⟩
            refine e_0 (f_222 (pc := 143) (e := (143, 0, 1, 0, 0, 0, 0, 144)) rfl) (v := 1) rfl ?_
            exact e_121 (f_222 (pc := 144) (e := (144, 121, 0, 0, 0, 0, 0, 145)) rfl) (.inr rfl) F
        · replace F := F.2 c6
          refine e_lo [0, 1] rfl ?_
          exact F
    · replace F := F.2 c2
      refine e_lo [0] rfl ?_
      exact F
set_option maxRecDepth 20000 in
theorem B_222_56 (hT : yLT T) (hR : yLR R) (F : yW l zSS D cy zFk z d 159 0 0 (fun r h' => ∃ r2 I1, r = some (yi r2) ∧ h' = (N, T, R, I1) ∧ ((r2 = 0 ∨ r2 = 1) ∧ K (some (yi r2)) (N, T, R, I1))) 0 0 0 [(0, yr (some 102)), (1, yi 4)] [] (N, T, R, I)) :
    yW l zSS D cy zFk z (d + 1) 222 bc bs K 0 0 56 [(0, yr (some 102))] [] (N, T, R, I) := by
  refine e_12 (f_222 (pc := 56) (e := (56, 12, 0, 0, 0, 0, 0, 57)) rfl) rfl ?_
  refine e_0 (f_222 (pc := 57) (e := (57, 0, 4, 0, 0, 0, 0, 58)) rfl) (v := 4) rfl ?_
  refine e_130 (f_222 (pc := 58) (e := (58, 130, 159, 0, 11, 187, 1243, 61)) rfl) zA (as := [yr (some 102), yi 4]) (rest := []) rfl rfl rfl rfl (Nat.le_of_ble_eq_true rfl) (Nat.le_of_ble_eq_true rfl) ⟨_, _, _, rfl, (hT 102 rfl)⟩ (mc := 0) (ms := 0) (Nat.zero_le _) (Nat.zero_le _) ?_
  refine e_K ?_ F
  rintro r h' ⟨r2, I1, rfl, rfl, F⟩
  exact e_121 (f_222 (pc := 61) (e := (61, 121, 0, 0, 0, 0, 0, 62)) rfl) F.1 F.2
set_option maxRecDepth 20000 in
theorem B_222_84 (hT : yLT T) (hR : yLR R) {x1 : Int} (F : (x1 = 0 → 0 ≤ (I 102 50) ∧ (I 102 50) < 45 ∧ (∀ I4, I4 = yU I 121 ((I 102 50).toNat) (ynar 1 23) → (∀ I5, I5 = yU I4 102 50 (yadd (I4 102 50) 1) → (∀ I6, I6 = yU I5 102 51 (yadd (I5 102 51) 1) → (K (some (yi 1)) (N, T, R, I6)))))) ∧ (¬ (x1 = 0) → 0 ≤ (I 102 50) ∧ (I 102 50) < 45 ∧ (∀ I9, I9 = yU I 121 ((I 102 50).toNat) (ynar 1 20) → (∀ I10, I10 = yU I9 102 50 (yadd (I9 102 50) 1) → (∀ I11, I11 = yU I10 102 51 (yadd (I10 102 51) 1) → (K (some (yi 1)) (N, T, R, I11))))))) :
    yW l zSS D cy zFk z d 222 bc bs K 0 0 84 [(0, yr (some 102)), (1, yi x1)] [] (N, T, R, I) := by
  refine e_12 (f_222 (pc := 84) (e := (84, 12, 0, 0, 0, 0, 0, 85)) rfl) rfl ?_
  refine e_90r zA (f_222 (pc := 85) (e := (85, 90, 11, 47, 3, 87, 1177, 88)) rfl) rfl (hT 102 rfl) rfl rfl (hR 102 47 rfl) ?_
  refine e_12 (f_222 (pc := 88) (e := (88, 12, 0, 0, 0, 0, 0, 89)) rfl) rfl ?_
  refine e_90 zA (f_222 (pc := 89) (e := (89, 90, 11, 50, 0, 417, 1240, 92)) rfl) rfl (hT 102 rfl) rfl rfl ?_
  refine e_10 (f_222 (pc := 92) (e := (92, 10, 1, 0, 0, 0, 0, 93)) rfl) rfl ?_
  refine e_60 (f_222 (pc := 93) (e := (93, 60, 101, 0, 0, 0, 0, 96)) rfl) (fun c1 => ?_) (fun c1 => ?_)
  · replace F := F.1 c1
    refine e_1 (f_222 (pc := 101) (e := (101, 1, 23, 0, 0, 0, 0, 103)) rfl) (v := 23) rfl ?_
    obtain ⟨b2, b3, F⟩ := F
    refine e_111 (f_222 (pc := 103) (e := (103, 111, 0, 0, 0, 0, 0, 104)) rfl) rfl (hT 121 rfl) b2 b3 ?_
    replace F := F _ rfl
    refine e_12 (f_222 (pc := 104) (e := (104, 12, 0, 0, 0, 0, 0, 105)) rfl) rfl ?_
    refine e_50 (f_222 (pc := 105) (e := (105, 50, 0, 0, 0, 0, 0, 106)) rfl) rfl ?_
    refine e_90 zA (f_222 (pc := 106) (e := (106, 90, 11, 50, 0, 417, 1240, 109)) rfl) rfl (hT 102 rfl) rfl rfl ?_
    refine e_0 (f_222 (pc := 109) (e := (109, 0, 1, 0, 0, 0, 0, 110)) rfl) (v := 1) rfl ?_
    refine e_30 (f_222 (pc := 110) (e := (110, 30, 0, 0, 0, 0, 0, 111)) rfl) ?_
    refine e_91 zA (f_222 (pc := 111) (e := (111, 91, 11, 50, 0, 417, 1240, 114)) rfl) rfl (hT 102 rfl) rfl rfl trivial ?_
    replace F := F _ rfl
    refine e_12 (f_222 (pc := 114) (e := (114, 12, 0, 0, 0, 0, 0, 115)) rfl) rfl ?_
    refine e_50 (f_222 (pc := 115) (e := (115, 50, 0, 0, 0, 0, 0, 116)) rfl) rfl ?_
    refine e_90 zA (f_222 (pc := 116) (e := (116, 90, 11, 51, 0, 423, 1244, 119)) rfl) rfl (hT 102 rfl) rfl rfl ?_
    refine e_0 (f_222 (pc := 119) (e := (119, 0, 1, 0, 0, 0, 0, 120)) rfl) (v := 1) rfl ?_
    refine e_30 (f_222 (pc := 120) (e := (120, 30, 0, 0, 0, 0, 0, 121)) rfl) ?_
    refine e_91 zA (f_222 (pc := 121) (e := (121, 91, 11, 51, 0, 423, 1244, 124)) rfl) rfl (hT 102 rfl) rfl rfl trivial ?_
    replace F := F _ rfl
    refine e_0 (f_222 (pc := 124) (e := (124, 0, 1, 0, 0, 0, 0, 125)) rfl) (v := 1) rfl ?_
    exact e_121 (f_222 (pc := 125) (e := (125, 121, 0, 0, 0, 0, 0, 126)) rfl) (.inr rfl) F
  · replace F := F.2 c1
    refine e_1 (f_222 (pc := 96) (e := (96, 1, 20, 0, 0, 0, 0, 98)) rfl) (v := 20) rfl ?_
    refine e_80 (f_222 (pc := 98) (e := (98, 80, 103, 0, 0, 0, 0, 101)) rfl) ?_
    obtain ⟨b7, b8, F⟩ := F
    refine e_111 (f_222 (pc := 103) (e := (103, 111, 0, 0, 0, 0, 0, 104)) rfl) rfl (hT 121 rfl) b7 b8 ?_
    replace F := F _ rfl
    refine e_12 (f_222 (pc := 104) (e := (104, 12, 0, 0, 0, 0, 0, 105)) rfl) rfl ?_
    refine e_50 (f_222 (pc := 105) (e := (105, 50, 0, 0, 0, 0, 0, 106)) rfl) rfl ?_
    refine e_90 zA (f_222 (pc := 106) (e := (106, 90, 11, 50, 0, 417, 1240, 109)) rfl) rfl (hT 102 rfl) rfl rfl ?_
    refine e_0 (f_222 (pc := 109) (e := (109, 0, 1, 0, 0, 0, 0, 110)) rfl) (v := 1) rfl ?_
    refine e_30 (f_222 (pc := 110) (e := (110, 30, 0, 0, 0, 0, 0, 111)) rfl) ?_
    refine e_91 zA (f_222 (pc := 111) (e := (111, 91, 11, 50, 0, 417, 1240, 114)) rfl) rfl (hT 102 rfl) rfl rfl trivial ?_
    replace F := F _ rfl
    refine e_12 (f_222 (pc := 114) (e := (114, 12, 0, 0, 0, 0, 0, 115)) rfl) rfl ?_
    refine e_50 (f_222 (pc := 115) (e := (115, 50, 0, 0, 0, 0, 0, 116)) rfl) rfl ?_
    refine e_90 zA (f_222 (pc := 116) (e := (116, 90, 11, 51, 0, 423, 1244, 119)) rfl) rfl (hT 102 rfl) rfl rfl ?_
    refine e_0 (f_222 (pc := 119) (e := (119, 0, 1, 0, 0, 0, 0, 120)) rfl) (v := 1) rfl ?_
    refine e_30 (f_222 (pc := 120) (e := (120, 30, 0, 0, 0, 0, 0, 121)) rfl) ?_
    refine e_91 zA (f_222 (pc := 121) (e := (121, 91, 11, 51, 0, 423, 1244, 124)) rfl) rfl (hT 102 rfl) rfl rfl trivial ?_
    replace F := F _ rfl
    refine e_0 (f_222 (pc := 124) (e := (124, 0, 1, 0, 0, 0, 0, 125)) rfl) (v := 1) rfl ?_
    exact e_121 (f_222 (pc := 125) (e := (125, 121, 0, 0, 0, 0, 0, 126)) rfl) (.inr rfl) F
set_option maxRecDepth 20000 in
theorem B_222_227 (hT : yLT T) (hR : yLR R) (F : yW l zSS D cy zFk z d 159 0 0 (fun r h' => ∃ r2 I1, r = some (yi r2) ∧ h' = (N, T, R, I1) ∧ ((r2 = 0 ∨ r2 = 1) ∧ K (some (yi r2)) (N, T, R, I1))) 0 0 0 [(0, yr (some 102)), (1, yi 1)] [] (N, T, R, I)) :
    yW l zSS D cy zFk z (d + 1) 222 bc bs K 0 0 227 [(0, yr (some 102))] [] (N, T, R, I) := by
  refine e_12 (f_222 (pc := 227) (e := (227, 12, 0, 0, 0, 0, 0, 228)) rfl) rfl ?_
  refine e_0 (f_222 (pc := 228) (e := (228, 0, 1, 0, 0, 0, 0, 229)) rfl) (v := 1) rfl ?_
  refine e_130 (f_222 (pc := 229) (e := (229, 130, 159, 0, 11, 187, 1243, 232)) rfl) zA (as := [yr (some 102), yi 1]) (rest := []) rfl rfl rfl rfl (Nat.le_of_ble_eq_true rfl) (Nat.le_of_ble_eq_true rfl) ⟨_, _, _, rfl, (hT 102 rfl)⟩ (mc := 0) (ms := 0) (Nat.zero_le _) (Nat.zero_le _) ?_
  refine e_K ?_ F
  rintro r h' ⟨r2, I1, rfl, rfl, F⟩
  exact e_121 (f_222 (pc := 232) (e := (232, 121, 0, 0, 0, 0, 0, 233)) rfl) F.1 F.2

/-! order(I)I -/
set_option maxRecDepth 20000 in
theorem B_223_0 (hT : yLT T) (hR : yLR R) {x1 : Int} (F : ∀ I1, I1 = yU I 102 0 0 → (yW l zSS D cy zFk z d 224 0 0 (fun r h' => ∃ I2, r = none ∧ h' = (N, T, R, I2) ∧ (yW l zSS D cy zFk z d 191 0 0 (fun r h' => ∃ r4 I3, r = some (yi r4) ∧ h' = (N, T, R, I3) ∧ ((r4 = 0 → K (some (yi (-1))) (N, T, R, I3)) ∧ (¬ (r4 = 0) → 0 ≤ x1 ∧ x1 < 8 ∧ (K (some (yi (I3 111 x1.toNat))) (N, T, R, I3))))) 0 0 0 [(0, yi x1), (1, yi 0), (2, yi (ysub (I2 104 2) 1))] [] (N, T, R, I2))) 0 0 0 [(0, yr (some 102))] [] (N, T, R, I1))) :
    yW l zSS D cy zFk z (d + 1) 223 bc bs K 0 0 0 [(0, yr (some 102)), (1, yi x1)] [] (N, T, R, I) := by
  refine e_12 (f_223 (pc := 0) (e := (0, 12, 0, 0, 0, 0, 0, 1)) rfl) rfl ?_
  refine e_0 (f_223 (pc := 1) (e := (1, 0, 0, 0, 0, 0, 0, 2)) rfl) (v := 0) rfl ?_
  refine e_91 zA (f_223 (pc := 2) (e := (2, 91, 11, 0, 0, 1, 1216, 5)) rfl) rfl (hT 102 rfl) rfl rfl trivial ?_
  replace F := F _ rfl
  refine e_12 (f_223 (pc := 5) (e := (5, 12, 0, 0, 0, 0, 0, 6)) rfl) rfl ?_
  refine e_130 (f_223 (pc := 6) (e := (6, 130, 224, 0, 11, 298, 1289, 9)) rfl) zA (as := [yr (some 102)]) (rest := []) rfl rfl rfl rfl (Nat.le_of_ble_eq_true rfl) (Nat.le_of_ble_eq_true rfl) ⟨_, _, _, rfl, (hT 102 rfl)⟩ (mc := 0) (ms := 0) (Nat.zero_le _) (Nat.zero_le _) ?_
  refine e_K ?_ F
  rintro r h' ⟨I2, rfl, rfl, F⟩
  refine e_10 (f_223 (pc := 9) (e := (9, 10, 1, 0, 0, 0, 0, 10)) rfl) rfl ?_
  refine e_0 (f_223 (pc := 10) (e := (10, 0, 0, 0, 0, 0, 0, 11)) rfl) (v := 0) rfl ?_
  refine e_12 (f_223 (pc := 11) (e := (11, 12, 0, 0, 0, 0, 0, 12)) rfl) rfl ?_
  refine e_90r zA (f_223 (pc := 12) (e := (12, 90, 11, 6, 3, 33, 1159, 15)) rfl) rfl (hT 102 rfl) rfl rfl (hR 102 6 rfl) ?_
  refine e_0 (f_223 (pc := 15) (e := (15, 0, 2, 0, 0, 0, 0, 16)) rfl) (v := 2) rfl ?_
  refine e_110 (f_223 (pc := 16) (e := (16, 110, 0, 0, 0, 0, 0, 17)) rfl) rfl (hT 104 rfl) (by decide) (by decide) ?_
  refine e_0 (f_223 (pc := 17) (e := (17, 0, 1, 0, 0, 0, 0, 18)) rfl) (v := 1) rfl ?_
  refine e_31 (f_223 (pc := 18) (e := (18, 31, 0, 0, 0, 0, 0, 19)) rfl) ?_
  refine e_132 (f_223 (pc := 19) (e := (19, 132, 191, 2, 11, 193, 1245, 22)) rfl) zA (as := [yi x1, yi 0, yi _]) (rest := []) rfl rfl rfl rfl (Nat.le_of_ble_eq_true rfl) (Nat.le_of_ble_eq_true rfl) (mc := 0) (ms := 0) (Nat.zero_le _) (Nat.zero_le _) ?_
  refine e_K ?_ F
  rintro r h' ⟨r4, I3, rfl, rfl, F⟩
  refine e_60 (f_223 (pc := 22) (e := (22, 60, 34, 0, 0, 0, 0, 25)) rfl) (fun c5 => ?_) (fun c5 => ?_)
  · replace F := F.1 c5
    refine e_0 (f_223 (pc := 34) (e := (34, 0, 4294967295, 0, 0, 0, 0, 35)) rfl) (v := (-1)) rfl ?_
    exact e_120 (f_223 (pc := 35) (e := (35, 120, 0, 0, 0, 0, 0, 0)) rfl) F
  · replace F := F.2 c5
    refine e_12 (f_223 (pc := 25) (e := (25, 12, 0, 0, 0, 0, 0, 26)) rfl) rfl ?_
    refine e_90r zA (f_223 (pc := 26) (e := (26, 90, 11, 26, 3, 56, 1166, 29)) rfl) rfl (hT 102 rfl) rfl rfl (hR 102 26 rfl) ?_
    refine e_10 (f_223 (pc := 29) (e := (29, 10, 1, 0, 0, 0, 0, 30)) rfl) rfl ?_
    obtain ⟨b6, b7, F⟩ := F
    refine e_110 (f_223 (pc := 30) (e := (30, 110, 0, 0, 0, 0, 0, 31)) rfl) rfl (hT 111 rfl) b6 b7 ?_
    refine e_80 (f_223 (pc := 31) (e := (31, 80, 35, 0, 0, 0, 0, 34)) rfl) ?_
    exact e_120 (f_223 (pc := 35) (e := (35, 120, 0, 0, 0, 0, 0, 0)) rfl) F

/-! orders()V -/
set_option maxRecDepth 20000 in
theorem B_224_0 (hT : yLT T) (hR : yLR R) (F : yW l zSS D cy zFk z d 224 bc bs K 0 0 2 [(0, yr (some 102)), (1, yi 0)] [] (N, T, R, I)) :
    yW l zSS D cy zFk z d 224 bc bs K 0 0 0 [(0, yr (some 102))] [] (N, T, R, I) := by
  refine e_0 (f_224 (pc := 0) (e := (0, 0, 0, 0, 0, 0, 0, 1)) rfl) (v := 0) rfl ?_
  refine e_20 (f_224 (pc := 1) (e := (1, 20, 1, 0, 0, 0, 0, 2)) rfl) ?_
  refine e_lo [0, 1] rfl ?_
  exact F
set_option maxRecDepth 20000 in
theorem B_224_2 (hT : yLT T) (hR : yLR R) {x1 : Int} (F : ((I 104 2) ≤ x1 → K none (N, T, R, I)) ∧ (¬ ((I 104 2) ≤ x1) → yW l zSS D cy zFk z d 224 bc bs K 0 0 16 [(0, yr (some 102)), (1, yi x1), (2, yi 0), (3, yi 0)] [] (N, T, R, I))) :
    yW l zSS D cy zFk z d 224 bc bs K 0 0 2 [(0, yr (some 102)), (1, yi x1)] [] (N, T, R, I) := by
  refine e_10 (f_224 (pc := 2) (e := (2, 10, 1, 0, 0, 0, 0, 3)) rfl) rfl ?_
  refine e_12 (f_224 (pc := 3) (e := (3, 12, 0, 0, 0, 0, 0, 4)) rfl) rfl ?_
  refine e_90r zA (f_224 (pc := 4) (e := (4, 90, 11, 6, 3, 33, 1159, 7)) rfl) rfl (hT 102 rfl) rfl rfl (hR 102 6 rfl) ?_
  refine e_0 (f_224 (pc := 7) (e := (7, 0, 2, 0, 0, 0, 0, 8)) rfl) (v := 2) rfl ?_
  refine e_110 (f_224 (pc := 8) (e := (8, 110, 0, 0, 0, 0, 0, 9)) rfl) rfl (hT 104 rfl) (by decide) (by decide) ?_
  refine e_73 (f_224 (pc := 9) (e := (9, 73, 74, 0, 0, 0, 0, 12)) rfl) (fun c1 => ?_) (fun c1 => ?_)
  · replace F := F.1 c1
    exact e_122 (f_224 (pc := 74) (e := (74, 122, 0, 0, 0, 0, 0, 0)) rfl) F
  · replace F := F.2 c1
    refine e_0 (f_224 (pc := 12) (e := (12, 0, 0, 0, 0, 0, 0, 13)) rfl) (v := 0) rfl ?_
    refine e_20 (f_224 (pc := 13) (e := (13, 20, 2, 0, 0, 0, 0, 14)) rfl) ?_
    refine e_0 (f_224 (pc := 14) (e := (14, 0, 0, 0, 0, 0, 0, 15)) rfl) (v := 0) rfl ?_
    refine e_20 (f_224 (pc := 15) (e := (15, 20, 3, 0, 0, 0, 0, 16)) rfl) ?_
    refine e_lo [0, 1, 2, 3] rfl ?_
    exact F
set_option maxRecDepth 20000 in
theorem B_224_16 (hT : yLT T) (hR : yLR R) {x1 x2 x3 : Int} (F : ((I 104 2) ≤ x3 → 0 ≤ x2 ∧ x2 < 8 ∧ (∀ I4, I4 = yU I 111 x2.toNat (ynar 1 x1) → (0 ≤ x1 ∧ x1 < 8 ∧ (∀ I7, I7 = yU I4 112 x1.toNat (ynar 1 x2) → (yW l zSS D cy zFk z (d + 1) 224 bc bs K 0 0 2 [(0, yr (some 102)), (1, yi (yadd x1 1))] [] (N, T, R, I7)))))) ∧ (¬ ((I 104 2) ≤ x3) → (x3 = x1 → yW l zSS D cy zFk z (d + 1) 224 bc bs K 0 0 16 [(0, yr (some 102)), (1, yi x1), (2, yi (yadd x2 0)), (3, yi (yadd x3 1))] [] (N, T, R, I)) ∧ (¬ (x3 = x1) → yW l zSS D cy zFk z d 186 0 0 (fun r h' => ∃ r10 I9, r = some (yi r10) ∧ h' = (N, T, R, I9) ∧ ((r10 = 0 → yW l zSS D cy zFk z (d + 1) 224 bc bs K 0 0 16 [(0, yr (some 102)), (1, yi x1), (2, yi (yadd x2 0)), (3, yi (yadd x3 1))] [] (N, T, R, I9)) ∧ (¬ (r10 = 0) → yW l zSS D cy zFk z (d + 1) 224 bc bs K 0 0 16 [(0, yr (some 102)), (1, yi x1), (2, yi (yadd x2 1)), (3, yi (yadd x3 1))] [] (N, T, R, I9)))) 0 0 0 [(0, yr (some 102)), (1, yi x3), (2, yi x1)] [] (N, T, R, I)))) :
    yW l zSS D cy zFk z (d + 1) 224 bc bs K 0 0 16 [(0, yr (some 102)), (1, yi x1), (2, yi x2), (3, yi x3)] [] (N, T, R, I) := by
  refine e_10 (f_224 (pc := 16) (e := (16, 10, 3, 0, 0, 0, 0, 17)) rfl) rfl ?_
  refine e_12 (f_224 (pc := 17) (e := (17, 12, 0, 0, 0, 0, 0, 18)) rfl) rfl ?_
  refine e_90r zA (f_224 (pc := 18) (e := (18, 90, 11, 6, 3, 33, 1159, 21)) rfl) rfl (hT 102 rfl) rfl rfl (hR 102 6 rfl) ?_
  refine e_0 (f_224 (pc := 21) (e := (21, 0, 2, 0, 0, 0, 0, 22)) rfl) (v := 2) rfl ?_
  refine e_110 (f_224 (pc := 22) (e := (22, 110, 0, 0, 0, 0, 0, 23)) rfl) rfl (hT 104 rfl) (by decide) (by decide) ?_
  refine e_73 (f_224 (pc := 23) (e := (23, 73, 54, 0, 0, 0, 0, 26)) rfl) (fun c1 => ?_) (fun c1 => ?_)
  · replace F := F.1 c1
    refine e_12 (f_224 (pc := 54) (e := (54, 12, 0, 0, 0, 0, 0, 55)) rfl) rfl ?_
    refine e_90r zA (f_224 (pc := 55) (e := (55, 90, 11, 26, 3, 56, 1166, 58)) rfl) rfl (hT 102 rfl) rfl rfl (hR 102 26 rfl) ?_
    refine e_10 (f_224 (pc := 58) (e := (58, 10, 2, 0, 0, 0, 0, 59)) rfl) rfl ?_
    refine e_10 (f_224 (pc := 59) (e := (59, 10, 1, 0, 0, 0, 0, 60)) rfl) rfl ?_
    obtain ⟨b2, b3, F⟩ := F
    refine e_111 (f_224 (pc := 60) (e := (60, 111, 0, 0, 0, 0, 0, 61)) rfl) rfl (hT 111 rfl) b2 b3 ?_
    replace F := F _ rfl
    refine e_12 (f_224 (pc := 61) (e := (61, 12, 0, 0, 0, 0, 0, 62)) rfl) rfl ?_
    refine e_90r zA (f_224 (pc := 62) (e := (62, 90, 11, 27, 3, 59, 1167, 65)) rfl) rfl (hT 102 rfl) rfl rfl (hR 102 27 rfl) ?_
    refine e_10 (f_224 (pc := 65) (e := (65, 10, 1, 0, 0, 0, 0, 66)) rfl) rfl ?_
    refine e_10 (f_224 (pc := 66) (e := (66, 10, 2, 0, 0, 0, 0, 67)) rfl) rfl ?_
    obtain ⟨b5, b6, F⟩ := F
    refine e_111 (f_224 (pc := 67) (e := (67, 111, 0, 0, 0, 0, 0, 68)) rfl) rfl (hT 112 rfl) b5 b6 ?_
    replace F := F _ rfl
    refine e_26 (f_224 (pc := 68) (e := (68, 26, 1, 1, 0, 0, 0, 71)) rfl) (w := 1) rfl rfl ?_
    refine e_80 (f_224 (pc := 71) (e := (71, 80, 2, 0, 0, 0, 0, 74)) rfl) ?_
    refine e_lo [0, 1] rfl ?_
    exact F
  · replace F := F.2 c1
    refine e_10 (f_224 (pc := 26) (e := (26, 10, 2, 0, 0, 0, 0, 27)) rfl) rfl ?_
    refine e_10 (f_224 (pc := 27) (e := (27, 10, 3, 0, 0, 0, 0, 28)) rfl) rfl ?_
    refine e_10 (f_224 (pc := 28) (e := (28, 10, 1, 0, 0, 0, 0, 29)) rfl) rfl ?_
    refine e_70 (f_224 (pc := 29) (e := (29, 70, 45, 0, 0, 0, 0, 32)) rfl) (fun c8 => ?_) (fun c8 => ?_)
    · replace F := F.1 c8
      refine e_0 (f_224 (pc := 45) (e := (45, 0, 0, 0, 0, 0, 0, 46)) rfl) (v := 0) rfl ?_
      refine e_30 (f_224 (pc := 46) (e := (46, 30, 0, 0, 0, 0, 0, 47)) rfl) ?_
      refine e_20 (f_224 (pc := 47) (e := (47, 20, 2, 0, 0, 0, 0, 48)) rfl) ?_
      refine e_26 (f_224 (pc := 48) (e := (48, 26, 3, 1, 0, 0, 0, 51)) rfl) (w := 1) rfl rfl ?_
      refine e_80 (f_224 (pc := 51) (e := (51, 80, 16, 0, 0, 0, 0, 54)) rfl) ?_
      refine e_lo [0, 1, 2, 3] rfl ?_
      exact F
    · replace F := F.2 c8
      refine e_12 (f_224 (pc := 32) (e := (32, 12, 0, 0, 0, 0, 0, 33)) rfl) rfl ?_
      refine e_10 (f_224 (pc := 33) (e := (33, 10, 3, 0, 0, 0, 0, 34)) rfl) rfl ?_
      refine e_10 (f_224 (pc := 34) (e := (34, 10, 1, 0, 0, 0, 0, 35)) rfl) rfl ?_
      refine e_130 (f_224 (pc := 35) (e := (35, 130, 186, 0, 11, 295, 1267, 38)) rfl) zA (as := [yr (some 102), yi x3, yi x1]) (rest := [yi x2]) rfl rfl rfl rfl (Nat.le_of_ble_eq_true rfl) (Nat.le_of_ble_eq_true rfl) ⟨_, _, _, rfl, (hT 102 rfl)⟩ (mc := 0) (ms := 0) (Nat.zero_le _) (Nat.zero_le _) ?_
      refine e_K ?_ F
      rintro r h' ⟨r10, I9, rfl, rfl, F⟩
      refine e_60 (f_224 (pc := 38) (e := (38, 60, 45, 0, 0, 0, 0, 41)) rfl) (fun c11 => ?_) (fun c11 => ?_)
      · replace F := F.1 c11
        refine e_0 (f_224 (pc := 45) (e := (45, 0, 0, 0, 0, 0, 0, 46)) rfl) (v := 0) rfl ?_
        refine e_30 (f_224 (pc := 46) (e := (46, 30, 0, 0, 0, 0, 0, 47)) rfl) ?_
        refine e_20 (f_224 (pc := 47) (e := (47, 20, 2, 0, 0, 0, 0, 48)) rfl) ?_
        refine e_26 (f_224 (pc := 48) (e := (48, 26, 3, 1, 0, 0, 0, 51)) rfl) (w := 1) rfl rfl ?_
        refine e_80 (f_224 (pc := 51) (e := (51, 80, 16, 0, 0, 0, 0, 54)) rfl) ?_
        refine e_lo [0, 1, 2, 3] rfl ?_
        exact F
      · replace F := F.2 c11
        refine e_0 (f_224 (pc := 41) (e := (41, 0, 1, 0, 0, 0, 0, 42)) rfl) (v := 1) rfl ?_
        refine e_80 (f_224 (pc := 42) (e := (42, 80, 46, 0, 0, 0, 0, 45)) rfl) ?_
        refine e_30 (f_224 (pc := 46) (e := (46, 30, 0, 0, 0, 0, 0, 47)) rfl) ?_
        refine e_20 (f_224 (pc := 47) (e := (47, 20, 2, 0, 0, 0, 0, 48)) rfl) ?_
        refine e_26 (f_224 (pc := 48) (e := (48, 26, 3, 1, 0, 0, 0, 51)) rfl) (w := 1) rfl rfl ?_
        refine e_80 (f_224 (pc := 51) (e := (51, 80, 16, 0, 0, 0, 0, 54)) rfl) ?_
        refine e_lo [0, 1, 2, 3] rfl ?_
        exact F

/-! peek()I -/
set_option maxRecDepth 20000 in
theorem B_225_0 (hT : yLT T) (hR : yLR R) (F : ((I 102 3) ≤ (I 102 4) → K (some (yi (-1))) (N, T, R, I)) ∧ (¬ ((I 102 3) ≤ (I 102 4)) → 0 ≤ (I 102 4) ∧ (I 102 4) < 940 ∧ (K (some (yi (yand (I 103 (I 102 4).toNat) 255))) (N, T, R, I)))) :
    yW l zSS D cy zFk z d 225 bc bs K 0 0 0 [(0, yr (some 102))] [] (N, T, R, I) := by
  refine e_12 (f_225 (pc := 0) (e := (0, 12, 0, 0, 0, 0, 0, 1)) rfl) rfl ?_
  refine e_90 zA (f_225 (pc := 1) (e := (1, 90, 11, 4, 0, 21, 1260, 4)) rfl) rfl (hT 102 rfl) rfl rfl ?_
  refine e_12 (f_225 (pc := 4) (e := (4, 12, 0, 0, 0, 0, 0, 5)) rfl) rfl ?_
  refine e_90 zA (f_225 (pc := 5) (e := (5, 90, 11, 3, 0, 18, 1262, 8)) rfl) rfl (hT 102 rfl) rfl rfl ?_
  refine e_73 (f_225 (pc := 8) (e := (8, 73, 27, 0, 0, 0, 0, 11)) rfl) (fun c1 => ?_) (fun c1 => ?_)
  · replace F := F.1 c1
    refine e_0 (f_225 (pc := 27) (e := (27, 0, 4294967295, 0, 0, 0, 0, 28)) rfl) (v := (-1)) rfl ?_
    exact e_120 (f_225 (pc := 28) (e := (28, 120, 0, 0, 0, 0, 0, 0)) rfl) F
  · replace F := F.2 c1
    refine e_12 (f_225 (pc := 11) (e := (11, 12, 0, 0, 0, 0, 0, 12)) rfl) rfl ?_
    refine e_90r zA (f_225 (pc := 12) (e := (12, 90, 11, 1, 3, 14, 1158, 15)) rfl) rfl (hT 102 rfl) rfl rfl (hR 102 1 rfl) ?_
    refine e_12 (f_225 (pc := 15) (e := (15, 12, 0, 0, 0, 0, 0, 16)) rfl) rfl ?_
    refine e_90 zA (f_225 (pc := 16) (e := (16, 90, 11, 4, 0, 21, 1260, 19)) rfl) rfl (hT 102 rfl) rfl rfl ?_
    obtain ⟨b2, b3, F⟩ := F
    refine e_112 (f_225 (pc := 19) (e := (19, 112, 0, 0, 0, 0, 0, 20)) rfl) rfl (hT 103 rfl) b2 b3 (.inl rfl) ?_
    refine e_2 (f_225 (pc := 20) (e := (20, 2, 255, 0, 0, 0, 0, 23)) rfl) (v := 255) rfl ?_
    refine e_35 (f_225 (pc := 23) (e := (23, 35, 0, 0, 0, 0, 0, 24)) rfl) ?_
    refine e_80 (f_225 (pc := 24) (e := (24, 80, 28, 0, 0, 0, 0, 27)) rfl) ?_
    exact e_120 (f_225 (pc := 28) (e := (28, 120, 0, 0, 0, 0, 0, 0)) rfl) F

/-! placeOf(I)I -/
set_option maxRecDepth 20000 in
theorem B_226_0 (hT : yLT T) (hR : yLR R) {x1 : Int} (F : (0 ≤ x1 → K (some (yi (yadd (ymul (ydiv x1 10) (I 104 0)) (yrem x1 10)))) (N, T, R, I)) ∧ (¬ (0 ≤ x1) → K (some (yi 36)) (N, T, R, I))) :
    yW l zSS D cy zFk z d 226 bc bs K 0 0 0 [(0, yr (some 102)), (1, yi x1)] [] (N, T, R, I) := by
  refine e_10 (f_226 (pc := 0) (e := (0, 10, 1, 0, 0, 0, 0, 1)) rfl) rfl ?_
  refine e_63 (f_226 (pc := 1) (e := (1, 63, 9, 0, 0, 0, 0, 4)) rfl) (fun c1 => ?_) (fun c1 => ?_)
  · replace F := F.1 c1
    refine e_10 (f_226 (pc := 9) (e := (9, 10, 1, 0, 0, 0, 0, 10)) rfl) rfl ?_
    refine e_1 (f_226 (pc := 10) (e := (10, 1, 10, 0, 0, 0, 0, 12)) rfl) (v := 10) rfl ?_
    refine e_33 (f_226 (pc := 12) (e := (12, 33, 0, 0, 0, 0, 0, 13)) rfl) (by decide) ?_
    refine e_12 (f_226 (pc := 13) (e := (13, 12, 0, 0, 0, 0, 0, 14)) rfl) rfl ?_
    refine e_90r zA (f_226 (pc := 14) (e := (14, 90, 11, 6, 3, 33, 1159, 17)) rfl) rfl (hT 102 rfl) rfl rfl (hR 102 6 rfl) ?_
    refine e_0 (f_226 (pc := 17) (e := (17, 0, 0, 0, 0, 0, 0, 18)) rfl) (v := 0) rfl ?_
    refine e_110 (f_226 (pc := 18) (e := (18, 110, 0, 0, 0, 0, 0, 19)) rfl) rfl (hT 104 rfl) (by decide) (by decide) ?_
    refine e_32 (f_226 (pc := 19) (e := (19, 32, 0, 0, 0, 0, 0, 20)) rfl) ?_
    refine e_10 (f_226 (pc := 20) (e := (20, 10, 1, 0, 0, 0, 0, 21)) rfl) rfl ?_
    refine e_1 (f_226 (pc := 21) (e := (21, 1, 10, 0, 0, 0, 0, 23)) rfl) (v := 10) rfl ?_
    refine e_34 (f_226 (pc := 23) (e := (23, 34, 0, 0, 0, 0, 0, 24)) rfl) (by decide) ?_
    refine e_30 (f_226 (pc := 24) (e := (24, 30, 0, 0, 0, 0, 0, 25)) rfl) ?_
    exact e_120 (f_226 (pc := 25) (e := (25, 120, 0, 0, 0, 0, 0, 0)) rfl) F
  · replace F := F.2 c1
    refine e_1 (f_226 (pc := 4) (e := (4, 1, 36, 0, 0, 0, 0, 6)) rfl) (v := 36) rfl ?_
    refine e_80 (f_226 (pc := 6) (e := (6, 80, 25, 0, 0, 0, 0, 9)) rfl) ?_
    exact e_120 (f_226 (pc := 25) (e := (25, 120, 0, 0, 0, 0, 0, 0)) rfl) F

/-! plan()I -/
set_option maxRecDepth 20000 in
theorem B_227_0 (hT : yLT T) (hR : yLR R) (F : ∀ I1, I1 = yU I 102 0 0 → (yW l zSS D cy zFk z d 244 0 0 (fun r h' => ∃ I2, r = none ∧ h' = (N, T, R, I2) ∧ (∀ I3, I3 = yU I2 102 15 0 → (yW l zSS D cy zFk z d 182 0 0 (fun r h' => ∃ I4, r = none ∧ h' = (N, T, R, I4) ∧ (yW l zSS D cy zFk z (d + 1) 227 bc bs K 0 0 23 [(0, yr (some 102)), (1, yi 0)] [] (N, T, R, I4))) 0 0 0 [(0, yr (some 102))] [] (N, T, R, I3)))) 0 0 0 [(0, yr (some 102)), (1, yi 400)] [] (N, T, R, I1))) :
    yW l zSS D cy zFk z (d + 1) 227 bc bs K 0 0 0 [(0, yr (some 102))] [] (N, T, R, I) := by
  refine e_12 (f_227 (pc := 0) (e := (0, 12, 0, 0, 0, 0, 0, 1)) rfl) rfl ?_
  refine e_0 (f_227 (pc := 1) (e := (1, 0, 0, 0, 0, 0, 0, 2)) rfl) (v := 0) rfl ?_
  refine e_91 zA (f_227 (pc := 2) (e := (2, 91, 11, 0, 0, 1, 1216, 5)) rfl) rfl (hT 102 rfl) rfl rfl trivial ?_
  replace F := F _ rfl
  refine e_12 (f_227 (pc := 5) (e := (5, 12, 0, 0, 0, 0, 0, 6)) rfl) rfl ?_
  refine e_2 (f_227 (pc := 6) (e := (6, 2, 400, 0, 0, 0, 0, 9)) rfl) (v := 400) rfl ?_
  refine e_130 (f_227 (pc := 9) (e := (9, 130, 244, 0, 11, 244, 1217, 12)) rfl) zA (as := [yr (some 102), yi 400]) (rest := []) rfl rfl rfl rfl (Nat.le_of_ble_eq_true rfl) (Nat.le_of_ble_eq_true rfl) ⟨_, _, _, rfl, (hT 102 rfl)⟩ (mc := 0) (ms := 0) (Nat.zero_le _) (Nat.zero_le _) ?_
  refine e_K ?_ F
  rintro r h' ⟨I2, rfl, rfl, F⟩
  refine e_12 (f_227 (pc := 12) (e := (12, 12, 0, 0, 0, 0, 0, 13)) rfl) rfl ?_
  refine e_0 (f_227 (pc := 13) (e := (13, 0, 0, 0, 0, 0, 0, 14)) rfl) (v := 0) rfl ?_
  refine e_91 zA (f_227 (pc := 14) (e := (14, 91, 11, 15, 0, 178, 1218, 17)) rfl) rfl (hT 102 rfl) rfl rfl trivial ?_
  replace F := F _ rfl
  refine e_0 (f_227 (pc := 17) (e := (17, 0, 0, 0, 0, 0, 0, 18)) rfl) (v := 0) rfl ?_
  refine e_20 (f_227 (pc := 18) (e := (18, 20, 1, 0, 0, 0, 0, 19)) rfl) ?_
  refine e_12 (f_227 (pc := 19) (e := (19, 12, 0, 0, 0, 0, 0, 20)) rfl) rfl ?_
  refine e_130 (f_227 (pc := 20) (e := (20, 130, 182, 0, 11, 190, 1224, 23)) rfl) zA (as := [yr (some 102)]) (rest := []) rfl rfl rfl rfl (Nat.le_of_ble_eq_true rfl) (Nat.le_of_ble_eq_true rfl) ⟨_, _, _, rfl, (hT 102 rfl)⟩ (mc := 0) (ms := 0) (Nat.zero_le _) (Nat.zero_le _) ?_
  refine e_K ?_ F
  rintro r h' ⟨I4, rfl, rfl, F⟩
  refine e_lo [0, 1] rfl ?_
  exact F
set_option maxRecDepth 20000 in
theorem B_227_23 (hT : yLT T) (hR : yLR R) {x1 : Int} (F : ((I 102 11) = 0 → ∀ I2, I2 = yU I 104 926 (ynar 1 x1) → (yW l zSS D cy zFk z (d + 1) 227 bc bs K 0 0 153 [(0, yr (some 102)), (1, yi x1), (2, yi 0)] [] (N, T, R, I2))) ∧ (¬ ((I 102 11) = 0) → yW l zSS D cy zFk z d 194 0 0 (fun r h' => ∃ r4 I3, r = some (yi r4) ∧ h' = (N, T, R, I3) ∧ ((r4 ≠ 0 → yW l zSS D cy zFk z d 180 0 0 (fun r h' => ∃ r7 I6, r = some (yi r7) ∧ h' = (N, T, R, I6) ∧ ((0 ≤ r7 → (x1 ≠ 40 → yW l zSS D cy zFk z d 182 0 0 (fun r h' => ∃ I10, r = none ∧ h' = (N, T, R, I10) ∧ (yW l zSS D cy zFk z d 172 0 0 (fun r h' => ∃ r12 I11, r = some (yi r12) ∧ h' = (N, T, R, I11) ∧ ((0 ≤ r12 → 0 ≤ (ymul 2 x1) ∧ (ymul 2 x1) < 135 ∧ (∀ I16, I16 = yU I11 106 ((ymul 2 x1).toNat) (ynar 1 r7) → (0 ≤ (yadd (ymul 2 x1) 1) ∧ (yadd (ymul 2 x1) 1) < 135 ∧ (∀ I19, I19 = yU I16 106 ((yadd (ymul 2 x1) 1).toNat) (ynar 1 r12) → (yW l zSS D cy zFk z d 182 0 0 (fun r h' => ∃ I20, r = none ∧ h' = (N, T, R, I20) ∧ (yW l zSS D cy zFk z d 236 0 0 (fun r h' => ∃ r22 I21, r = some (yi r22) ∧ h' = (N, T, R, I21) ∧ ((r22 ≠ 0 → yW l zSS D cy zFk z (d + 1) 227 bc bs K 0 0 23 [(0, yr (some 102)), (1, yi (yadd x1 1))] [] (N, T, R, I21)) ∧ (¬ (r22 ≠ 0) → K (some (yi (ysub (-1) (I21 102 16)))) (N, T, R, I21)))) 0 0 0 [(0, yr (some 102)), (1, yi 59)] [] (N, T, R, I20))) 0 0 0 [(0, yr (some 102))] [] (N, T, R, I19)))))) ∧ (¬ (0 ≤ r12) → yW l zSS D cy zFk z d 177 0 0 (fun r h' => ∃ r25 I24, r = some (yi r25) ∧ h' = (N, T, R, I24) ∧ (K (some (yi r25)) (N, T, R, I24))) 0 0 0 [(0, yr (some 102)), (1, yi 1)] [] (N, T, R, I11)))) 0 0 0 [(0, yr (some 102))] [] (N, T, R, I10))) 0 0 0 [(0, yr (some 102))] [] (N, T, R, I6)) ∧ (¬ (x1 ≠ 40) → yW l zSS D cy zFk z d 177 0 0 (fun r h' => ∃ r27 I26, r = some (yi r27) ∧ h' = (N, T, R, I26) ∧ (K (some (yi r27)) (N, T, R, I26))) 0 0 0 [(0, yr (some 102)), (1, yi 4)] [] (N, T, R, I6))) ∧ (¬ (0 ≤ r7) → yW l zSS D cy zFk z d 177 0 0 (fun r h' => ∃ r29 I28, r = some (yi r29) ∧ h' = (N, T, R, I28) ∧ (K (some (yi r29)) (N, T, R, I28))) 0 0 0 [(0, yr (some 102)), (1, yi 3)] [] (N, T, R, I6)))) 0 0 0 [(0, yr (some 102)), (1, yi 0), (2, yi (I3 104 2))] [] (N, T, R, I3)) ∧ (¬ (r4 ≠ 0) → yW l zSS D cy zFk z d 177 0 0 (fun r h' => ∃ r31 I30, r = some (yi r31) ∧ h' = (N, T, R, I30) ∧ (K (some (yi r31)) (N, T, R, I30))) 0 0 0 [(0, yr (some 102)), (1, yi 1)] [] (N, T, R, I3)))) 0 0 0 [(0, yr (some 102))] [] (N, T, R, I))) :
    yW l zSS D cy zFk z (d + 1) 227 bc bs K 0 0 23 [(0, yr (some 102)), (1, yi x1)] [] (N, T, R, I) := by
  refine e_12 (f_227 (pc := 23) (e := (23, 12, 0, 0, 0, 0, 0, 24)) rfl) rfl ?_
  refine e_90 zA (f_227 (pc := 24) (e := (24, 90, 11, 11, 0, 161, 1225, 27)) rfl) rfl (hT 102 rfl) rfl rfl ?_
  refine e_60 (f_227 (pc := 27) (e := (27, 60, 142, 0, 0, 0, 0, 30)) rfl) (fun c1 => ?_) (fun c1 => ?_)
  · replace F := F.1 c1
    refine e_12 (f_227 (pc := 142) (e := (142, 12, 0, 0, 0, 0, 0, 143)) rfl) rfl ?_
    refine e_90r zA (f_227 (pc := 143) (e := (143, 90, 11, 6, 3, 33, 1159, 146)) rfl) rfl (hT 102 rfl) rfl rfl (hR 102 6 rfl) ?_
    refine e_2 (f_227 (pc := 146) (e := (146, 2, 926, 0, 0, 0, 0, 149)) rfl) (v := 926) rfl ?_
    refine e_10 (f_227 (pc := 149) (e := (149, 10, 1, 0, 0, 0, 0, 150)) rfl) rfl ?_
    refine e_111 (f_227 (pc := 150) (e := (150, 111, 0, 0, 0, 0, 0, 151)) rfl) rfl (hT 104 rfl) (by decide) (by decide) ?_
    replace F := F _ rfl
    refine e_0 (f_227 (pc := 151) (e := (151, 0, 0, 0, 0, 0, 0, 152)) rfl) (v := 0) rfl ?_
    refine e_20 (f_227 (pc := 152) (e := (152, 20, 2, 0, 0, 0, 0, 153)) rfl) ?_
    refine e_lo [0, 1, 2] rfl ?_
    exact F
  · replace F := F.2 c1
    refine e_12 (f_227 (pc := 30) (e := (30, 12, 0, 0, 0, 0, 0, 31)) rfl) rfl ?_
    refine e_130 (f_227 (pc := 31) (e := (31, 130, 194, 0, 11, 228, 1286, 34)) rfl) zA (as := [yr (some 102)]) (rest := []) rfl rfl rfl rfl (Nat.le_of_ble_eq_true rfl) (Nat.le_of_ble_eq_true rfl) ⟨_, _, _, rfl, (hT 102 rfl)⟩ (mc := 0) (ms := 0) (Nat.zero_le _) (Nat.zero_le _) ?_
    refine e_K ?_ F
    rintro r h' ⟨r4, I3, rfl, rfl, F⟩
    refine e_61 (f_227 (pc := 34) (e := (34, 61, 43, 0, 0, 0, 0, 37)) rfl) (fun c5 => ?_) (fun c5 => ?_)
    · replace F := F.1 c5
      refine e_12 (f_227 (pc := 43) (e := (43, 12, 0, 0, 0, 0, 0, 44)) rfl) rfl ?_
      refine e_0 (f_227 (pc := 44) (e := (44, 0, 0, 0, 0, 0, 0, 45)) rfl) (v := 0) rfl ?_
      refine e_12 (f_227 (pc := 45) (e := (45, 12, 0, 0, 0, 0, 0, 46)) rfl) rfl ?_
      refine e_90r zA (f_227 (pc := 46) (e := (46, 90, 11, 6, 3, 33, 1159, 49)) rfl) rfl (hT 102 rfl) rfl rfl (hR 102 6 rfl) ?_
      refine e_0 (f_227 (pc := 49) (e := (49, 0, 2, 0, 0, 0, 0, 50)) rfl) (v := 2) rfl ?_
      refine e_110 (f_227 (pc := 50) (e := (50, 110, 0, 0, 0, 0, 0, 51)) rfl) rfl (hT 104 rfl) (by decide) (by decide) ?_
      refine e_130 (f_227 (pc := 51) (e := (51, 130, 180, 0, 11, 231, 1287, 54)) rfl) zA (as := [yr (some 102), yi 0, yi _]) (rest := []) rfl rfl rfl rfl (Nat.le_of_ble_eq_true rfl) (Nat.le_of_ble_eq_true rfl) ⟨_, _, _, rfl, (hT 102 rfl)⟩ (mc := 0) (ms := 0) (Nat.zero_le _) (Nat.zero_le _) ?_
      refine e_K ?_ F
      rintro r h' ⟨r7, I6, rfl, rfl, F⟩
      refine e_20 (f_227 (pc := 54) (e := (54, 20, 2, 0, 0, 0, 0, 55)) rfl) ?_
      refine e_10 (f_227 (pc := 55) (e := (55, 10, 2, 0, 0, 0, 0, 56)) rfl) rfl ?_
      refine e_63 (f_227 (pc := 56) (e := (56, 63, 65, 0, 0, 0, 0, 59)) rfl) (fun c8 => ?_) (fun c8 => ?_)
      · replace F := F.1 c8
        refine e_10 (f_227 (pc := 65) (e := (65, 10, 1, 0, 0, 0, 0, 66)) rfl) rfl ?_
        refine e_1 (f_227 (pc := 66) (e := (66, 1, 40, 0, 0, 0, 0, 68)) rfl) (v := 40) rfl ?_
        refine e_71 (f_227 (pc := 68) (e := (68, 71, 77, 0, 0, 0, 0, 71)) rfl) (fun c9 => ?_) (fun c9 => ?_)
        · replace F := F.1 c9
          refine e_12 (f_227 (pc := 77) (e := (77, 12, 0, 0, 0, 0, 0, 78)) rfl) rfl ?_
          refine e_130 (f_227 (pc := 78) (e := (78, 130, 182, 0, 11, 190, 1224, 81)) rfl) zA (as := [yr (some 102)]) (rest := []) rfl rfl rfl rfl (Nat.le_of_ble_eq_true rfl) (Nat.le_of_ble_eq_true rfl) ⟨_, _, _, rfl, (hT 102 rfl)⟩ (mc := 0) (ms := 0) (Nat.zero_le _) (Nat.zero_le _) ?_
          refine e_K ?_ F
          rintro r h' ⟨I10, rfl, rfl, F⟩
          refine e_12 (f_227 (pc := 81) (e := (81, 12, 0, 0, 0, 0, 0, 82)) rfl) rfl ?_
          refine e_130 (f_227 (pc := 82) (e := (82, 130, 172, 0, 11, 222, 1284, 85)) rfl) zA (as := [yr (some 102)]) (rest := []) rfl rfl rfl rfl (Nat.le_of_ble_eq_true rfl) (Nat.le_of_ble_eq_true rfl) ⟨_, _, _, rfl, (hT 102 rfl)⟩ (mc := 0) (ms := 0) (Nat.zero_le _) (Nat.zero_le _) ?_
          refine e_K ?_ F
          rintro r h' ⟨r12, I11, rfl, rfl, F⟩
          refine e_20 (f_227 (pc := 85) (e := (85, 20, 3, 0, 0, 0, 0, 86)) rfl) ?_
          refine e_10 (f_227 (pc := 86) (e := (86, 10, 3, 0, 0, 0, 0, 87)) rfl) rfl ?_
          refine e_63 (f_227 (pc := 87) (e := (87, 63, 96, 0, 0, 0, 0, 90)) rfl) (fun c13 => ?_) (fun c13 => ?_)
          · replace F := F.1 c13
            refine e_12 (f_227 (pc := 96) (e := (96, 12, 0, 0, 0, 0, 0, 97)) rfl) rfl ?_
            refine e_90r zA (f_227 (pc := 97) (e := (97, 90, 11, 8, 3, 40, 1161, 100)) rfl) rfl (hT 102 rfl) rfl rfl (hR 102 8 rfl) ?_
            refine e_0 (f_227 (pc := 100) (e := (100, 0, 2, 0, 0, 0, 0, 101)) rfl) (v := 2) rfl ?_
            refine e_10 (f_227 (pc := 101) (e := (101, 10, 1, 0, 0, 0, 0, 102)) rfl) rfl ?_
            refine e_32 (f_227 (pc := 102) (e := (102, 32, 0, 0, 0, 0, 0, 103)) rfl) ?_
            refine e_10 (f_227 (pc := 103) (e := (103, 10, 2, 0, 0, 0, 0, 104)) rfl) rfl ?_
            obtain ⟨b14, b15, F⟩ := F
            refine e_111 (f_227 (pc := 104) (e := (104, 111, 0, 0, 0, 0, 0, 105)) rfl) rfl (hT 106 rfl) b14 b15 ?_
            replace F := F _ rfl
            refine e_12 (f_227 (pc := 105) (e := (105, 12, 0, 0, 0, 0, 0, 106)) rfl) rfl ?_
            refine e_90r zA (f_227 (pc := 106) (e := (106, 90, 11, 8, 3, 40, 1161, 109)) rfl) rfl (hT 102 rfl) rfl rfl (hR 102 8 rfl) ?_
            refine e_0 (f_227 (pc := 109) (e := (109, 0, 2, 0, 0, 0, 0, 110)) rfl) (v := 2) rfl ?_
            refine e_10 (f_227 (pc := 110) (e := (110, 10, 1, 0, 0, 0, 0, 111)) rfl) rfl ?_
            refine e_32 (f_227 (pc := 111) (e := (111, 32, 0, 0, 0, 0, 0, 112)) rfl) ?_
            refine e_0 (f_227 (pc := 112) (e := (112, 0, 1, 0, 0, 0, 0, 113)) rfl) (v := 1) rfl ?_
            refine e_30 (f_227 (pc := 113) (e := (113, 30, 0, 0, 0, 0, 0, 114)) rfl) ?_
            refine e_10 (f_227 (pc := 114) (e := (114, 10, 3, 0, 0, 0, 0, 115)) rfl) rfl ?_
            obtain ⟨b17, b18, F⟩ := F
            refine e_111 (f_227 (pc := 115) (e := (115, 111, 0, 0, 0, 0, 0, 116)) rfl) rfl (hT 106 rfl) b17 b18 ?_
            replace F := F _ rfl
            refine e_12 (f_227 (pc := 116) (e := (116, 12, 0, 0, 0, 0, 0, 117)) rfl) rfl ?_
            refine e_130 (f_227 (pc := 117) (e := (117, 130, 182, 0, 11, 190, 1224, 120)) rfl) zA (as := [yr (some 102)]) (rest := []) rfl rfl rfl rfl (Nat.le_of_ble_eq_true rfl) (Nat.le_of_ble_eq_true rfl) ⟨_, _, _, rfl, (hT 102 rfl)⟩ (mc := 0) (ms := 0) (Nat.zero_le _) (Nat.zero_le _) ?_
            refine e_K ?_ F
            rintro r h' ⟨I20, rfl, rfl, F⟩
            refine e_12 (f_227 (pc := 120) (e := (120, 12, 0, 0, 0, 0, 0, 121)) rfl) rfl ?_
            refine e_1 (f_227 (pc := 121) (e := (121, 1, 59, 0, 0, 0, 0, 123)) rfl) (v := 59) rfl ?_
            refine e_130 (f_227 (pc := 123) (e := (123, 130, 236, 0, 11, 253, 1227, 126)) rfl) zA (as := [yr (some 102), yi 59]) (rest := []) rfl rfl rfl rfl (Nat.le_of_ble_eq_true rfl) (Nat.le_of_ble_eq_true rfl) ⟨_, _, _, rfl, (hT 102 rfl)⟩ (mc := 0) (ms := 0) (Nat.zero_le _) (Nat.zero_le _) ?_
            refine e_K ?_ F
            rintro r h' ⟨r22, I21, rfl, rfl, F⟩
            refine e_61 (f_227 (pc := 126) (e := (126, 61, 136, 0, 0, 0, 0, 129)) rfl) (fun c23 => ?_) (fun c23 => ?_)
            · replace F := F.1 c23
              refine e_26 (f_227 (pc := 136) (e := (136, 26, 1, 1, 0, 0, 0, 139)) rfl) (w := 1) rfl rfl ?_
              refine e_80 (f_227 (pc := 139) (e := (139, 80, 23, 0, 0, 0, 0, 142)) rfl) ?_
              refine e_lo [0, 1] rfl ?_
              exact F
            · replace F := F.2 c23
              refine e_0 (f_227 (pc := 129) (e := (129, 0, 4294967295, 0, 0, 0, 0, 130)) rfl) (v := (-1)) rfl ?_
              refine e_12 (f_227 (pc := 130) (e := (130, 12, 0, 0, 0, 0, 0, 131)) rfl) rfl ?_
              refine e_90 zA (f_227 (pc := 131) (e := (131, 90, 11, 16, 0, 181, 1228, 134)) rfl) rfl (hT 102 rfl) rfl rfl ?_
              refine e_31 (f_227 (pc := 134) (e := (134, 31, 0, 0, 0, 0, 0, 135)) rfl) ?_
              exact e_120 (f_227 (pc := 135) (e := (135, 120, 0, 0, 0, 0, 0, 136)) rfl) F
          · replace F := F.2 c13
            refine e_12 (f_227 (pc := 90) (e := (90, 12, 0, 0, 0, 0, 0, 91)) rfl) rfl ?_
            refine e_0 (f_227 (pc := 91) (e := (91, 0, 1, 0, 0, 0, 0, 92)) rfl) (v := 1) rfl ?_
            refine e_130 (f_227 (pc := 92) (e := (92, 130, 177, 0, 11, 405, 1294, 95)) rfl) zA (as := [yr (some 102), yi 1]) (rest := []) rfl rfl rfl rfl (Nat.le_of_ble_eq_true rfl) (Nat.le_of_ble_eq_true rfl) ⟨_, _, _, rfl, (hT 102 rfl)⟩ (mc := 0) (ms := 0) (Nat.zero_le _) (Nat.zero_le _) ?_
            refine e_K ?_ F
            rintro r h' ⟨r25, I24, rfl, rfl, F⟩
            exact e_120 (f_227 (pc := 95) (e := (95, 120, 0, 0, 0, 0, 0, 96)) rfl) F
        · replace F := F.2 c9
          refine e_12 (f_227 (pc := 71) (e := (71, 12, 0, 0, 0, 0, 0, 72)) rfl) rfl ?_
          refine e_0 (f_227 (pc := 72) (e := (72, 0, 4, 0, 0, 0, 0, 73)) rfl) (v := 4) rfl ?_
          refine e_130 (f_227 (pc := 73) (e := (73, 130, 177, 0, 11, 405, 1294, 76)) rfl) zA (as := [yr (some 102), yi 4]) (rest := []) rfl rfl rfl rfl (Nat.le_of_ble_eq_true rfl) (Nat.le_of_ble_eq_true rfl) ⟨_, _, _, rfl, (hT 102 rfl)⟩ (mc := 0) (ms := 0) (Nat.zero_le _) (Nat.zero_le _) ?_
          refine e_K ?_ F
          rintro r h' ⟨r27, I26, rfl, rfl, F⟩
          exact e_120 (f_227 (pc := 76) (e := (76, 120, 0, 0, 0, 0, 0, 77)) rfl) F
      · replace F := F.2 c8
        refine e_12 (f_227 (pc := 59) (e := (59, 12, 0, 0, 0, 0, 0, 60)) rfl) rfl ?_
        refine e_0 (f_227 (pc := 60) (e := (60, 0, 3, 0, 0, 0, 0, 61)) rfl) (v := 3) rfl ?_
        refine e_130 (f_227 (pc := 61) (e := (61, 130, 177, 0, 11, 405, 1294, 64)) rfl) zA (as := [yr (some 102), yi 3]) (rest := []) rfl rfl rfl rfl (Nat.le_of_ble_eq_true rfl) (Nat.le_of_ble_eq_true rfl) ⟨_, _, _, rfl, (hT 102 rfl)⟩ (mc := 0) (ms := 0) (Nat.zero_le _) (Nat.zero_le _) ?_
        refine e_K ?_ F
        rintro r h' ⟨r29, I28, rfl, rfl, F⟩
        exact e_120 (f_227 (pc := 64) (e := (64, 120, 0, 0, 0, 0, 0, 65)) rfl) F
    · replace F := F.2 c5
      refine e_12 (f_227 (pc := 37) (e := (37, 12, 0, 0, 0, 0, 0, 38)) rfl) rfl ?_
      refine e_0 (f_227 (pc := 38) (e := (38, 0, 1, 0, 0, 0, 0, 39)) rfl) (v := 1) rfl ?_
      refine e_130 (f_227 (pc := 39) (e := (39, 130, 177, 0, 11, 405, 1294, 42)) rfl) zA (as := [yr (some 102), yi 1]) (rest := []) rfl rfl rfl rfl (Nat.le_of_ble_eq_true rfl) (Nat.le_of_ble_eq_true rfl) ⟨_, _, _, rfl, (hT 102 rfl)⟩ (mc := 0) (ms := 0) (Nat.zero_le _) (Nat.zero_le _) ?_
      refine e_K ?_ F
      rintro r h' ⟨r31, I30, rfl, rfl, F⟩
      exact e_120 (f_227 (pc := 42) (e := (42, 120, 0, 0, 0, 0, 0, 43)) rfl) F
set_option maxRecDepth 20000 in
theorem B_227_153 (hT : yLT T) (hR : yLR R) {x1 x2 : Int} (F : ((ymul 2 x1) ≤ x2 → K (some (yi x1)) (N, T, R, I)) ∧ (¬ ((ymul 2 x1) ≤ x2) → 0 ≤ x2 ∧ x2 < 135 ∧ (0 ≤ (yadd 927 x2) ∧ (yadd 927 x2) < 1188 ∧ (∀ I6, I6 = yU I 104 ((yadd 927 x2).toNat) (ynar 1 (I 106 x2.toNat)) → (yW l zSS D cy zFk z d 227 bc bs K 0 0 153 [(0, yr (some 102)), (1, yi x1), (2, yi (yadd x2 1))] [] (N, T, R, I6)))))) :
    yW l zSS D cy zFk z d 227 bc bs K 0 0 153 [(0, yr (some 102)), (1, yi x1), (2, yi x2)] [] (N, T, R, I) := by
  refine e_10 (f_227 (pc := 153) (e := (153, 10, 2, 0, 0, 0, 0, 154)) rfl) rfl ?_
  refine e_0 (f_227 (pc := 154) (e := (154, 0, 2, 0, 0, 0, 0, 155)) rfl) (v := 2) rfl ?_
  refine e_10 (f_227 (pc := 155) (e := (155, 10, 1, 0, 0, 0, 0, 156)) rfl) rfl ?_
  refine e_32 (f_227 (pc := 156) (e := (156, 32, 0, 0, 0, 0, 0, 157)) rfl) ?_
  refine e_73 (f_227 (pc := 157) (e := (157, 73, 182, 0, 0, 0, 0, 160)) rfl) (fun c1 => ?_) (fun c1 => ?_)
  · replace F := F.1 c1
    refine e_10 (f_227 (pc := 182) (e := (182, 10, 1, 0, 0, 0, 0, 183)) rfl) rfl ?_
    exact e_120 (f_227 (pc := 183) (e := (183, 120, 0, 0, 0, 0, 0, 0)) rfl) F
  · replace F := F.2 c1
    refine e_12 (f_227 (pc := 160) (e := (160, 12, 0, 0, 0, 0, 0, 161)) rfl) rfl ?_
    refine e_90r zA (f_227 (pc := 161) (e := (161, 90, 11, 6, 3, 33, 1159, 164)) rfl) rfl (hT 102 rfl) rfl rfl (hR 102 6 rfl) ?_
    refine e_2 (f_227 (pc := 164) (e := (164, 2, 927, 0, 0, 0, 0, 167)) rfl) (v := 927) rfl ?_
    refine e_10 (f_227 (pc := 167) (e := (167, 10, 2, 0, 0, 0, 0, 168)) rfl) rfl ?_
    refine e_30 (f_227 (pc := 168) (e := (168, 30, 0, 0, 0, 0, 0, 169)) rfl) ?_
    refine e_12 (f_227 (pc := 169) (e := (169, 12, 0, 0, 0, 0, 0, 170)) rfl) rfl ?_
    refine e_90r zA (f_227 (pc := 170) (e := (170, 90, 11, 8, 3, 40, 1161, 173)) rfl) rfl (hT 102 rfl) rfl rfl (hR 102 8 rfl) ?_
    refine e_10 (f_227 (pc := 173) (e := (173, 10, 2, 0, 0, 0, 0, 174)) rfl) rfl ?_
    obtain ⟨b2, b3, F⟩ := F
    refine e_110 (f_227 (pc := 174) (e := (174, 110, 0, 0, 0, 0, 0, 175)) rfl) rfl (hT 106 rfl) b2 b3 ?_
    obtain ⟨b4, b5, F⟩ := F
    refine e_111 (f_227 (pc := 175) (e := (175, 111, 0, 0, 0, 0, 0, 176)) rfl) rfl (hT 104 rfl) b4 b5 ?_
    replace F := F _ rfl
    refine e_26 (f_227 (pc := 176) (e := (176, 26, 2, 1, 0, 0, 0, 179)) rfl) (w := 1) rfl rfl ?_
    refine e_80 (f_227 (pc := 179) (e := (179, 80, 153, 0, 0, 0, 0, 182)) rfl) ?_
    refine e_lo [0, 1, 2] rfl ?_
    exact F

/-! reaches(III)V -/
set_option maxRecDepth 20000 in
theorem B_228_0 (hT : yLT T) (hR : yLR R) {x1 x2 x3 : Int} (F : 0 ≤ x1 ∧ x1 < 50653 ∧ (((I 115 x1.toNat) = 0 → 0 ≤ x1 ∧ x1 < 50653 ∧ (∀ I6, I6 = yU I 115 x1.toNat (ynar 1 (yadd (yadd 1 (ymul 12 x2)) x3)) → (0 ≤ (I6 102 41) ∧ (I6 102 41) < 50653 ∧ (∀ I9, I9 = yU I6 116 ((I6 102 41).toNat) (ynar 1 x1) → (∀ I10, I10 = yU I9 102 41 (yadd (I9 102 41) 1) → (K none (N, T, R, I10))))))) ∧ (¬ ((I 115 x1.toNat) = 0) → K none (N, T, R, I)))) :
    yW l zSS D cy zFk z d 228 bc bs K 0 0 0 [(0, yr (some 102)), (1, yi x1), (2, yi x2), (3, yi x3)] [] (N, T, R, I) := by
  refine e_12 (f_228 (pc := 0) (e := (0, 12, 0, 0, 0, 0, 0, 1)) rfl) rfl ?_
  refine e_90r zA (f_228 (pc := 1) (e := (1, 90, 11, 36, 3, 69, 1171, 4)) rfl) rfl (hT 102 rfl) rfl rfl (hR 102 36 rfl) ?_
  refine e_10 (f_228 (pc := 4) (e := (4, 10, 1, 0, 0, 0, 0, 5)) rfl) rfl ?_
  obtain ⟨b1, b2, F⟩ := F
  refine e_110 (f_228 (pc := 5) (e := (5, 110, 0, 0, 0, 0, 0, 6)) rfl) rfl (hT 115 rfl) b1 b2 ?_
  refine e_60 (f_228 (pc := 6) (e := (6, 60, 10, 0, 0, 0, 0, 9)) rfl) (fun c3 => ?_) (fun c3 => ?_)
  · replace F := F.1 c3
    refine e_12 (f_228 (pc := 10) (e := (10, 12, 0, 0, 0, 0, 0, 11)) rfl) rfl ?_
    refine e_90r zA (f_228 (pc := 11) (e := (11, 90, 11, 36, 3, 69, 1171, 14)) rfl) rfl (hT 102 rfl) rfl rfl (hR 102 36 rfl) ?_
    refine e_10 (f_228 (pc := 14) (e := (14, 10, 1, 0, 0, 0, 0, 15)) rfl) rfl ?_
    refine e_0 (f_228 (pc := 15) (e := (15, 0, 1, 0, 0, 0, 0, 16)) rfl) (v := 1) rfl ?_
    refine e_1 (f_228 (pc := 16) (e := (16, 1, 12, 0, 0, 0, 0, 18)) rfl) (v := 12) rfl ?_
    refine e_10 (f_228 (pc := 18) (e := (18, 10, 2, 0, 0, 0, 0, 19)) rfl) rfl ?_
    refine e_32 (f_228 (pc := 19) (e := (19, 32, 0, 0, 0, 0, 0, 20)) rfl) ?_
    refine e_30 (f_228 (pc := 20) (e := (20, 30, 0, 0, 0, 0, 0, 21)) rfl) ?_
    refine e_10 (f_228 (pc := 21) (e := (21, 10, 3, 0, 0, 0, 0, 22)) rfl) rfl ?_
    refine e_30 (f_228 (pc := 22) (e := (22, 30, 0, 0, 0, 0, 0, 23)) rfl) ?_
    obtain ⟨b4, b5, F⟩ := F
    refine e_111 (f_228 (pc := 23) (e := (23, 111, 0, 0, 0, 0, 0, 24)) rfl) rfl (hT 115 rfl) b4 b5 ?_
    replace F := F _ rfl
    refine e_12 (f_228 (pc := 24) (e := (24, 12, 0, 0, 0, 0, 0, 25)) rfl) rfl ?_
    refine e_90r zA (f_228 (pc := 25) (e := (25, 90, 11, 37, 3, 72, 1172, 28)) rfl) rfl (hT 102 rfl) rfl rfl (hR 102 37 rfl) ?_
    refine e_12 (f_228 (pc := 28) (e := (28, 12, 0, 0, 0, 0, 0, 29)) rfl) rfl ?_
    refine e_90 zA (f_228 (pc := 29) (e := (29, 90, 11, 41, 0, 345, 1295, 32)) rfl) rfl (hT 102 rfl) rfl rfl ?_
    refine e_10 (f_228 (pc := 32) (e := (32, 10, 1, 0, 0, 0, 0, 33)) rfl) rfl ?_
    obtain ⟨b7, b8, F⟩ := F
    refine e_111 (f_228 (pc := 33) (e := (33, 111, 0, 0, 0, 0, 0, 34)) rfl) rfl (hT 116 rfl) b7 b8 ?_
    replace F := F _ rfl
    refine e_12 (f_228 (pc := 34) (e := (34, 12, 0, 0, 0, 0, 0, 35)) rfl) rfl ?_
    refine e_50 (f_228 (pc := 35) (e := (35, 50, 0, 0, 0, 0, 0, 36)) rfl) rfl ?_
    refine e_90 zA (f_228 (pc := 36) (e := (36, 90, 11, 41, 0, 345, 1295, 39)) rfl) rfl (hT 102 rfl) rfl rfl ?_
    refine e_0 (f_228 (pc := 39) (e := (39, 0, 1, 0, 0, 0, 0, 40)) rfl) (v := 1) rfl ?_
    refine e_30 (f_228 (pc := 40) (e := (40, 30, 0, 0, 0, 0, 0, 41)) rfl) ?_
    refine e_91 zA (f_228 (pc := 41) (e := (41, 91, 11, 41, 0, 345, 1295, 44)) rfl) rfl (hT 102 rfl) rfl rfl trivial ?_
    replace F := F _ rfl
    exact e_122 (f_228 (pc := 44) (e := (44, 122, 0, 0, 0, 0, 0, 0)) rfl) F
  · replace F := F.2 c3
    exact e_122 (f_228 (pc := 9) (e := (9, 122, 0, 0, 0, 0, 0, 10)) rfl) F

/-! readChair()Z -/
set_option maxRecDepth 20000 in
theorem B_229_0 (hT : yLT T) (hR : yLR R) (F : ((I 105 2) ≠ 8 → yW l zSS D cy zFk z d 182 0 0 (fun r h' => ∃ I2, r = none ∧ h' = (N, T, R, I2) ∧ (yW l zSS D cy zFk z d 194 0 0 (fun r h' => ∃ r4 I3, r = some (yi r4) ∧ h' = (N, T, R, I3) ∧ ((r4 ≠ 0 → yW l zSS D cy zFk z d 180 0 0 (fun r h' => ∃ r7 I6, r = some (yi r7) ∧ h' = (N, T, R, I6) ∧ ((r7 < 0 → 0 ≤ (yadd 8 (I 105 2)) ∧ (yadd 8 (I 105 2)) < 16 ∧ (∀ I11, I11 = yU I6 107 ((yadd 8 (I 105 2)).toNat) (I6 102 17) → (yW l zSS D cy zFk z d 182 0 0 (fun r h' => ∃ I12, r = none ∧ h' = (N, T, R, I12) ∧ (yW l zSS D cy zFk z d 212 0 0 (fun r h' => ∃ r14 I13, r = some (yi r14) ∧ h' = (N, T, R, I13) ∧ ((r14 ≠ 0 → 0 ≤ (yadd 10 (I13 102 18)) ∧ (yadd 10 (I13 102 18)) < 458 ∧ (((I13 105 (yadd 10 (I13 102 18)).toNat) ≠ 1 → 0 ≤ (yadd 326 (I 105 2)) ∧ (yadd 326 (I 105 2)) < 458 ∧ (∀ I21, I21 = yU I13 105 ((yadd 326 (I 105 2)).toNat) (ynar 1 (I13 102 18)) → (yW l zSS D cy zFk z d 182 0 0 (fun r h' => ∃ I22, r = none ∧ h' = (N, T, R, I22) ∧ (yW l zSS D cy zFk z d 245 0 0 (fun r h' => ∃ r24 I23, r = some (yi r24) ∧ h' = (N, T, R, I23) ∧ ((r24 ≠ 0 → 0 ≤ (yadd 310 (I 105 2)) ∧ (yadd 310 (I 105 2)) < 458 ∧ (∀ I28, I28 = yU I23 105 ((yadd 310 (I 105 2)).toNat) (ynar 1 (I23 102 18)) → (yW l zSS D cy zFk z d 245 0 0 (fun r h' => ∃ r30 I29, r = some (yi r30) ∧ h' = (N, T, R, I29) ∧ ((r30 ≠ 0 → 0 ≤ (yadd 318 (I 105 2)) ∧ (yadd 318 (I 105 2)) < 458 ∧ (∀ I34, I34 = yU I29 105 ((yadd 318 (I 105 2)).toNat) (ynar 1 (I29 102 18)) → (yW l zSS D cy zFk z d 212 0 0 (fun r h' => ∃ r36 I35, r = some (yi r36) ∧ h' = (N, T, R, I35) ∧ ((r36 ≠ 0 → 0 ≤ (yadd 10 (I35 102 18)) ∧ (yadd 10 (I35 102 18)) < 458 ∧ (((I35 105 (yadd 10 (I35 102 18)).toNat) ≠ 1 → 0 ≤ (yadd 334 (I 105 2)) ∧ (yadd 334 (I 105 2)) < 458 ∧ (∀ I43, I43 = yU I35 105 ((yadd 334 (I 105 2)).toNat) (ynar 1 (I35 102 18)) → (yW l zSS D cy zFk z d 182 0 0 (fun r h' => ∃ I44, r = none ∧ h' = (N, T, R, I44) ∧ (∀ I45, I45 = yU I44 105 2 (ynar 1 (yadd (I44 105 2) 1)) → (K (some (yi 1)) (N, T, R, I45)))) 0 0 0 [(0, yr (some 102))] [] (N, T, R, I43)))) ∧ (¬ ((I35 105 (yadd 10 (I35 102 18)).toNat) ≠ 1) → yW l zSS D cy zFk z d 159 0 0 (fun r h' => ∃ r47 I46, r = some (yi r47) ∧ h' = (N, T, R, I46) ∧ ((r47 = 0 ∨ r47 = 1) ∧ K (some (yi r47)) (N, T, R, I46))) 0 0 0 [(0, yr (some 102)), (1, yi 5)] [] (N, T, R, I35)))) ∧ (¬ (r36 ≠ 0) → K (some (yi 0)) (N, T, R, I35)))) 0 0 0 [(0, yr (some 102))] [] (N, T, R, I34)))) ∧ (¬ (r30 ≠ 0) → K (some (yi 0)) (N, T, R, I29)))) 0 0 0 [(0, yr (some 102)), (1, yi 0), (2, yi 9)] [] (N, T, R, I28)))) ∧ (¬ (r24 ≠ 0) → K (some (yi 0)) (N, T, R, I23)))) 0 0 0 [(0, yr (some 102)), (1, yi 0), (2, yi 9)] [] (N, T, R, I22))) 0 0 0 [(0, yr (some 102))] [] (N, T, R, I21)))) ∧ (¬ ((I13 105 (yadd 10 (I13 102 18)).toNat) ≠ 1) → yW l zSS D cy zFk z d 159 0 0 (fun r h' => ∃ r49 I48, r = some (yi r49) ∧ h' = (N, T, R, I48) ∧ ((r49 = 0 ∨ r49 = 1) ∧ K (some (yi r49)) (N, T, R, I48))) 0 0 0 [(0, yr (some 102)), (1, yi 5)] [] (N, T, R, I13)))) ∧ (¬ (r14 ≠ 0) → K (some (yi 0)) (N, T, R, I13)))) 0 0 0 [(0, yr (some 102))] [] (N, T, R, I12))) 0 0 0 [(0, yr (some 102))] [] (N, T, R, I11)))) ∧ (¬ (r7 < 0) → yW l zSS D cy zFk z d 159 0 0 (fun r h' => ∃ r51 I50, r = some (yi r51) ∧ h' = (N, T, R, I50) ∧ ((r51 = 0 ∨ r51 = 1) ∧ K (some (yi r51)) (N, T, R, I50))) 0 0 0 [(0, yr (some 102)), (1, yi 3)] [] (N, T, R, I6)))) 0 0 0 [(0, yr (some 102)), (1, yi 8), (2, yi (I 105 2))] [] (N, T, R, I3)) ∧ (¬ (r4 ≠ 0) → yW l zSS D cy zFk z d 159 0 0 (fun r h' => ∃ r53 I52, r = some (yi r53) ∧ h' = (N, T, R, I52) ∧ ((r53 = 0 ∨ r53 = 1) ∧ K (some (yi r53)) (N, T, R, I52))) 0 0 0 [(0, yr (some 102)), (1, yi 1)] [] (N, T, R, I3)))) 0 0 0 [(0, yr (some 102))] [] (N, T, R, I2))) 0 0 0 [(0, yr (some 102))] [] (N, T, R, I)) ∧ (¬ ((I 105 2) ≠ 8) → yW l zSS D cy zFk z d 159 0 0 (fun r h' => ∃ r55 I54, r = some (yi r55) ∧ h' = (N, T, R, I54) ∧ ((r55 = 0 ∨ r55 = 1) ∧ K (some (yi r55)) (N, T, R, I54))) 0 0 0 [(0, yr (some 102)), (1, yi 4)] [] (N, T, R, I))) :
    yW l zSS D cy zFk z (d + 1) 229 bc bs K 0 0 0 [(0, yr (some 102))] [] (N, T, R, I) := by
  refine e_12 (f_229 (pc := 0) (e := (0, 12, 0, 0, 0, 0, 0, 1)) rfl) rfl ?_
  refine e_90r zA (f_229 (pc := 1) (e := (1, 90, 11, 7, 3, 37, 1160, 4)) rfl) rfl (hT 102 rfl) rfl rfl (hR 102 7 rfl) ?_
  refine e_0 (f_229 (pc := 4) (e := (4, 0, 2, 0, 0, 0, 0, 5)) rfl) (v := 2) rfl ?_
  refine e_110 (f_229 (pc := 5) (e := (5, 110, 0, 0, 0, 0, 0, 6)) rfl) rfl (hT 105 rfl) (by decide) (by decide) ?_
  refine e_20 (f_229 (pc := 6) (e := (6, 20, 1, 0, 0, 0, 0, 7)) rfl) ?_
  refine e_10 (f_229 (pc := 7) (e := (7, 10, 1, 0, 0, 0, 0, 8)) rfl) rfl ?_
  refine e_1 (f_229 (pc := 8) (e := (8, 1, 8, 0, 0, 0, 0, 10)) rfl) (v := 8) rfl ?_
  refine e_71 (f_229 (pc := 10) (e := (10, 71, 19, 0, 0, 0, 0, 13)) rfl) (fun c1 => ?_) (fun c1 => ?_)
  · replace F := F.1 c1
    refine e_12 (f_229 (pc := 19) (e := (19, 12, 0, 0, 0, 0, 0, 20)) rfl) rfl ?_
    refine e_130 (f_229 (pc := 20) (e := (20, 130, 182, 0, 11, 190, 1224, 23)) rfl) zA (as := [yr (some 102)]) (rest := []) rfl rfl rfl rfl (Nat.le_of_ble_eq_true rfl) (Nat.le_of_ble_eq_true rfl) ⟨_, _, _, rfl, (hT 102 rfl)⟩ (mc := 0) (ms := 0) (Nat.zero_le _) (Nat.zero_le _) ?_
    refine e_K ?_ F
    rintro r h' ⟨I2, rfl, rfl, F⟩
    refine e_12 (f_229 (pc := 23) (e := (23, 12, 0, 0, 0, 0, 0, 24)) rfl) rfl ?_
    refine e_130 (f_229 (pc := 24) (e := (24, 130, 194, 0, 11, 228, 1286, 27)) rfl) zA (as := [yr (some 102)]) (rest := []) rfl rfl rfl rfl (Nat.le_of_ble_eq_true rfl) (Nat.le_of_ble_eq_true rfl) ⟨_, _, _, rfl, (hT 102 rfl)⟩ (mc := 0) (ms := 0) (Nat.zero_le _) (Nat.zero_le _) ?_
    refine e_K ?_ F
    rintro r h' ⟨r4, I3, rfl, rfl, F⟩
    refine e_61 (f_229 (pc := 27) (e := (27, 61, 36, 0, 0, 0, 0, 30)) rfl) (fun c5 => ?_) (fun c5 => ?_)
    · replace F := F.1 c5
      refine e_12 (f_229 (pc := 36) (e := (36, 12, 0, 0, 0, 0, 0, 37)) rfl) rfl ?_
      refine e_1 (f_229 (pc := 37) (e := (37, 1, 8, 0, 0, 0, 0, 39)) rfl) (v := 8) rfl ?_
      refine e_10 (f_229 (pc := 39) (e := (39, 10, 1, 0, 0, 0, 0, 40)) rfl) rfl ?_
      refine e_130 (f_229 (pc := 40) (e := (40, 130, 180, 0, 11, 231, 1287, 43)) rfl) zA (as := [yr (some 102), yi 8, yi _]) (rest := []) rfl rfl rfl rfl (Nat.le_of_ble_eq_true rfl) (Nat.le_of_ble_eq_true rfl) ⟨_, _, _, rfl, (hT 102 rfl)⟩ (mc := 0) (ms := 0) (Nat.zero_le _) (Nat.zero_le _) ?_
      refine e_K ?_ F
      rintro r h' ⟨r7, I6, rfl, rfl, F⟩
      refine e_62 (f_229 (pc := 43) (e := (43, 62, 52, 0, 0, 0, 0, 46)) rfl) (fun c8 => ?_) (fun c8 => ?_)
      · replace F := F.1 c8
        refine e_12 (f_229 (pc := 52) (e := (52, 12, 0, 0, 0, 0, 0, 53)) rfl) rfl ?_
        refine e_90r zA (f_229 (pc := 53) (e := (53, 90, 11, 9, 3, 43, 1162, 56)) rfl) rfl (hT 102 rfl) rfl rfl (hR 102 9 rfl) ?_
        refine e_1 (f_229 (pc := 56) (e := (56, 1, 8, 0, 0, 0, 0, 58)) rfl) (v := 8) rfl ?_
        refine e_10 (f_229 (pc := 58) (e := (58, 10, 1, 0, 0, 0, 0, 59)) rfl) rfl ?_
        refine e_30 (f_229 (pc := 59) (e := (59, 30, 0, 0, 0, 0, 0, 60)) rfl) ?_
        refine e_12 (f_229 (pc := 60) (e := (60, 12, 0, 0, 0, 0, 0, 61)) rfl) rfl ?_
        refine e_90 zA (f_229 (pc := 61) (e := (61, 90, 11, 17, 1, 174, 1258, 64)) rfl) rfl (hT 102 rfl) rfl rfl ?_
        obtain ⟨b9, b10, F⟩ := F
        refine e_115 (f_229 (pc := 64) (e := (64, 115, 0, 0, 0, 0, 0, 65)) rfl) rfl (hT 107 rfl) b9 b10 ?_
        replace F := F _ rfl
        refine e_12 (f_229 (pc := 65) (e := (65, 12, 0, 0, 0, 0, 0, 66)) rfl) rfl ?_
        refine e_130 (f_229 (pc := 66) (e := (66, 130, 182, 0, 11, 190, 1224, 69)) rfl) zA (as := [yr (some 102)]) (rest := []) rfl rfl rfl rfl (Nat.le_of_ble_eq_true rfl) (Nat.le_of_ble_eq_true rfl) ⟨_, _, _, rfl, (hT 102 rfl)⟩ (mc := 0) (ms := 0) (Nat.zero_le _) (Nat.zero_le _) ?_
        refine e_K ?_ F
        rintro r h' ⟨I12, rfl, rfl, F⟩
        refine e_12 (f_229 (pc := 69) (e := (69, 12, 0, 0, 0, 0, 0, 70)) rfl) rfl ?_
        refine e_130 (f_229 (pc := 70) (e := (70, 130, 212, 0, 11, 208, 1283, 73)) rfl) zA (as := [yr (some 102)]) (rest := []) rfl rfl rfl rfl (Nat.le_of_ble_eq_true rfl) (Nat.le_of_ble_eq_true rfl) ⟨_, _, _, rfl, (hT 102 rfl)⟩ (mc := 0) (ms := 0) (Nat.zero_le _) (Nat.zero_le _) ?_
        refine e_K ?_ F
        rintro r h' ⟨r14, I13, rfl, rfl, F⟩
        refine e_61 (f_229 (pc := 73) (e := (73, 61, 78, 0, 0, 0, 0, 76)) rfl) (fun c15 => ?_) (fun c15 => ?_)
        · replace F := F.1 c15
          refine e_12 (f_229 (pc := 78) (e := (78, 12, 0, 0, 0, 0, 0, 79)) rfl) rfl ?_
          refine e_90r zA (f_229 (pc := 79) (e := (79, 90, 11, 7, 3, 37, 1160, 82)) rfl) rfl (hT 102 rfl) rfl rfl (hR 102 7 rfl) ?_
          refine e_1 (f_229 (pc := 82) (e := (82, 1, 10, 0, 0, 0, 0, 84)) rfl) (v := 10) rfl ?_
          refine e_12 (f_229 (pc := 84) (e := (84, 12, 0, 0, 0, 0, 0, 85)) rfl) rfl ?_
          refine e_90 zA (f_229 (pc := 85) (e := (85, 90, 11, 18, 0, 197, 1281, 88)) rfl) rfl (hT 102 rfl) rfl rfl ?_
          refine e_30 (f_229 (pc := 88) (e := (88, 30, 0, 0, 0, 0, 0, 89)) rfl) ?_
          obtain ⟨b16, b17, F⟩ := F
          refine e_110 (f_229 (pc := 89) (e := (89, 110, 0, 0, 0, 0, 0, 90)) rfl) rfl (hT 105 rfl) b16 b17 ?_
          refine e_0 (f_229 (pc := 90) (e := (90, 0, 1, 0, 0, 0, 0, 91)) rfl) (v := 1) rfl ?_
          refine e_71 (f_229 (pc := 91) (e := (91, 71, 100, 0, 0, 0, 0, 94)) rfl) (fun c18 => ?_) (fun c18 => ?_)
          · replace F := F.1 c18
            refine e_12 (f_229 (pc := 100) (e := (100, 12, 0, 0, 0, 0, 0, 101)) rfl) rfl ?_
            refine e_90r zA (f_229 (pc := 101) (e := (101, 90, 11, 7, 3, 37, 1160, 104)) rfl) rfl (hT 102 rfl) rfl rfl (hR 102 7 rfl) ?_
            refine e_2 (f_229 (pc := 104) (e := (104, 2, 326, 0, 0, 0, 0, 107)) rfl) (v := 326) rfl ?_
            refine e_10 (f_229 (pc := 107) (e := (107, 10, 1, 0, 0, 0, 0, 108)) rfl) rfl ?_
            refine e_30 (f_229 (pc := 108) (e := (108, 30, 0, 0, 0, 0, 0, 109)) rfl) ?_
            refine e_12 (f_229 (pc := 109) (e := (109, 12, 0, 0, 0, 0, 0, 110)) rfl) rfl ?_
            refine e_90 zA (f_229 (pc := 110) (e := (110, 90, 11, 18, 0, 197, 1281, 113)) rfl) rfl (hT 102 rfl) rfl rfl ?_
            obtain ⟨b19, b20, F⟩ := F
            refine e_111 (f_229 (pc := 113) (e := (113, 111, 0, 0, 0, 0, 0, 114)) rfl) rfl (hT 105 rfl) b19 b20 ?_
            replace F := F _ rfl
            refine e_12 (f_229 (pc := 114) (e := (114, 12, 0, 0, 0, 0, 0, 115)) rfl) rfl ?_
            refine e_130 (f_229 (pc := 115) (e := (115, 130, 182, 0, 11, 190, 1224, 118)) rfl) zA (as := [yr (some 102)]) (rest := []) rfl rfl rfl rfl (Nat.le_of_ble_eq_true rfl) (Nat.le_of_ble_eq_true rfl) ⟨_, _, _, rfl, (hT 102 rfl)⟩ (mc := 0) (ms := 0) (Nat.zero_le _) (Nat.zero_le _) ?_
            refine e_K ?_ F
            rintro r h' ⟨I22, rfl, rfl, F⟩
            refine e_12 (f_229 (pc := 118) (e := (118, 12, 0, 0, 0, 0, 0, 119)) rfl) rfl ?_
            refine e_0 (f_229 (pc := 119) (e := (119, 0, 0, 0, 0, 0, 0, 120)) rfl) (v := 0) rfl ?_
            refine e_1 (f_229 (pc := 120) (e := (120, 1, 9, 0, 0, 0, 0, 122)) rfl) (v := 9) rfl ?_
            refine e_130 (f_229 (pc := 122) (e := (122, 130, 245, 0, 11, 200, 1280, 125)) rfl) zA (as := [yr (some 102), yi 0, yi 9]) (rest := []) rfl rfl rfl rfl (Nat.le_of_ble_eq_true rfl) (Nat.le_of_ble_eq_true rfl) ⟨_, _, _, rfl, (hT 102 rfl)⟩ (mc := 0) (ms := 0) (Nat.zero_le _) (Nat.zero_le _) ?_
            refine e_K ?_ F
            rintro r h' ⟨r24, I23, rfl, rfl, F⟩
            refine e_61 (f_229 (pc := 125) (e := (125, 61, 130, 0, 0, 0, 0, 128)) rfl) (fun c25 => ?_) (fun c25 => ?_)
            · replace F := F.1 c25
              refine e_12 (f_229 (pc := 130) (e := (130, 12, 0, 0, 0, 0, 0, 131)) rfl) rfl ?_
              refine e_90r zA (f_229 (pc := 131) (e := (131, 90, 11, 7, 3, 37, 1160, 134)) rfl) rfl (hT 102 rfl) rfl rfl (hR 102 7 rfl) ?_
              refine e_2 (f_229 (pc := 134) (e := (134, 2, 310, 0, 0, 0, 0, 137)) rfl) (v := 310) rfl ?_
              refine e_10 (f_229 (pc := 137) (e := (137, 10, 1, 0, 0, 0, 0, 138)) rfl) rfl ?_
              refine e_30 (f_229 (pc := 138) (e := (138, 30, 0, 0, 0, 0, 0, 139)) rfl) ?_
              refine e_12 (f_229 (pc := 139) (e := (139, 12, 0, 0, 0, 0, 0, 140)) rfl) rfl ?_
              refine e_90 zA (f_229 (pc := 140) (e := (140, 90, 11, 18, 0, 197, 1281, 143)) rfl) rfl (hT 102 rfl) rfl rfl ?_
              obtain ⟨b26, b27, F⟩ := F
              refine e_111 (f_229 (pc := 143) (e := (143, 111, 0, 0, 0, 0, 0, 144)) rfl) rfl (hT 105 rfl) b26 b27 ?_
              replace F := F _ rfl
              refine e_12 (f_229 (pc := 144) (e := (144, 12, 0, 0, 0, 0, 0, 145)) rfl) rfl ?_
              refine e_0 (f_229 (pc := 145) (e := (145, 0, 0, 0, 0, 0, 0, 146)) rfl) (v := 0) rfl ?_
              refine e_1 (f_229 (pc := 146) (e := (146, 1, 9, 0, 0, 0, 0, 148)) rfl) (v := 9) rfl ?_
              refine e_130 (f_229 (pc := 148) (e := (148, 130, 245, 0, 11, 200, 1280, 151)) rfl) zA (as := [yr (some 102), yi 0, yi 9]) (rest := []) rfl rfl rfl rfl (Nat.le_of_ble_eq_true rfl) (Nat.le_of_ble_eq_true rfl) ⟨_, _, _, rfl, (hT 102 rfl)⟩ (mc := 0) (ms := 0) (Nat.zero_le _) (Nat.zero_le _) ?_
              refine e_K ?_ F
              rintro r h' ⟨r30, I29, rfl, rfl, F⟩
              refine e_61 (f_229 (pc := 151) (e := (151, 61, 156, 0, 0, 0, 0, 154)) rfl) (fun c31 => ?_) (fun c31 => ?_)
              · replace F := F.1 c31
                refine e_12 (f_229 (pc := 156) (e := (156, 12, 0, 0, 0, 0, 0, 157)) rfl) rfl ?_
                refine e_90r zA (f_229 (pc := 157) (e := (157, 90, 11, 7, 3, 37, 1160, 160)) rfl) rfl (hT 102 rfl) rfl rfl (hR 102 7 rfl) ?_
                refine e_2 (f_229 (pc := 160) (e := (160, 2, 318, 0, 0, 0, 0, 163)) rfl) (v := 318) rfl ?_
                refine e_10 (f_229 (pc := 163) (e := (163, 10, 1, 0, 0, 0, 0, 164)) rfl) rfl ?_
                refine e_30 (f_229 (pc := 164) (e := (164, 30, 0, 0, 0, 0, 0, 165)) rfl) ?_
                refine e_12 (f_229 (pc := 165) (e := (165, 12, 0, 0, 0, 0, 0, 166)) rfl) rfl ?_
                refine e_90 zA (f_229 (pc := 166) (e := (166, 90, 11, 18, 0, 197, 1281, 169)) rfl) rfl (hT 102 rfl) rfl rfl ?_
                obtain ⟨b32, b33, F⟩ := F
                refine e_111 (f_229 (pc := 169) (e := (169, 111, 0, 0, 0, 0, 0, 170)) rfl) rfl (hT 105 rfl) b32 b33 ?_
                replace F := F _ rfl
                refine e_12 (f_229 (pc := 170) (e := (170, 12, 0, 0, 0, 0, 0, 171)) rfl) rfl ?_
                refine e_130 (f_229 (pc := 171) (e := (171, 130, 212, 0, 11, 208, 1283, 174)) rfl) zA (as := [yr (some 102)]) (rest := []) rfl rfl rfl rfl (Nat.le_of_ble_eq_true rfl) (Nat.le_of_ble_eq_true rfl) ⟨_, _, _, rfl, (hT 102 rfl)⟩ (mc := 0) (ms := 0) (Nat.zero_le _) (Nat.zero_le _) ?_
                refine e_K ?_ F
                rintro r h' ⟨r36, I35, rfl, rfl, F⟩
                refine e_61 (f_229 (pc := 174) (e := (174, 61, 179, 0, 0, 0, 0, 177)) rfl) (fun c37 => ?_) (fun c37 => ?_)
                · replace F := F.1 c37
                  refine e_12 (f_229 (pc := 179) (e := (179, 12, 0, 0, 0, 0, 0, 180)) rfl) rfl ?_
                  refine e_90r zA (f_229 (pc := 180) (e := (180, 90, 11, 7, 3, 37, 1160, 183)) rfl) rfl (hT 102 rfl) rfl rfl (hR 102 7 rfl) ?_
                  refine e_1 (f_229 (pc := 183) (e := (183, 1, 10, 0, 0, 0, 0, 185)) rfl) (v := 10) rfl ?_
                  refine e_12 (f_229 (pc := 185) (e := (185, 12, 0, 0, 0, 0, 0, 186)) rfl) rfl ?_
                  refine e_90 zA (f_229 (pc := 186) (e := (186, 90, 11, 18, 0, 197, 1281, 189)) rfl) rfl (hT 102 rfl) rfl rfl ?_
                  refine e_30 (f_229 (pc := 189) (e := (189, 30, 0, 0, 0, 0, 0, 190)) rfl) ?_
                  obtain ⟨b38, b39, F⟩ := F
                  refine e_110 (f_229 (pc := 190) (e := (190, 110, 0, 0, 0, 0, 0, 191)) rfl) rfl (hT 105 rfl) b38 b39 ?_
                  refine e_0 (f_229 (pc := 191) (e := (191, 0, 1, 0, 0, 0, 0, 192)) rfl) (v := 1) rfl ?_
                  refine e_71 (f_229 (pc := 192) (e := (192, 71, 201, 0, 0, 0, 0, 195)) rfl) (fun c40 => ?_) (fun c40 => ?_)
                  · replace F := F.1 c40
                    refine e_12 (f_229 (pc := 201) (e := (201, 12, 0, 0, 0, 0, 0, 202)) rfl) rfl ?_
                    refine e_90r zA (f_229 (pc := 202) (e := (202, 90, 11, 7, 3, 37, 1160, 205)) rfl) rfl (hT 102 rfl) rfl rfl (hR 102 7 rfl) ?_
                    refine e_2 (f_229 (pc := 205) (e := (205, 2, 334, 0, 0, 0, 0, 208)) rfl) (v := 334) rfl ?_
                    refine e_10 (f_229 (pc := 208) (e := (208, 10, 1, 0, 0, 0, 0, 209)) rfl) rfl ?_
                    refine e_30 (f_229 (pc := 209) (e := (209, 30, 0, 0, 0, 0, 0, 210)) rfl) ?_
                    refine e_12 (f_229 (pc := 210) (e := (210, 12, 0, 0, 0, 0, 0, 211)) rfl) rfl ?_
                    refine e_90 zA (f_229 (pc := 211) (e := (211, 90, 11, 18, 0, 197, 1281, 214)) rfl) rfl (hT 102 rfl) rfl rfl ?_
                    obtain ⟨b41, b42, F⟩ := F
                    refine e_111 (f_229 (pc := 214) (e := (214, 111, 0, 0, 0, 0, 0, 215)) rfl) rfl (hT 105 rfl) b41 b42 ?_
                    replace F := F _ rfl
                    refine e_12 (f_229 (pc := 215) (e := (215, 12, 0, 0, 0, 0, 0, 216)) rfl) rfl ?_
                    refine e_130 (f_229 (pc := 216) (e := (216, 130, 182, 0, 11, 190, 1224, 219)) rfl) zA (as := [yr (some 102)]) (rest := []) rfl rfl rfl rfl (Nat.le_of_ble_eq_true rfl) (Nat.le_of_ble_eq_true rfl) ⟨_, _, _, rfl, (hT 102 rfl)⟩ (mc := 0) (ms := 0) (Nat.zero_le _) (Nat.zero_le _) ?_
                    refine e_K ?_ F
                    rintro r h' ⟨I44, rfl, rfl, F⟩
                    refine e_12 (f_229 (pc := 219) (e := (219, 12, 0, 0, 0, 0, 0, 220)) rfl) rfl ?_
                    refine e_90r zA (f_229 (pc := 220) (e := (220, 90, 11, 7, 3, 37, 1160, 223)) rfl) rfl (hT 102 rfl) rfl rfl (hR 102 7 rfl) ?_
                    refine e_0 (f_229 (pc := 223) (e := (223, 0, 2, 0, 0, 0, 0, 224)) rfl) (v := 2) rfl ?_
                    refine e_51 (f_229 (pc := 224) (e := (224, 51, 0, 0, 0, 0, 0, 225)) rfl) rfl rfl ?_
                    refine e_110 (f_229 (pc := 225) (e := (225, 110, 0, 0, 0, 0, 0, 226)) rfl) rfl (hT 105 rfl) (by decide) (by decide) ?_
                    refine e_0 (f_229 (pc := 226) (e := (226, 0, 1, 0, 0, 0, 0, 227)) rfl) (v := 1) rfl ?_
                    refine e_30 (f_229 (pc := 227) (e := (227, 30, 0, 0, 0, 0, 0, 228)) rfl) ?_
                    refine e_111 (f_229 (pc := 228) (e := (228, 111, 0, 0, 0, 0, 0, 229)) rfl) rfl (hT 105 rfl) (by decide) (by decide) ?_
                    replace F := F _ rfl
                    refine e_0 (f_229 (pc := 229) (e := (229, 0, 1, 0, 0, 0, 0, 230)) rfl) (v := 1) rfl ?_
                    exact e_121 (f_229 (pc := 230) (e := (230, 121, 0, 0, 0, 0, 0, 0)) rfl) (.inr rfl) F
                  · replace F := F.2 c40
                    refine e_12 (f_229 (pc := 195) (e := (195, 12, 0, 0, 0, 0, 0, 196)) rfl) rfl ?_
                    refine e_0 (f_229 (pc := 196) (e := (196, 0, 5, 0, 0, 0, 0, 197)) rfl) (v := 5) rfl ?_
                    refine e_130 (f_229 (pc := 197) (e := (197, 130, 159, 0, 11, 187, 1243, 200)) rfl) zA (as := [yr (some 102), yi 5]) (rest := []) rfl rfl rfl rfl (Nat.le_of_ble_eq_true rfl) (Nat.le_of_ble_eq_true rfl) ⟨_, _, _, rfl, (hT 102 rfl)⟩ (mc := 0) (ms := 0) (Nat.zero_le _) (Nat.zero_le _) ?_
                    refine e_K ?_ F
                    rintro r h' ⟨r47, I46, rfl, rfl, F⟩
                    exact e_121 (f_229 (pc := 200) (e := (200, 121, 0, 0, 0, 0, 0, 201)) rfl) F.1 F.2
                · replace F := F.2 c37
                  refine e_0 (f_229 (pc := 177) (e := (177, 0, 0, 0, 0, 0, 0, 178)) rfl) (v := 0) rfl ?_
                  exact e_121 (f_229 (pc := 178) (e := (178, 121, 0, 0, 0, 0, 0, 179)) rfl) (.inl rfl) F
              · replace F := F.2 c31
                refine e_0 (f_229 (pc := 154) (e := (154, 0, 0, 0, 0, 0, 0, 155)) rfl) (v := 0) rfl ?_
                exact e_121 (f_229 (pc := 155) (e := (155, 121, 0, 0, 0, 0, 0, 156)) rfl) (.inl rfl) F
            · replace F := F.2 c25
              refine e_0 (f_229 (pc := 128) (e := (128, 0, 0, 0, 0, 0, 0, 129)) rfl) (v := 0) rfl ?_
              exact e_121 (f_229 (pc := 129) (e := (129, 121, 0, 0, 0, 0, 0, 130)) rfl) (.inl rfl) F
          · replace F := F.2 c18
            refine e_12 (f_229 (pc := 94) (e := (94, 12, 0, 0, 0, 0, 0, 95)) rfl) rfl ?_
            refine e_0 (f_229 (pc := 95) (e := (95, 0, 5, 0, 0, 0, 0, 96)) rfl) (v := 5) rfl ?_
            refine e_130 (f_229 (pc := 96) (e := (96, 130, 159, 0, 11, 187, 1243, 99)) rfl) zA (as := [yr (some 102), yi 5]) (rest := []) rfl rfl rfl rfl (Nat.le_of_ble_eq_true rfl) (Nat.le_of_ble_eq_true rfl) ⟨_, _, _, rfl, (hT 102 rfl)⟩ (mc := 0) (ms := 0) (Nat.zero_le _) (Nat.zero_le _) ?_
            refine e_K ?_ F
            rintro r h' ⟨r49, I48, rfl, rfl, F⟩
            exact e_121 (f_229 (pc := 99) (e := (99, 121, 0, 0, 0, 0, 0, 100)) rfl) F.1 F.2
        · replace F := F.2 c15
          refine e_0 (f_229 (pc := 76) (e := (76, 0, 0, 0, 0, 0, 0, 77)) rfl) (v := 0) rfl ?_
          exact e_121 (f_229 (pc := 77) (e := (77, 121, 0, 0, 0, 0, 0, 78)) rfl) (.inl rfl) F
      · replace F := F.2 c8
        refine e_12 (f_229 (pc := 46) (e := (46, 12, 0, 0, 0, 0, 0, 47)) rfl) rfl ?_
        refine e_0 (f_229 (pc := 47) (e := (47, 0, 3, 0, 0, 0, 0, 48)) rfl) (v := 3) rfl ?_
        refine e_130 (f_229 (pc := 48) (e := (48, 130, 159, 0, 11, 187, 1243, 51)) rfl) zA (as := [yr (some 102), yi 3]) (rest := []) rfl rfl rfl rfl (Nat.le_of_ble_eq_true rfl) (Nat.le_of_ble_eq_true rfl) ⟨_, _, _, rfl, (hT 102 rfl)⟩ (mc := 0) (ms := 0) (Nat.zero_le _) (Nat.zero_le _) ?_
        refine e_K ?_ F
        rintro r h' ⟨r51, I50, rfl, rfl, F⟩
        exact e_121 (f_229 (pc := 51) (e := (51, 121, 0, 0, 0, 0, 0, 52)) rfl) F.1 F.2
    · replace F := F.2 c5
      refine e_12 (f_229 (pc := 30) (e := (30, 12, 0, 0, 0, 0, 0, 31)) rfl) rfl ?_
      refine e_0 (f_229 (pc := 31) (e := (31, 0, 1, 0, 0, 0, 0, 32)) rfl) (v := 1) rfl ?_
      refine e_130 (f_229 (pc := 32) (e := (32, 130, 159, 0, 11, 187, 1243, 35)) rfl) zA (as := [yr (some 102), yi 1]) (rest := []) rfl rfl rfl rfl (Nat.le_of_ble_eq_true rfl) (Nat.le_of_ble_eq_true rfl) ⟨_, _, _, rfl, (hT 102 rfl)⟩ (mc := 0) (ms := 0) (Nat.zero_le _) (Nat.zero_le _) ?_
      refine e_K ?_ F
      rintro r h' ⟨r53, I52, rfl, rfl, F⟩
      exact e_121 (f_229 (pc := 35) (e := (35, 121, 0, 0, 0, 0, 0, 36)) rfl) F.1 F.2
  · replace F := F.2 c1
    refine e_12 (f_229 (pc := 13) (e := (13, 12, 0, 0, 0, 0, 0, 14)) rfl) rfl ?_
    refine e_0 (f_229 (pc := 14) (e := (14, 0, 4, 0, 0, 0, 0, 15)) rfl) (v := 4) rfl ?_
    refine e_130 (f_229 (pc := 15) (e := (15, 130, 159, 0, 11, 187, 1243, 18)) rfl) zA (as := [yr (some 102), yi 4]) (rest := []) rfl rfl rfl rfl (Nat.le_of_ble_eq_true rfl) (Nat.le_of_ble_eq_true rfl) ⟨_, _, _, rfl, (hT 102 rfl)⟩ (mc := 0) (ms := 0) (Nat.zero_le _) (Nat.zero_le _) ?_
    refine e_K ?_ F
    rintro r h' ⟨r55, I54, rfl, rfl, F⟩
    exact e_121 (f_229 (pc := 18) (e := (18, 121, 0, 0, 0, 0, 0, 19)) rfl) F.1 F.2

/-! readOn(III)Z -/
set_option maxRecDepth 20000 in
theorem B_230_0 (hT : yLT T) (hR : yLR R) {x1 x2 x3 : Int} (F : 0 ≤ x2 ∧ x2 < 458 ∧ (((I 105 x2.toNat) ≠ x3 → yW l zSS D cy zFk z d 182 0 0 (fun r h' => ∃ I4, r = none ∧ h' = (N, T, R, I4) ∧ (yW l zSS D cy zFk z d 212 0 0 (fun r h' => ∃ r6 I5, r = some (yi r6) ∧ h' = (N, T, R, I5) ∧ ((r6 ≠ 0 → 0 ≤ (yadd x1 (I5 102 18)) ∧ (yadd x1 (I5 102 18)) < 458 ∧ (((I5 105 (yadd x1 (I5 102 18)).toNat) ≠ 1 → 0 ≤ (yadd x1 (I5 102 18)) ∧ (yadd x1 (I5 102 18)) < 458 ∧ (∀ I13, I13 = yU I5 105 ((yadd x1 (I5 102 18)).toNat) (ynar 1 1) → (0 ≤ x2 ∧ x2 < 458 ∧ (0 ≤ x2 ∧ x2 < 458 ∧ (∀ I18, I18 = yU I13 105 x2.toNat (ynar 1 (yadd (I13 105 x2.toNat) 1)) → (yW l zSS D cy zFk z d 182 0 0 (fun r h' => ∃ I19, r = none ∧ h' = (N, T, R, I19) ∧ (K (some (yi 1)) (N, T, R, I19))) 0 0 0 [(0, yr (some 102))] [] (N, T, R, I18))))))) ∧ (¬ ((I5 105 (yadd x1 (I5 102 18)).toNat) ≠ 1) → yW l zSS D cy zFk z d 159 0 0 (fun r h' => ∃ r21 I20, r = some (yi r21) ∧ h' = (N, T, R, I20) ∧ ((r21 = 0 ∨ r21 = 1) ∧ K (some (yi r21)) (N, T, R, I20))) 0 0 0 [(0, yr (some 102)), (1, yi 3)] [] (N, T, R, I5)))) ∧ (¬ (r6 ≠ 0) → K (some (yi 0)) (N, T, R, I5)))) 0 0 0 [(0, yr (some 102))] [] (N, T, R, I4))) 0 0 0 [(0, yr (some 102))] [] (N, T, R, I)) ∧ (¬ ((I 105 x2.toNat) ≠ x3) → yW l zSS D cy zFk z d 159 0 0 (fun r h' => ∃ r23 I22, r = some (yi r23) ∧ h' = (N, T, R, I22) ∧ ((r23 = 0 ∨ r23 = 1) ∧ K (some (yi r23)) (N, T, R, I22))) 0 0 0 [(0, yr (some 102)), (1, yi 4)] [] (N, T, R, I)))) :
    yW l zSS D cy zFk z (d + 1) 230 bc bs K 0 0 0 [(0, yr (some 102)), (1, yi x1), (2, yi x2), (3, yi x3)] [] (N, T, R, I) := by
  refine e_12 (f_230 (pc := 0) (e := (0, 12, 0, 0, 0, 0, 0, 1)) rfl) rfl ?_
  refine e_90r zA (f_230 (pc := 1) (e := (1, 90, 11, 7, 3, 37, 1160, 4)) rfl) rfl (hT 102 rfl) rfl rfl (hR 102 7 rfl) ?_
  refine e_10 (f_230 (pc := 4) (e := (4, 10, 2, 0, 0, 0, 0, 5)) rfl) rfl ?_
  obtain ⟨b1, b2, F⟩ := F
  refine e_110 (f_230 (pc := 5) (e := (5, 110, 0, 0, 0, 0, 0, 6)) rfl) rfl (hT 105 rfl) b1 b2 ?_
  refine e_10 (f_230 (pc := 6) (e := (6, 10, 3, 0, 0, 0, 0, 7)) rfl) rfl ?_
  refine e_71 (f_230 (pc := 7) (e := (7, 71, 16, 0, 0, 0, 0, 10)) rfl) (fun c3 => ?_) (fun c3 => ?_)
  · replace F := F.1 c3
    refine e_12 (f_230 (pc := 16) (e := (16, 12, 0, 0, 0, 0, 0, 17)) rfl) rfl ?_
    refine e_130 (f_230 (pc := 17) (e := (17, 130, 182, 0, 11, 190, 1224, 20)) rfl) zA (as := [yr (some 102)]) (rest := []) rfl rfl rfl rfl (Nat.le_of_ble_eq_true rfl) (Nat.le_of_ble_eq_true rfl) ⟨_, _, _, rfl, (hT 102 rfl)⟩ (mc := 0) (ms := 0) (Nat.zero_le _) (Nat.zero_le _) ?_
    refine e_K ?_ F
    rintro r h' ⟨I4, rfl, rfl, F⟩
    refine e_12 (f_230 (pc := 20) (e := (20, 12, 0, 0, 0, 0, 0, 21)) rfl) rfl ?_
    refine e_130 (f_230 (pc := 21) (e := (21, 130, 212, 0, 11, 208, 1283, 24)) rfl) zA (as := [yr (some 102)]) (rest := []) rfl rfl rfl rfl (Nat.le_of_ble_eq_true rfl) (Nat.le_of_ble_eq_true rfl) ⟨_, _, _, rfl, (hT 102 rfl)⟩ (mc := 0) (ms := 0) (Nat.zero_le _) (Nat.zero_le _) ?_
    refine e_K ?_ F
    rintro r h' ⟨r6, I5, rfl, rfl, F⟩
    refine e_61 (f_230 (pc := 24) (e := (24, 61, 29, 0, 0, 0, 0, 27)) rfl) (fun c7 => ?_) (fun c7 => ?_)
    · replace F := F.1 c7
      refine e_12 (f_230 (pc := 29) (e := (29, 12, 0, 0, 0, 0, 0, 30)) rfl) rfl ?_
      refine e_90r zA (f_230 (pc := 30) (e := (30, 90, 11, 7, 3, 37, 1160, 33)) rfl) rfl (hT 102 rfl) rfl rfl (hR 102 7 rfl) ?_
      refine e_10 (f_230 (pc := 33) (e := (33, 10, 1, 0, 0, 0, 0, 34)) rfl) rfl ?_
      refine e_12 (f_230 (pc := 34) (e := (34, 12, 0, 0, 0, 0, 0, 35)) rfl) rfl ?_
      refine e_90 zA (f_230 (pc := 35) (e := (35, 90, 11, 18, 0, 197, 1281, 38)) rfl) rfl (hT 102 rfl) rfl rfl ?_
      refine e_30 (f_230 (pc := 38) (e := (38, 30, 0, 0, 0, 0, 0, 39)) rfl) ?_
      obtain ⟨b8, b9, F⟩ := F
      refine e_110 (f_230 (pc := 39) (e := (39, 110, 0, 0, 0, 0, 0, 40)) rfl) rfl (hT 105 rfl) b8 b9 ?_
      refine e_0 (f_230 (pc := 40) (e := (40, 0, 1, 0, 0, 0, 0, 41)) rfl) (v := 1) rfl ?_
      refine e_71 (f_230 (pc := 41) (e := (41, 71, 50, 0, 0, 0, 0, 44)) rfl) (fun c10 => ?_) (fun c10 => ?_)
      · replace F := F.1 c10
        refine e_12 (f_230 (pc := 50) (e := (50, 12, 0, 0, 0, 0, 0, 51)) rfl) rfl ?_
        refine e_90r zA (f_230 (pc := 51) (e := (51, 90, 11, 7, 3, 37, 1160, 54)) rfl) rfl (hT 102 rfl) rfl rfl (hR 102 7 rfl) ?_
        refine e_10 (f_230 (pc := 54) (e := (54, 10, 1, 0, 0, 0, 0, 55)) rfl) rfl ?_
        refine e_12 (f_230 (pc := 55) (e := (55, 12, 0, 0, 0, 0, 0, 56)) rfl) rfl ?_
        refine e_90 zA (f_230 (pc := 56) (e := (56, 90, 11, 18, 0, 197, 1281, 59)) rfl) rfl (hT 102 rfl) rfl rfl ?_
        refine e_30 (f_230 (pc := 59) (e := (59, 30, 0, 0, 0, 0, 0, 60)) rfl) ?_
        refine e_0 (f_230 (pc := 60) (e := (60, 0, 1, 0, 0, 0, 0, 61)) rfl) (v := 1) rfl ?_
        obtain ⟨b11, b12, F⟩ := F
        refine e_111 (f_230 (pc := 61) (e := (61, 111, 0, 0, 0, 0, 0, 62)) rfl) rfl (hT 105 rfl) b11 b12 ?_
        replace F := F _ rfl
        refine e_12 (f_230 (pc := 62) (e := (62, 12, 0, 0, 0, 0, 0, 63)) rfl) rfl ?_
        refine e_90r zA (f_230 (pc := 63) (e := (63, 90, 11, 7, 3, 37, 1160, 66)) rfl) rfl (hT 102 rfl) rfl rfl (hR 102 7 rfl) ?_
        refine e_10 (f_230 (pc := 66) (e := (66, 10, 2, 0, 0, 0, 0, 67)) rfl) rfl ?_
        refine e_51 (f_230 (pc := 67) (e := (67, 51, 0, 0, 0, 0, 0, 68)) rfl) rfl rfl ?_
        obtain ⟨b14, b15, F⟩ := F
        refine e_110 (f_230 (pc := 68) (e := (68, 110, 0, 0, 0, 0, 0, 69)) rfl) rfl (hT 105 rfl) b14 b15 ?_
        refine e_0 (f_230 (pc := 69) (e := (69, 0, 1, 0, 0, 0, 0, 70)) rfl) (v := 1) rfl ?_
        refine e_30 (f_230 (pc := 70) (e := (70, 30, 0, 0, 0, 0, 0, 71)) rfl) ?_
        obtain ⟨b16, b17, F⟩ := F
        refine e_111 (f_230 (pc := 71) (e := (71, 111, 0, 0, 0, 0, 0, 72)) rfl) rfl (hT 105 rfl) b16 b17 ?_
        replace F := F _ rfl
        refine e_12 (f_230 (pc := 72) (e := (72, 12, 0, 0, 0, 0, 0, 73)) rfl) rfl ?_
        refine e_130 (f_230 (pc := 73) (e := (73, 130, 182, 0, 11, 190, 1224, 76)) rfl) zA (as := [yr (some 102)]) (rest := []) rfl rfl rfl rfl (Nat.le_of_ble_eq_true rfl) (Nat.le_of_ble_eq_true rfl) ⟨_, _, _, rfl, (hT 102 rfl)⟩ (mc := 0) (ms := 0) (Nat.zero_le _) (Nat.zero_le _) ?_
        refine e_K ?_ F
        rintro r h' ⟨I19, rfl, rfl, F⟩
        refine e_0 (f_230 (pc := 76) (e := (76, 0, 1, 0, 0, 0, 0, 77)) rfl) (v := 1) rfl ?_
        exact e_121 (f_230 (pc := 77) (e := (77, 121, 0, 0, 0, 0, 0, 0)) rfl) (.inr rfl) F
      · replace F := F.2 c10
        refine e_12 (f_230 (pc := 44) (e := (44, 12, 0, 0, 0, 0, 0, 45)) rfl) rfl ?_
        refine e_0 (f_230 (pc := 45) (e := (45, 0, 3, 0, 0, 0, 0, 46)) rfl) (v := 3) rfl ?_
        refine e_130 (f_230 (pc := 46) (e := (46, 130, 159, 0, 11, 187, 1243, 49)) rfl) zA (as := [yr (some 102), yi 3]) (rest := []) rfl rfl rfl rfl (Nat.le_of_ble_eq_true rfl) (Nat.le_of_ble_eq_true rfl) ⟨_, _, _, rfl, (hT 102 rfl)⟩ (mc := 0) (ms := 0) (Nat.zero_le _) (Nat.zero_le _) ?_
        refine e_K ?_ F
        rintro r h' ⟨r21, I20, rfl, rfl, F⟩
        exact e_121 (f_230 (pc := 49) (e := (49, 121, 0, 0, 0, 0, 0, 50)) rfl) F.1 F.2
    · replace F := F.2 c7
      refine e_0 (f_230 (pc := 27) (e := (27, 0, 0, 0, 0, 0, 0, 28)) rfl) (v := 0) rfl ?_
      exact e_121 (f_230 (pc := 28) (e := (28, 121, 0, 0, 0, 0, 0, 29)) rfl) (.inl rfl) F
  · replace F := F.2 c3
    refine e_12 (f_230 (pc := 10) (e := (10, 12, 0, 0, 0, 0, 0, 11)) rfl) rfl ?_
    refine e_0 (f_230 (pc := 11) (e := (11, 0, 4, 0, 0, 0, 0, 12)) rfl) (v := 4) rfl ?_
    refine e_130 (f_230 (pc := 12) (e := (12, 130, 159, 0, 11, 187, 1243, 15)) rfl) zA (as := [yr (some 102), yi 4]) (rest := []) rfl rfl rfl rfl (Nat.le_of_ble_eq_true rfl) (Nat.le_of_ble_eq_true rfl) ⟨_, _, _, rfl, (hT 102 rfl)⟩ (mc := 0) (ms := 0) (Nat.zero_le _) (Nat.zero_le _) ?_
    refine e_K ?_ F
    rintro r h' ⟨r23, I22, rfl, rfl, F⟩
    exact e_121 (f_230 (pc := 15) (e := (15, 121, 0, 0, 0, 0, 0, 16)) rfl) F.1 F.2

/-! restore(I)Z -/
set_option maxRecDepth 20000 in
theorem B_231_0 (hT : yLT T) (hR : yLR R) {x1 : Int} (F : ∀ I1, I1 = yU I 102 0 0 → (yW l zSS D cy zFk z d 191 0 0 (fun r h' => ∃ r3 I2, r = some (yi r3) ∧ h' = (N, T, R, I2) ∧ ((r3 = 0 → K (some (yi 0)) (N, T, R, I2)) ∧ (¬ (r3 = 0) → 0 ≤ x1 ∧ x1 < 2 ∧ (((I2 125 x1.toNat) ≠ 0 → yW l zSS D cy zFk z (d + 1) 231 bc bs K 0 0 27 [(0, yr (some 102)), (1, yi x1), (2, yi 0)] [] (N, T, R, I2)) ∧ (¬ ((I2 125 x1.toNat) ≠ 0) → K (some (yi 0)) (N, T, R, I2)))))) 0 0 0 [(0, yi x1), (1, yi 0), (2, yi 1)] [] (N, T, R, I1))) :
    yW l zSS D cy zFk z (d + 1) 231 bc bs K 0 0 0 [(0, yr (some 102)), (1, yi x1)] [] (N, T, R, I) := by
  refine e_12 (f_231 (pc := 0) (e := (0, 12, 0, 0, 0, 0, 0, 1)) rfl) rfl ?_
  refine e_0 (f_231 (pc := 1) (e := (1, 0, 0, 0, 0, 0, 0, 2)) rfl) (v := 0) rfl ?_
  refine e_91 zA (f_231 (pc := 2) (e := (2, 91, 11, 0, 0, 1, 1216, 5)) rfl) rfl (hT 102 rfl) rfl rfl trivial ?_
  replace F := F _ rfl
  refine e_10 (f_231 (pc := 5) (e := (5, 10, 1, 0, 0, 0, 0, 6)) rfl) rfl ?_
  refine e_0 (f_231 (pc := 6) (e := (6, 0, 0, 0, 0, 0, 0, 7)) rfl) (v := 0) rfl ?_
  refine e_0 (f_231 (pc := 7) (e := (7, 0, 1, 0, 0, 0, 0, 8)) rfl) (v := 1) rfl ?_
  refine e_132 (f_231 (pc := 8) (e := (8, 132, 191, 2, 11, 193, 1245, 11)) rfl) zA (as := [yi x1, yi 0, yi 1]) (rest := []) rfl rfl rfl rfl (Nat.le_of_ble_eq_true rfl) (Nat.le_of_ble_eq_true rfl) (mc := 0) (ms := 0) (Nat.zero_le _) (Nat.zero_le _) ?_
  refine e_K ?_ F
  rintro r h' ⟨r3, I2, rfl, rfl, F⟩
  refine e_60 (f_231 (pc := 11) (e := (11, 60, 23, 0, 0, 0, 0, 14)) rfl) (fun c4 => ?_) (fun c4 => ?_)
  · replace F := F.1 c4
    refine e_0 (f_231 (pc := 23) (e := (23, 0, 0, 0, 0, 0, 0, 24)) rfl) (v := 0) rfl ?_
    exact e_121 (f_231 (pc := 24) (e := (24, 121, 0, 0, 0, 0, 0, 25)) rfl) (.inl rfl) F
  · replace F := F.2 c4
    refine e_12 (f_231 (pc := 14) (e := (14, 12, 0, 0, 0, 0, 0, 15)) rfl) rfl ?_
    refine e_90r zA (f_231 (pc := 15) (e := (15, 90, 11, 56, 3, 100, 1181, 18)) rfl) rfl (hT 102 rfl) rfl rfl (hR 102 56 rfl) ?_
    refine e_10 (f_231 (pc := 18) (e := (18, 10, 1, 0, 0, 0, 0, 19)) rfl) rfl ?_
    obtain ⟨b5, b6, F⟩ := F
    refine e_112 (f_231 (pc := 19) (e := (19, 112, 0, 0, 0, 0, 0, 20)) rfl) rfl (hT 125 rfl) b5 b6 (.inr rfl) ?_
    refine e_61 (f_231 (pc := 20) (e := (20, 61, 25, 0, 0, 0, 0, 23)) rfl) (fun c7 => ?_) (fun c7 => ?_)
    · replace F := F.1 c7
      refine e_0 (f_231 (pc := 25) (e := (25, 0, 0, 0, 0, 0, 0, 26)) rfl) (v := 0) rfl ?_
      refine e_20 (f_231 (pc := 26) (e := (26, 20, 2, 0, 0, 0, 0, 27)) rfl) ?_
      refine e_lo [0, 1, 2] rfl ?_
      exact F
    · replace F := F.2 c7
      refine e_0 (f_231 (pc := 23) (e := (23, 0, 0, 0, 0, 0, 0, 24)) rfl) (v := 0) rfl ?_
      exact e_121 (f_231 (pc := 24) (e := (24, 121, 0, 0, 0, 0, 0, 25)) rfl) (.inl rfl) F
set_option maxRecDepth 20000 in
theorem B_231_27 (hT : yLT T) (hR : yLR R) {x1 x2 : Int} (F : (1188 ≤ x2 → yW l zSS D cy zFk z d 231 bc bs K 0 0 60 [(0, yr (some 102)), (1, yi x1), (2, yi 0)] [] (N, T, R, I)) ∧ (¬ (1188 ≤ x2) → 0 ≤ (yadd (ymul 1188 x1) x2) ∧ (yadd (ymul 1188 x1) x2) < 2376 ∧ (0 ≤ x2 ∧ x2 < 1188 ∧ (∀ I6, I6 = yU I 104 x2.toNat (ynar 1 (I 123 (yadd (ymul 1188 x1) x2).toNat)) → (yW l zSS D cy zFk z d 231 bc bs K 0 0 27 [(0, yr (some 102)), (1, yi x1), (2, yi (yadd x2 1))] [] (N, T, R, I6)))))) :
    yW l zSS D cy zFk z d 231 bc bs K 0 0 27 [(0, yr (some 102)), (1, yi x1), (2, yi x2)] [] (N, T, R, I) := by
  refine e_10 (f_231 (pc := 27) (e := (27, 10, 2, 0, 0, 0, 0, 28)) rfl) rfl ?_
  refine e_2 (f_231 (pc := 28) (e := (28, 2, 1188, 0, 0, 0, 0, 31)) rfl) (v := 1188) rfl ?_
  refine e_73 (f_231 (pc := 31) (e := (31, 73, 58, 0, 0, 0, 0, 34)) rfl) (fun c1 => ?_) (fun c1 => ?_)
  · replace F := F.1 c1
    refine e_0 (f_231 (pc := 58) (e := (58, 0, 0, 0, 0, 0, 0, 59)) rfl) (v := 0) rfl ?_
    refine e_20 (f_231 (pc := 59) (e := (59, 20, 2, 0, 0, 0, 0, 60)) rfl) ?_
    refine e_lo [0, 1, 2] rfl ?_
    exact F
  · replace F := F.2 c1
    refine e_12 (f_231 (pc := 34) (e := (34, 12, 0, 0, 0, 0, 0, 35)) rfl) rfl ?_
    refine e_90r zA (f_231 (pc := 35) (e := (35, 90, 11, 6, 3, 33, 1159, 38)) rfl) rfl (hT 102 rfl) rfl rfl (hR 102 6 rfl) ?_
    refine e_10 (f_231 (pc := 38) (e := (38, 10, 2, 0, 0, 0, 0, 39)) rfl) rfl ?_
    refine e_12 (f_231 (pc := 39) (e := (39, 12, 0, 0, 0, 0, 0, 40)) rfl) rfl ?_
    refine e_90r zA (f_231 (pc := 40) (e := (40, 90, 11, 54, 3, 94, 1179, 43)) rfl) rfl (hT 102 rfl) rfl rfl (hR 102 54 rfl) ?_
    refine e_2 (f_231 (pc := 43) (e := (43, 2, 1188, 0, 0, 0, 0, 46)) rfl) (v := 1188) rfl ?_
    refine e_10 (f_231 (pc := 46) (e := (46, 10, 1, 0, 0, 0, 0, 47)) rfl) rfl ?_
    refine e_32 (f_231 (pc := 47) (e := (47, 32, 0, 0, 0, 0, 0, 48)) rfl) ?_
    refine e_10 (f_231 (pc := 48) (e := (48, 10, 2, 0, 0, 0, 0, 49)) rfl) rfl ?_
    refine e_30 (f_231 (pc := 49) (e := (49, 30, 0, 0, 0, 0, 0, 50)) rfl) ?_
    obtain ⟨b2, b3, F⟩ := F
    refine e_110 (f_231 (pc := 50) (e := (50, 110, 0, 0, 0, 0, 0, 51)) rfl) rfl (hT 123 rfl) b2 b3 ?_
    obtain ⟨b4, b5, F⟩ := F
    refine e_111 (f_231 (pc := 51) (e := (51, 111, 0, 0, 0, 0, 0, 52)) rfl) rfl (hT 104 rfl) b4 b5 ?_
    replace F := F _ rfl
    refine e_26 (f_231 (pc := 52) (e := (52, 26, 2, 1, 0, 0, 0, 55)) rfl) (w := 1) rfl rfl ?_
    refine e_80 (f_231 (pc := 55) (e := (55, 80, 27, 0, 0, 0, 0, 58)) rfl) ?_
    refine e_lo [0, 1, 2] rfl ?_
    exact F
set_option maxRecDepth 20000 in
theorem B_231_60 (hT : yLT T) (hR : yLR R) {x1 x2 : Int} (F : (8 ≤ x2 → ∀ I2, I2 = yU I 102 35 0 → (K (some (yi 1)) (N, T, R, I2))) ∧ (¬ (8 ≤ x2) → 0 ≤ (yadd (ymul 8 x1) x2) ∧ (yadd (ymul 8 x1) x2) < 16 ∧ (0 ≤ x2 ∧ x2 < 16 ∧ (∀ I7, I7 = yU I 107 x2.toNat (I 124 (yadd (ymul 8 x1) x2).toNat) → (yW l zSS D cy zFk z d 231 bc bs K 0 0 60 [(0, yr (some 102)), (1, yi x1), (2, yi (yadd x2 1))] [] (N, T, R, I7)))))) :
    yW l zSS D cy zFk z d 231 bc bs K 0 0 60 [(0, yr (some 102)), (1, yi x1), (2, yi x2)] [] (N, T, R, I) := by
  refine e_10 (f_231 (pc := 60) (e := (60, 10, 2, 0, 0, 0, 0, 61)) rfl) rfl ?_
  refine e_1 (f_231 (pc := 61) (e := (61, 1, 8, 0, 0, 0, 0, 63)) rfl) (v := 8) rfl ?_
  refine e_73 (f_231 (pc := 63) (e := (63, 73, 89, 0, 0, 0, 0, 66)) rfl) (fun c1 => ?_) (fun c1 => ?_)
  · replace F := F.1 c1
    refine e_12 (f_231 (pc := 89) (e := (89, 12, 0, 0, 0, 0, 0, 90)) rfl) rfl ?_
    refine e_0 (f_231 (pc := 90) (e := (90, 0, 0, 0, 0, 0, 0, 91)) rfl) (v := 0) rfl ?_
    refine e_91 zA (f_231 (pc := 91) (e := (91, 91, 11, 35, 0, 259, 1230, 94)) rfl) rfl (hT 102 rfl) rfl rfl trivial ?_
    replace F := F _ rfl
    refine e_0 (f_231 (pc := 94) (e := (94, 0, 1, 0, 0, 0, 0, 95)) rfl) (v := 1) rfl ?_
    exact e_121 (f_231 (pc := 95) (e := (95, 121, 0, 0, 0, 0, 0, 0)) rfl) (.inr rfl) F
  · replace F := F.2 c1
    refine e_12 (f_231 (pc := 66) (e := (66, 12, 0, 0, 0, 0, 0, 67)) rfl) rfl ?_
    refine e_90r zA (f_231 (pc := 67) (e := (67, 90, 11, 9, 3, 43, 1162, 70)) rfl) rfl (hT 102 rfl) rfl rfl (hR 102 9 rfl) ?_
    refine e_10 (f_231 (pc := 70) (e := (70, 10, 2, 0, 0, 0, 0, 71)) rfl) rfl ?_
    refine e_12 (f_231 (pc := 71) (e := (71, 12, 0, 0, 0, 0, 0, 72)) rfl) rfl ?_
    refine e_90r zA (f_231 (pc := 72) (e := (72, 90, 11, 55, 3, 97, 1180, 75)) rfl) rfl (hT 102 rfl) rfl rfl (hR 102 55 rfl) ?_
    refine e_1 (f_231 (pc := 75) (e := (75, 1, 8, 0, 0, 0, 0, 77)) rfl) (v := 8) rfl ?_
    refine e_10 (f_231 (pc := 77) (e := (77, 10, 1, 0, 0, 0, 0, 78)) rfl) rfl ?_
    refine e_32 (f_231 (pc := 78) (e := (78, 32, 0, 0, 0, 0, 0, 79)) rfl) ?_
    refine e_10 (f_231 (pc := 79) (e := (79, 10, 2, 0, 0, 0, 0, 80)) rfl) rfl ?_
    refine e_30 (f_231 (pc := 80) (e := (80, 30, 0, 0, 0, 0, 0, 81)) rfl) ?_
    obtain ⟨b3, b4, F⟩ := F
    refine e_114 (f_231 (pc := 81) (e := (81, 114, 0, 0, 0, 0, 0, 82)) rfl) rfl (hT 124 rfl) b3 b4 ?_
    obtain ⟨b5, b6, F⟩ := F
    refine e_115 (f_231 (pc := 82) (e := (82, 115, 0, 0, 0, 0, 0, 83)) rfl) rfl (hT 107 rfl) b5 b6 ?_
    replace F := F _ rfl
    refine e_26 (f_231 (pc := 83) (e := (83, 26, 2, 1, 0, 0, 0, 86)) rfl) (w := 1) rfl rfl ?_
    refine e_80 (f_231 (pc := 86) (e := (86, 80, 60, 0, 0, 0, 0, 89)) rfl) ?_
    refine e_lo [0, 1, 2] rfl ?_
    exact F

/-! runs()V -/
set_option maxRecDepth 20000 in
theorem B_232_0 (hT : yLT T) (hR : yLR R) (F : yW l zSS D cy zFk z d 255 0 0 (fun r h' => ∃ I1, r = none ∧ h' = (N, T, R, I1) ∧ (yW l zSS D cy zFk z (d + 1) 232 bc bs K 0 0 4 [(0, yr (some 102))] [] (N, T, R, I1))) 0 0 0 [(0, yr (some 102))] [] (N, T, R, I)) :
    yW l zSS D cy zFk z (d + 1) 232 bc bs K 0 0 0 [(0, yr (some 102))] [] (N, T, R, I) := by
  refine e_12 (f_232 (pc := 0) (e := (0, 12, 0, 0, 0, 0, 0, 1)) rfl) rfl ?_
  refine e_130 (f_232 (pc := 1) (e := (1, 130, 255, 0, 11, 289, 1268, 4)) rfl) zA (as := [yr (some 102)]) (rest := []) rfl rfl rfl rfl (Nat.le_of_ble_eq_true rfl) (Nat.le_of_ble_eq_true rfl) ⟨_, _, _, rfl, (hT 102 rfl)⟩ (mc := 0) (ms := 0) (Nat.zero_le _) (Nat.zero_le _) ?_
  refine e_K ?_ F
  rintro r h' ⟨I1, rfl, rfl, F⟩
  refine e_lo [0] rfl ?_
  exact F
set_option maxRecDepth 20000 in
theorem B_232_4 (hT : yLT T) (hR : yLR R) (F : (500 ≤ (I 104 458) → K none (N, T, R, I)) ∧ (¬ (500 ≤ (I 104 458)) → yW l zSS D cy zFk z d 157 0 0 (fun r h' => ∃ r3 I2, r = some (yi r3) ∧ h' = (N, T, R, I2) ∧ ((r3 ≠ 0 → K none (N, T, R, I2)) ∧ (¬ (r3 ≠ 0) → yW l zSS D cy zFk z d 215 0 0 (fun r h' => ∃ I5, r = none ∧ h' = (N, T, R, I5) ∧ (yW l zSS D cy zFk z (d + 1) 232 bc bs K 0 0 4 [(0, yr (some 102))] [] (N, T, R, I5))) 0 0 0 [(0, yr (some 102))] [] (N, T, R, I2)))) 0 0 0 [(0, yr (some 102))] [] (N, T, R, I))) :
    yW l zSS D cy zFk z (d + 1) 232 bc bs K 0 0 4 [(0, yr (some 102))] [] (N, T, R, I) := by
  refine e_12 (f_232 (pc := 4) (e := (4, 12, 0, 0, 0, 0, 0, 5)) rfl) rfl ?_
  refine e_90r zA (f_232 (pc := 5) (e := (5, 90, 11, 6, 3, 33, 1159, 8)) rfl) rfl (hT 102 rfl) rfl rfl (hR 102 6 rfl) ?_
  refine e_2 (f_232 (pc := 8) (e := (8, 2, 458, 0, 0, 0, 0, 11)) rfl) (v := 458) rfl ?_
  refine e_110 (f_232 (pc := 11) (e := (11, 110, 0, 0, 0, 0, 0, 12)) rfl) rfl (hT 104 rfl) (by decide) (by decide) ?_
  refine e_2 (f_232 (pc := 12) (e := (12, 2, 500, 0, 0, 0, 0, 15)) rfl) (v := 500) rfl ?_
  refine e_73 (f_232 (pc := 15) (e := (15, 73, 32, 0, 0, 0, 0, 18)) rfl) (fun c1 => ?_) (fun c1 => ?_)
  · replace F := F.1 c1
    exact e_122 (f_232 (pc := 32) (e := (32, 122, 0, 0, 0, 0, 0, 0)) rfl) F
  · replace F := F.2 c1
    refine e_12 (f_232 (pc := 18) (e := (18, 12, 0, 0, 0, 0, 0, 19)) rfl) rfl ?_
    refine e_130 (f_232 (pc := 19) (e := (19, 130, 157, 0, 11, 336, 1276, 22)) rfl) zA (as := [yr (some 102)]) (rest := []) rfl rfl rfl rfl (Nat.le_of_ble_eq_true rfl) (Nat.le_of_ble_eq_true rfl) ⟨_, _, _, rfl, (hT 102 rfl)⟩ (mc := 0) (ms := 0) (Nat.zero_le _) (Nat.zero_le _) ?_
    refine e_K ?_ F
    rintro r h' ⟨r3, I2, rfl, rfl, F⟩
    refine e_61 (f_232 (pc := 22) (e := (22, 61, 32, 0, 0, 0, 0, 25)) rfl) (fun c4 => ?_) (fun c4 => ?_)
    · replace F := F.1 c4
      exact e_122 (f_232 (pc := 32) (e := (32, 122, 0, 0, 0, 0, 0, 0)) rfl) F
    · replace F := F.2 c4
      refine e_12 (f_232 (pc := 25) (e := (25, 12, 0, 0, 0, 0, 0, 26)) rfl) rfl ?_
      refine e_130 (f_232 (pc := 26) (e := (26, 130, 215, 0, 11, 339, 1269, 29)) rfl) zA (as := [yr (some 102)]) (rest := []) rfl rfl rfl rfl (Nat.le_of_ble_eq_true rfl) (Nat.le_of_ble_eq_true rfl) ⟨_, _, _, rfl, (hT 102 rfl)⟩ (mc := 0) (ms := 0) (Nat.zero_le _) (Nat.zero_le _) ?_
      refine e_K ?_ F
      rintro r h' ⟨I5, rfl, rfl, F⟩
      refine e_80 (f_232 (pc := 29) (e := (29, 80, 4, 0, 0, 0, 0, 32)) rfl) ?_
      refine e_lo [0] rfl ?_
      exact F

/-! said(I)I -/
set_option maxRecDepth 20000 in
theorem B_233_0 (hT : yLT T) (hR : yLR R) {x1 : Int} (F : ∀ I1, I1 = yU I 102 0 0 → (((I1 104 1007) = 0 → K (some (yi (-1))) (N, T, R, I1)) ∧ (¬ ((I1 104 1007) = 0) → ((-1) ≤ x1 → yW l zSS D cy zFk z d 233 bc bs K 0 0 27 [(0, yr (some 102)), (1, yi x1), (2, yi 0), (3, yi 0)] [] (N, T, R, I1)) ∧ (¬ ((-1) ≤ x1) → K (some (yi (-1))) (N, T, R, I1))))) :
    yW l zSS D cy zFk z d 233 bc bs K 0 0 0 [(0, yr (some 102)), (1, yi x1)] [] (N, T, R, I) := by
  refine e_12 (f_233 (pc := 0) (e := (0, 12, 0, 0, 0, 0, 0, 1)) rfl) rfl ?_
  refine e_0 (f_233 (pc := 1) (e := (1, 0, 0, 0, 0, 0, 0, 2)) rfl) (v := 0) rfl ?_
  refine e_91 zA (f_233 (pc := 2) (e := (2, 91, 11, 0, 0, 1, 1216, 5)) rfl) rfl (hT 102 rfl) rfl rfl trivial ?_
  replace F := F _ rfl
  refine e_12 (f_233 (pc := 5) (e := (5, 12, 0, 0, 0, 0, 0, 6)) rfl) rfl ?_
  refine e_90r zA (f_233 (pc := 6) (e := (6, 90, 11, 6, 3, 33, 1159, 9)) rfl) rfl (hT 102 rfl) rfl rfl (hR 102 6 rfl) ?_
  refine e_2 (f_233 (pc := 9) (e := (9, 2, 1007, 0, 0, 0, 0, 12)) rfl) (v := 1007) rfl ?_
  refine e_110 (f_233 (pc := 12) (e := (12, 110, 0, 0, 0, 0, 0, 13)) rfl) rfl (hT 104 rfl) (by decide) (by decide) ?_
  refine e_60 (f_233 (pc := 13) (e := (13, 60, 21, 0, 0, 0, 0, 16)) rfl) (fun c2 => ?_) (fun c2 => ?_)
  · replace F := F.1 c2
    refine e_0 (f_233 (pc := 21) (e := (21, 0, 4294967295, 0, 0, 0, 0, 22)) rfl) (v := (-1)) rfl ?_
    exact e_120 (f_233 (pc := 22) (e := (22, 120, 0, 0, 0, 0, 0, 23)) rfl) F
  · replace F := F.2 c2
    refine e_10 (f_233 (pc := 16) (e := (16, 10, 1, 0, 0, 0, 0, 17)) rfl) rfl ?_
    refine e_0 (f_233 (pc := 17) (e := (17, 0, 4294967295, 0, 0, 0, 0, 18)) rfl) (v := (-1)) rfl ?_
    refine e_73 (f_233 (pc := 18) (e := (18, 73, 23, 0, 0, 0, 0, 21)) rfl) (fun c3 => ?_) (fun c3 => ?_)
    · replace F := F.1 c3
      refine e_0 (f_233 (pc := 23) (e := (23, 0, 0, 0, 0, 0, 0, 24)) rfl) (v := 0) rfl ?_
      refine e_20 (f_233 (pc := 24) (e := (24, 20, 2, 0, 0, 0, 0, 25)) rfl) ?_
      refine e_0 (f_233 (pc := 25) (e := (25, 0, 0, 0, 0, 0, 0, 26)) rfl) (v := 0) rfl ?_
      refine e_20 (f_233 (pc := 26) (e := (26, 20, 3, 0, 0, 0, 0, 27)) rfl) ?_
      refine e_lo [0, 1, 2, 3] rfl ?_
      exact F
    · replace F := F.2 c3
      refine e_0 (f_233 (pc := 21) (e := (21, 0, 4294967295, 0, 0, 0, 0, 22)) rfl) (v := (-1)) rfl ?_
      exact e_120 (f_233 (pc := 22) (e := (22, 120, 0, 0, 0, 0, 0, 23)) rfl) F
set_option maxRecDepth 20000 in
theorem B_233_27 (hT : yLT T) (hR : yLR R) {x1 x2 x3 : Int} (F : ((I 104 2) ≤ x3 → (x1 ≠ (-1) → K (some (yi (-1))) (N, T, R, I)) ∧ (¬ (x1 ≠ (-1)) → K (some (yi x2)) (N, T, R, I))) ∧ (¬ ((I 104 2) ≤ x3) → yW l zSS D cy zFk z d 195 0 0 (fun r h' => ∃ r4 I3, r = some (yi r4) ∧ h' = (N, T, R, I3) ∧ ((r4 ≠ 0 → (x2 ≠ x1 → yW l zSS D cy zFk z (d + 1) 233 bc bs K 0 0 27 [(0, yr (some 102)), (1, yi x1), (2, yi (yadd x2 1)), (3, yi (yadd x3 1))] [] (N, T, R, I3)) ∧ (¬ (x2 ≠ x1) → K (some (yi x3)) (N, T, R, I3))) ∧ (¬ (r4 ≠ 0) → yW l zSS D cy zFk z (d + 1) 233 bc bs K 0 0 27 [(0, yr (some 102)), (1, yi x1), (2, yi x2), (3, yi (yadd x3 1))] [] (N, T, R, I3)))) 0 0 0 [(0, yr (some 102)), (1, yi x3)] [] (N, T, R, I))) :
    yW l zSS D cy zFk z (d + 1) 233 bc bs K 0 0 27 [(0, yr (some 102)), (1, yi x1), (2, yi x2), (3, yi x3)] [] (N, T, R, I) := by
  refine e_10 (f_233 (pc := 27) (e := (27, 10, 3, 0, 0, 0, 0, 28)) rfl) rfl ?_
  refine e_12 (f_233 (pc := 28) (e := (28, 12, 0, 0, 0, 0, 0, 29)) rfl) rfl ?_
  refine e_90r zA (f_233 (pc := 29) (e := (29, 90, 11, 6, 3, 33, 1159, 32)) rfl) rfl (hT 102 rfl) rfl rfl (hR 102 6 rfl) ?_
  refine e_0 (f_233 (pc := 32) (e := (32, 0, 2, 0, 0, 0, 0, 33)) rfl) (v := 2) rfl ?_
  refine e_110 (f_233 (pc := 33) (e := (33, 110, 0, 0, 0, 0, 0, 34)) rfl) rfl (hT 104 rfl) (by decide) (by decide) ?_
  refine e_73 (f_233 (pc := 34) (e := (34, 73, 64, 0, 0, 0, 0, 37)) rfl) (fun c1 => ?_) (fun c1 => ?_)
  · replace F := F.1 c1
    refine e_10 (f_233 (pc := 64) (e := (64, 10, 1, 0, 0, 0, 0, 65)) rfl) rfl ?_
    refine e_0 (f_233 (pc := 65) (e := (65, 0, 4294967295, 0, 0, 0, 0, 66)) rfl) (v := (-1)) rfl ?_
    refine e_71 (f_233 (pc := 66) (e := (66, 71, 73, 0, 0, 0, 0, 69)) rfl) (fun c2 => ?_) (fun c2 => ?_)
    · replace F := F.1 c2
      refine e_0 (f_233 (pc := 73) (e := (73, 0, 4294967295, 0, 0, 0, 0, 74)) rfl) (v := (-1)) rfl ?_
      exact e_120 (f_233 (pc := 74) (e := (74, 120, 0, 0, 0, 0, 0, 0)) rfl) F
    · replace F := F.2 c2
      refine e_10 (f_233 (pc := 69) (e := (69, 10, 2, 0, 0, 0, 0, 70)) rfl) rfl ?_
      refine e_80 (f_233 (pc := 70) (e := (70, 80, 74, 0, 0, 0, 0, 73)) rfl) ?_
      exact e_120 (f_233 (pc := 74) (e := (74, 120, 0, 0, 0, 0, 0, 0)) rfl) F
  · replace F := F.2 c1
    refine e_12 (f_233 (pc := 37) (e := (37, 12, 0, 0, 0, 0, 0, 38)) rfl) rfl ?_
    refine e_10 (f_233 (pc := 38) (e := (38, 10, 3, 0, 0, 0, 0, 39)) rfl) rfl ?_
    refine e_130 (f_233 (pc := 39) (e := (39, 130, 195, 0, 11, 451, 1296, 42)) rfl) zA (as := [yr (some 102), yi x3]) (rest := []) rfl rfl rfl rfl (Nat.le_of_ble_eq_true rfl) (Nat.le_of_ble_eq_true rfl) ⟨_, _, _, rfl, (hT 102 rfl)⟩ (mc := 0) (ms := 0) (Nat.zero_le _) (Nat.zero_le _) ?_
    refine e_K ?_ F
    rintro r h' ⟨r4, I3, rfl, rfl, F⟩
    refine e_61 (f_233 (pc := 42) (e := (42, 61, 48, 0, 0, 0, 0, 45)) rfl) (fun c5 => ?_) (fun c5 => ?_)
    · replace F := F.1 c5
      refine e_10 (f_233 (pc := 48) (e := (48, 10, 2, 0, 0, 0, 0, 49)) rfl) rfl ?_
      refine e_10 (f_233 (pc := 49) (e := (49, 10, 1, 0, 0, 0, 0, 50)) rfl) rfl ?_
      refine e_71 (f_233 (pc := 50) (e := (50, 71, 55, 0, 0, 0, 0, 53)) rfl) (fun c6 => ?_) (fun c6 => ?_)
      · replace F := F.1 c6
        refine e_26 (f_233 (pc := 55) (e := (55, 26, 2, 1, 0, 0, 0, 58)) rfl) (w := 1) rfl rfl ?_
        refine e_26 (f_233 (pc := 58) (e := (58, 26, 3, 1, 0, 0, 0, 61)) rfl) (w := 1) rfl rfl ?_
        refine e_80 (f_233 (pc := 61) (e := (61, 80, 27, 0, 0, 0, 0, 64)) rfl) ?_
        refine e_lo [0, 1, 2, 3] rfl ?_
        exact F
      · replace F := F.2 c6
        refine e_10 (f_233 (pc := 53) (e := (53, 10, 3, 0, 0, 0, 0, 54)) rfl) rfl ?_
        exact e_120 (f_233 (pc := 54) (e := (54, 120, 0, 0, 0, 0, 0, 55)) rfl) F
    · replace F := F.2 c5
      refine e_80 (f_233 (pc := 45) (e := (45, 80, 58, 0, 0, 0, 0, 48)) rfl) ?_
      refine e_26 (f_233 (pc := 58) (e := (58, 26, 3, 1, 0, 0, 0, 61)) rfl) (w := 1) rfl rfl ?_
      refine e_80 (f_233 (pc := 61) (e := (61, 80, 27, 0, 0, 0, 0, 64)) rfl) ?_
      refine e_lo [0, 1, 2, 3] rfl ?_
      exact F

/-! sentence()I -/
set_option maxRecDepth 20000 in
theorem B_234_0 (hT : yLT T) (hR : yLR R) (F : ∀ I1, I1 = yU I 102 0 0 → (yW l zSS D cy zFk z d 244 0 0 (fun r h' => ∃ I2, r = none ∧ h' = (N, T, R, I2) ∧ (∀ I3, I3 = yU I2 102 15 0 → (∀ I4, I4 = yU I3 102 48 0 → (∀ I5, I5 = yU I4 102 49 0 → (∀ I6, I6 = yU I5 102 50 0 → (∀ I7, I7 = yU I6 102 51 1 → (∀ I8, I8 = yU I7 102 52 0 → (yW l zSS D cy zFk z d 182 0 0 (fun r h' => ∃ I9, r = none ∧ h' = (N, T, R, I9) ∧ (yW l zSS D cy zFk z (d + 1) 234 bc bs K 0 0 48 [(0, yr (some 102)), (1, yi 1)] [] (N, T, R, I9))) 0 0 0 [(0, yr (some 102))] [] (N, T, R, I8))))))))) 0 0 0 [(0, yr (some 102)), (1, yi 200)] [] (N, T, R, I1))) :
    yW l zSS D cy zFk z (d + 1) 234 bc bs K 0 0 0 [(0, yr (some 102))] [] (N, T, R, I) := by
  refine e_12 (f_234 (pc := 0) (e := (0, 12, 0, 0, 0, 0, 0, 1)) rfl) rfl ?_
  refine e_0 (f_234 (pc := 1) (e := (1, 0, 0, 0, 0, 0, 0, 2)) rfl) (v := 0) rfl ?_
  refine e_91 zA (f_234 (pc := 2) (e := (2, 91, 11, 0, 0, 1, 1216, 5)) rfl) rfl (hT 102 rfl) rfl rfl trivial ?_
  replace F := F _ rfl
  refine e_12 (f_234 (pc := 5) (e := (5, 12, 0, 0, 0, 0, 0, 6)) rfl) rfl ?_
  refine e_2 (f_234 (pc := 6) (e := (6, 2, 200, 0, 0, 0, 0, 9)) rfl) (v := 200) rfl ?_
  refine e_130 (f_234 (pc := 9) (e := (9, 130, 244, 0, 11, 244, 1217, 12)) rfl) zA (as := [yr (some 102), yi 200]) (rest := []) rfl rfl rfl rfl (Nat.le_of_ble_eq_true rfl) (Nat.le_of_ble_eq_true rfl) ⟨_, _, _, rfl, (hT 102 rfl)⟩ (mc := 0) (ms := 0) (Nat.zero_le _) (Nat.zero_le _) ?_
  refine e_K ?_ F
  rintro r h' ⟨I2, rfl, rfl, F⟩
  refine e_12 (f_234 (pc := 12) (e := (12, 12, 0, 0, 0, 0, 0, 13)) rfl) rfl ?_
  refine e_0 (f_234 (pc := 13) (e := (13, 0, 0, 0, 0, 0, 0, 14)) rfl) (v := 0) rfl ?_
  refine e_91 zA (f_234 (pc := 14) (e := (14, 91, 11, 15, 0, 178, 1218, 17)) rfl) rfl (hT 102 rfl) rfl rfl trivial ?_
  replace F := F _ rfl
  refine e_12 (f_234 (pc := 17) (e := (17, 12, 0, 0, 0, 0, 0, 18)) rfl) rfl ?_
  refine e_0 (f_234 (pc := 18) (e := (18, 0, 0, 0, 0, 0, 0, 19)) rfl) (v := 0) rfl ?_
  refine e_91 zA (f_234 (pc := 19) (e := (19, 91, 11, 48, 0, 414, 1250, 22)) rfl) rfl (hT 102 rfl) rfl rfl trivial ?_
  replace F := F _ rfl
  refine e_12 (f_234 (pc := 22) (e := (22, 12, 0, 0, 0, 0, 0, 23)) rfl) rfl ?_
  refine e_0 (f_234 (pc := 23) (e := (23, 0, 0, 0, 0, 0, 0, 24)) rfl) (v := 0) rfl ?_
  refine e_91 zA (f_234 (pc := 24) (e := (24, 91, 11, 49, 0, 429, 1293, 27)) rfl) rfl (hT 102 rfl) rfl rfl trivial ?_
  replace F := F _ rfl
  refine e_12 (f_234 (pc := 27) (e := (27, 12, 0, 0, 0, 0, 0, 28)) rfl) rfl ?_
  refine e_0 (f_234 (pc := 28) (e := (28, 0, 0, 0, 0, 0, 0, 29)) rfl) (v := 0) rfl ?_
  refine e_91 zA (f_234 (pc := 29) (e := (29, 91, 11, 50, 0, 417, 1240, 32)) rfl) rfl (hT 102 rfl) rfl rfl trivial ?_
  replace F := F _ rfl
  refine e_12 (f_234 (pc := 32) (e := (32, 12, 0, 0, 0, 0, 0, 33)) rfl) rfl ?_
  refine e_0 (f_234 (pc := 33) (e := (33, 0, 1, 0, 0, 0, 0, 34)) rfl) (v := 1) rfl ?_
  refine e_91 zA (f_234 (pc := 34) (e := (34, 91, 11, 51, 0, 423, 1244, 37)) rfl) rfl (hT 102 rfl) rfl rfl trivial ?_
  replace F := F _ rfl
  refine e_12 (f_234 (pc := 37) (e := (37, 12, 0, 0, 0, 0, 0, 38)) rfl) rfl ?_
  refine e_0 (f_234 (pc := 38) (e := (38, 0, 0, 0, 0, 0, 0, 39)) rfl) (v := 0) rfl ?_
  refine e_91 zA (f_234 (pc := 39) (e := (39, 91, 11, 52, 2, 432, 1241, 42)) rfl) rfl (hT 102 rfl) rfl rfl (.inl rfl) ?_
  replace F := F _ rfl
  refine e_12 (f_234 (pc := 42) (e := (42, 12, 0, 0, 0, 0, 0, 43)) rfl) rfl ?_
  refine e_130 (f_234 (pc := 43) (e := (43, 130, 182, 0, 11, 190, 1224, 46)) rfl) zA (as := [yr (some 102)]) (rest := []) rfl rfl rfl rfl (Nat.le_of_ble_eq_true rfl) (Nat.le_of_ble_eq_true rfl) ⟨_, _, _, rfl, (hT 102 rfl)⟩ (mc := 0) (ms := 0) (Nat.zero_le _) (Nat.zero_le _) ?_
  refine e_K ?_ F
  rintro r h' ⟨I9, rfl, rfl, F⟩
  refine e_0 (f_234 (pc := 46) (e := (46, 0, 1, 0, 0, 0, 0, 47)) rfl) (v := 1) rfl ?_
  refine e_20 (f_234 (pc := 47) (e := (47, 20, 1, 0, 0, 0, 0, 48)) rfl) ?_
  refine e_lo [0, 1] rfl ?_
  exact F
set_option maxRecDepth 20000 in
theorem B_234_48 (hT : yLT T) (hR : yLR R) {x1 : Int} (F : (x1 = 0 → ∀ I2, I2 = yU I 104 1007 (ynar 1 (I 102 48)) → (yW l zSS D cy zFk z (d + 1) 234 bc bs K 0 0 146 [(0, yr (some 102)), (2, yi 0)] [] (N, T, R, I2))) ∧ (¬ (x1 = 0) → ((I 102 52) = 0 → ((I 102 52) = 0 → yW l zSS D cy zFk z d 222 0 0 (fun r h' => ∃ r6 I5, r = some (yi r6) ∧ h' = (N, T, R, I5) ∧ ((r6 ≠ 0 → yW l zSS D cy zFk z (d + 1) 234 bc bs K 0 0 48 [(0, yr (some 102)), (1, yi x1)] [] (N, T, R, I5)) ∧ (¬ (r6 ≠ 0) → K (some (yi (ysub (-1) (I5 102 16)))) (N, T, R, I5)))) 0 0 0 [(0, yr (some 102))] [] (N, T, R, I)) ∧ (¬ ((I 102 52) = 0) → yW l zSS D cy zFk z d 162 0 0 (fun r h' => ∃ r9 I8, r = some (yi r9) ∧ h' = (N, T, R, I8) ∧ ((r9 ≠ 0 → yW l zSS D cy zFk z (d + 1) 234 bc bs K 0 0 48 [(0, yr (some 102)), (1, yi x1)] [] (N, T, R, I8)) ∧ (¬ (r9 ≠ 0) → K (some (yi (ysub (-1) (I8 102 16)))) (N, T, R, I8)))) 0 0 0 [(0, yr (some 102))] [] (N, T, R, I))) ∧ (¬ ((I 102 52) = 0) → ((I 102 11) ≠ 0 → ((I 102 52) = 0 → yW l zSS D cy zFk z d 222 0 0 (fun r h' => ∃ r14 I13, r = some (yi r14) ∧ h' = (N, T, R, I13) ∧ ((r14 ≠ 0 → yW l zSS D cy zFk z (d + 1) 234 bc bs K 0 0 48 [(0, yr (some 102)), (1, yi x1)] [] (N, T, R, I13)) ∧ (¬ (r14 ≠ 0) → K (some (yi (ysub (-1) (I13 102 16)))) (N, T, R, I13)))) 0 0 0 [(0, yr (some 102))] [] (N, T, R, I)) ∧ (¬ ((I 102 52) = 0) → yW l zSS D cy zFk z d 162 0 0 (fun r h' => ∃ r17 I16, r = some (yi r17) ∧ h' = (N, T, R, I16) ∧ ((r17 ≠ 0 → yW l zSS D cy zFk z (d + 1) 234 bc bs K 0 0 48 [(0, yr (some 102)), (1, yi x1)] [] (N, T, R, I16)) ∧ (¬ (r17 ≠ 0) → K (some (yi (ysub (-1) (I16 102 16)))) (N, T, R, I16)))) 0 0 0 [(0, yr (some 102))] [] (N, T, R, I))) ∧ (¬ ((I 102 11) ≠ 0) → yW l zSS D cy zFk z d 217 0 0 (fun r h' => ∃ I19, r = none ∧ h' = (N, T, R, I19) ∧ (yW l zSS D cy zFk z d 200 0 0 (fun r h' => ∃ I20, r = none ∧ h' = (N, T, R, I20) ∧ (((I20 102 50) ≤ 0 → yW l zSS D cy zFk z (d + 1) 234 bc bs K 0 0 48 [(0, yr (some 102)), (1, yi 0)] [] (N, T, R, I20)) ∧ (¬ ((I20 102 50) ≤ 0) → yW l zSS D cy zFk z d 159 0 0 (fun r h' => ∃ r23 I22, r = some (yi r23) ∧ h' = (N, T, R, I22) ∧ (K (some (yi (ysub (-1) (I22 102 16)))) (N, T, R, I22))) 0 0 0 [(0, yr (some 102)), (1, yi 1)] [] (N, T, R, I20)))) 0 0 0 [(0, yr (some 102)), (1, yi 22)] [] (N, T, R, I19))) 0 0 0 [(0, yr (some 102))] [] (N, T, R, I))))) :
    yW l zSS D cy zFk z (d + 1) 234 bc bs K 0 0 48 [(0, yr (some 102)), (1, yi x1)] [] (N, T, R, I) := by
  refine e_10 (f_234 (pc := 48) (e := (48, 10, 1, 0, 0, 0, 0, 49)) rfl) rfl ?_
  refine e_60 (f_234 (pc := 49) (e := (49, 60, 132, 0, 0, 0, 0, 52)) rfl) (fun c1 => ?_) (fun c1 => ?_)
  · replace F := F.1 c1
    refine e_12 (f_234 (pc := 132) (e := (132, 12, 0, 0, 0, 0, 0, 133)) rfl) rfl ?_
    refine e_90r zA (f_234 (pc := 133) (e := (133, 90, 11, 6, 3, 33, 1159, 136)) rfl) rfl (hT 102 rfl) rfl rfl (hR 102 6 rfl) ?_
    refine e_2 (f_234 (pc := 136) (e := (136, 2, 1007, 0, 0, 0, 0, 139)) rfl) (v := 1007) rfl ?_
    refine e_12 (f_234 (pc := 139) (e := (139, 12, 0, 0, 0, 0, 0, 140)) rfl) rfl ?_
    refine e_90 zA (f_234 (pc := 140) (e := (140, 90, 11, 48, 0, 414, 1250, 143)) rfl) rfl (hT 102 rfl) rfl rfl ?_
    refine e_111 (f_234 (pc := 143) (e := (143, 111, 0, 0, 0, 0, 0, 144)) rfl) rfl (hT 104 rfl) (by decide) (by decide) ?_
    replace F := F _ rfl
    refine e_0 (f_234 (pc := 144) (e := (144, 0, 0, 0, 0, 0, 0, 145)) rfl) (v := 0) rfl ?_
    refine e_20 (f_234 (pc := 145) (e := (145, 20, 2, 0, 0, 0, 0, 146)) rfl) ?_
    refine e_lo [0, 2] rfl ?_
    exact F
  · replace F := F.2 c1
    refine e_12 (f_234 (pc := 52) (e := (52, 12, 0, 0, 0, 0, 0, 53)) rfl) rfl ?_
    refine e_90 zA (f_234 (pc := 53) (e := (53, 90, 11, 52, 2, 432, 1241, 56)) rfl) rfl (hT 102 rfl) rfl rfl ?_
    refine e_60 (f_234 (pc := 56) (e := (56, 60, 101, 0, 0, 0, 0, 59)) rfl) (fun c3 => ?_) (fun c3 => ?_)
    · replace F := F.1 c3
      refine e_12 (f_234 (pc := 101) (e := (101, 12, 0, 0, 0, 0, 0, 102)) rfl) rfl ?_
      refine e_90 zA (f_234 (pc := 102) (e := (102, 90, 11, 52, 2, 432, 1241, 105)) rfl) rfl (hT 102 rfl) rfl rfl ?_
      refine e_60 (f_234 (pc := 105) (e := (105, 60, 118, 0, 0, 0, 0, 108)) rfl) (fun c4 => ?_) (fun c4 => ?_)
      · replace F := F.1 c4
        refine e_12 (f_234 (pc := 118) (e := (118, 12, 0, 0, 0, 0, 0, 119)) rfl) rfl ?_
        refine e_130 (f_234 (pc := 119) (e := (119, 130, 222, 0, 11, 444, 1298, 122)) rfl) zA (as := [yr (some 102)]) (rest := []) rfl rfl rfl rfl (Nat.le_of_ble_eq_true rfl) (Nat.le_of_ble_eq_true rfl) ⟨_, _, _, rfl, (hT 102 rfl)⟩ (mc := 0) (ms := 0) (Nat.zero_le _) (Nat.zero_le _) ?_
        refine e_K ?_ F
        rintro r h' ⟨r6, I5, rfl, rfl, F⟩
        refine e_61 (f_234 (pc := 122) (e := (122, 61, 48, 0, 0, 0, 0, 125)) rfl) (fun c7 => ?_) (fun c7 => ?_)
        · replace F := F.1 c7
          refine e_lo [0, 1] rfl ?_
          exact F
        · replace F := F.2 c7
          refine e_0 (f_234 (pc := 125) (e := (125, 0, 4294967295, 0, 0, 0, 0, 126)) rfl) (v := (-1)) rfl ?_
          refine e_12 (f_234 (pc := 126) (e := (126, 12, 0, 0, 0, 0, 0, 127)) rfl) rfl ?_
          refine e_90 zA (f_234 (pc := 127) (e := (127, 90, 11, 16, 0, 181, 1228, 130)) rfl) rfl (hT 102 rfl) rfl rfl ?_
          refine e_31 (f_234 (pc := 130) (e := (130, 31, 0, 0, 0, 0, 0, 131)) rfl) ?_
          exact e_120 (f_234 (pc := 131) (e := (131, 120, 0, 0, 0, 0, 0, 132)) rfl) F
      · replace F := F.2 c4
        refine e_12 (f_234 (pc := 108) (e := (108, 12, 0, 0, 0, 0, 0, 109)) rfl) rfl ?_
        refine e_130 (f_234 (pc := 109) (e := (109, 130, 162, 0, 11, 441, 1297, 112)) rfl) zA (as := [yr (some 102)]) (rest := []) rfl rfl rfl rfl (Nat.le_of_ble_eq_true rfl) (Nat.le_of_ble_eq_true rfl) ⟨_, _, _, rfl, (hT 102 rfl)⟩ (mc := 0) (ms := 0) (Nat.zero_le _) (Nat.zero_le _) ?_
        refine e_K ?_ F
        rintro r h' ⟨r9, I8, rfl, rfl, F⟩
        refine e_61 (f_234 (pc := 112) (e := (112, 61, 48, 0, 0, 0, 0, 115)) rfl) (fun c10 => ?_) (fun c10 => ?_)
        · replace F := F.1 c10
          refine e_lo [0, 1] rfl ?_
          exact F
        · replace F := F.2 c10
          refine e_80 (f_234 (pc := 115) (e := (115, 80, 125, 0, 0, 0, 0, 118)) rfl) ?_
          refine e_0 (f_234 (pc := 125) (e := (125, 0, 4294967295, 0, 0, 0, 0, 126)) rfl) (v := (-1)) rfl ?_
          refine e_12 (f_234 (pc := 126) (e := (126, 12, 0, 0, 0, 0, 0, 127)) rfl) rfl ?_
          refine e_90 zA (f_234 (pc := 127) (e := (127, 90, 11, 16, 0, 181, 1228, 130)) rfl) rfl (hT 102 rfl) rfl rfl ?_
          refine e_31 (f_234 (pc := 130) (e := (130, 31, 0, 0, 0, 0, 0, 131)) rfl) ?_
          exact e_120 (f_234 (pc := 131) (e := (131, 120, 0, 0, 0, 0, 0, 132)) rfl) F
    · replace F := F.2 c3
      refine e_12 (f_234 (pc := 59) (e := (59, 12, 0, 0, 0, 0, 0, 60)) rfl) rfl ?_
      refine e_90 zA (f_234 (pc := 60) (e := (60, 90, 11, 11, 0, 161, 1225, 63)) rfl) rfl (hT 102 rfl) rfl rfl ?_
      refine e_61 (f_234 (pc := 63) (e := (63, 61, 101, 0, 0, 0, 0, 66)) rfl) (fun c11 => ?_) (fun c11 => ?_)
      · replace F := F.1 c11
        refine e_12 (f_234 (pc := 101) (e := (101, 12, 0, 0, 0, 0, 0, 102)) rfl) rfl ?_
        refine e_90 zA (f_234 (pc := 102) (e := (102, 90, 11, 52, 2, 432, 1241, 105)) rfl) rfl (hT 102 rfl) rfl rfl ?_
        refine e_60 (f_234 (pc := 105) (e := (105, 60, 118, 0, 0, 0, 0, 108)) rfl) (fun c12 => ?_) (fun c12 => ?_)
        · replace F := F.1 c12
          refine e_12 (f_234 (pc := 118) (e := (118, 12, 0, 0, 0, 0, 0, 119)) rfl) rfl ?_
          refine e_130 (f_234 (pc := 119) (e := (119, 130, 222, 0, 11, 444, 1298, 122)) rfl) zA (as := [yr (some 102)]) (rest := []) rfl rfl rfl rfl (Nat.le_of_ble_eq_true rfl) (Nat.le_of_ble_eq_true rfl) ⟨_, _, _, rfl, (hT 102 rfl)⟩ (mc := 0) (ms := 0) (Nat.zero_le _) (Nat.zero_le _) ?_
          refine e_K ?_ F
          rintro r h' ⟨r14, I13, rfl, rfl, F⟩
          refine e_61 (f_234 (pc := 122) (e := (122, 61, 48, 0, 0, 0, 0, 125)) rfl) (fun c15 => ?_) (fun c15 => ?_)
          · replace F := F.1 c15
            refine e_lo [0, 1] rfl ?_
            exact F
          · replace F := F.2 c15
            refine e_0 (f_234 (pc := 125) (e := (125, 0, 4294967295, 0, 0, 0, 0, 126)) rfl) (v := (-1)) rfl ?_
            refine e_12 (f_234 (pc := 126) (e := (126, 12, 0, 0, 0, 0, 0, 127)) rfl) rfl ?_
            refine e_90 zA (f_234 (pc := 127) (e := (127, 90, 11, 16, 0, 181, 1228, 130)) rfl) rfl (hT 102 rfl) rfl rfl ?_
            refine e_31 (f_234 (pc := 130) (e := (130, 31, 0, 0, 0, 0, 0, 131)) rfl) ?_
            exact e_120 (f_234 (pc := 131) (e := (131, 120, 0, 0, 0, 0, 0, 132)) rfl) F
        · replace F := F.2 c12
          refine e_12 (f_234 (pc := 108) (e := (108, 12, 0, 0, 0, 0, 0, 109)) rfl) rfl ?_
          refine e_130 (f_234 (pc := 109) (e := (109, 130, 162, 0, 11, 441, 1297, 112)) rfl) zA (as := [yr (some 102)]) (rest := []) rfl rfl rfl rfl (Nat.le_of_ble_eq_true rfl) (Nat.le_of_ble_eq_true rfl) ⟨_, _, _, rfl, (hT 102 rfl)⟩ (mc := 0) (ms := 0) (Nat.zero_le _) (Nat.zero_le _) ?_
          refine e_K ?_ F
          rintro r h' ⟨r17, I16, rfl, rfl, F⟩
          refine e_61 (f_234 (pc := 112) (e := (112, 61, 48, 0, 0, 0, 0, 115)) rfl) (fun c18 => ?_) (fun c18 => ?_)
          · replace F := F.1 c18
            refine e_lo [0, 1] rfl ?_
            exact F
          · replace F := F.2 c18
            refine e_80 (f_234 (pc := 115) (e := (115, 80, 125, 0, 0, 0, 0, 118)) rfl) ?_
            refine e_0 (f_234 (pc := 125) (e := (125, 0, 4294967295, 0, 0, 0, 0, 126)) rfl) (v := (-1)) rfl ?_
            refine e_12 (f_234 (pc := 126) (e := (126, 12, 0, 0, 0, 0, 0, 127)) rfl) rfl ?_
            refine e_90 zA (f_234 (pc := 127) (e := (127, 90, 11, 16, 0, 181, 1228, 130)) rfl) rfl (hT 102 rfl) rfl rfl ?_
            refine e_31 (f_234 (pc := 130) (e := (130, 31, 0, 0, 0, 0, 0, 131)) rfl) ?_
            exact e_120 (f_234 (pc := 131) (e := (131, 120, 0, 0, 0, 0, 0, 132)) rfl) F
      · replace F := F.2 c11
        refine e_12 (f_234 (pc := 66) (e := (66, 12, 0, 0, 0, 0, 0, 67)) rfl) rfl ?_
        refine e_130 (f_234 (pc := 67) (e := (67, 130, 217, 0, 11, 435, 1237, 70)) rfl) zA (as := [yr (some 102)]) (rest := []) rfl rfl rfl rfl (Nat.le_of_ble_eq_true rfl) (Nat.le_of_ble_eq_true rfl) ⟨_, _, _, rfl, (hT 102 rfl)⟩ (mc := 0) (ms := 0) (Nat.zero_le _) (Nat.zero_le _) ?_
        refine e_K ?_ F
        rintro r h' ⟨I19, rfl, rfl, F⟩
        refine e_12 (f_234 (pc := 70) (e := (70, 12, 0, 0, 0, 0, 0, 71)) rfl) rfl ?_
        refine e_1 (f_234 (pc := 71) (e := (71, 1, 22, 0, 0, 0, 0, 73)) rfl) (v := 22) rfl ?_
        refine e_130 (f_234 (pc := 73) (e := (73, 130, 200, 0, 11, 438, 1239, 76)) rfl) zA (as := [yr (some 102), yi 22]) (rest := []) rfl rfl rfl rfl (Nat.le_of_ble_eq_true rfl) (Nat.le_of_ble_eq_true rfl) ⟨_, _, _, rfl, (hT 102 rfl)⟩ (mc := 0) (ms := 0) (Nat.zero_le _) (Nat.zero_le _) ?_
        refine e_K ?_ F
        rintro r h' ⟨I20, rfl, rfl, F⟩
        refine e_12 (f_234 (pc := 76) (e := (76, 12, 0, 0, 0, 0, 0, 77)) rfl) rfl ?_
        refine e_90 zA (f_234 (pc := 77) (e := (77, 90, 11, 50, 0, 417, 1240, 80)) rfl) rfl (hT 102 rfl) rfl rfl ?_
        refine e_65 (f_234 (pc := 80) (e := (80, 65, 96, 0, 0, 0, 0, 83)) rfl) (fun c21 => ?_) (fun c21 => ?_)
        · replace F := F.1 c21
          refine e_0 (f_234 (pc := 96) (e := (96, 0, 0, 0, 0, 0, 0, 97)) rfl) (v := 0) rfl ?_
          refine e_20 (f_234 (pc := 97) (e := (97, 20, 1, 0, 0, 0, 0, 98)) rfl) ?_
          refine e_80 (f_234 (pc := 98) (e := (98, 80, 48, 0, 0, 0, 0, 101)) rfl) ?_
          refine e_lo [0, 1] rfl ?_
          exact F
        · replace F := F.2 c21
          refine e_12 (f_234 (pc := 83) (e := (83, 12, 0, 0, 0, 0, 0, 84)) rfl) rfl ?_
          refine e_0 (f_234 (pc := 84) (e := (84, 0, 1, 0, 0, 0, 0, 85)) rfl) (v := 1) rfl ?_
          refine e_130 (f_234 (pc := 85) (e := (85, 130, 159, 0, 11, 187, 1243, 88)) rfl) zA (as := [yr (some 102), yi 1]) (rest := []) rfl rfl rfl rfl (Nat.le_of_ble_eq_true rfl) (Nat.le_of_ble_eq_true rfl) ⟨_, _, _, rfl, (hT 102 rfl)⟩ (mc := 0) (ms := 0) (Nat.zero_le _) (Nat.zero_le _) ?_
          refine e_K ?_ F
          rintro r h' ⟨r23, I22, rfl, rfl, F⟩
          refine e_52 (f_234 (pc := 88) (e := (88, 52, 0, 0, 0, 0, 0, 89)) rfl) rfl ?_
          refine e_0 (f_234 (pc := 89) (e := (89, 0, 4294967295, 0, 0, 0, 0, 90)) rfl) (v := (-1)) rfl ?_
          refine e_12 (f_234 (pc := 90) (e := (90, 12, 0, 0, 0, 0, 0, 91)) rfl) rfl ?_
          refine e_90 zA (f_234 (pc := 91) (e := (91, 90, 11, 16, 0, 181, 1228, 94)) rfl) rfl (hT 102 rfl) rfl rfl ?_
          refine e_31 (f_234 (pc := 94) (e := (94, 31, 0, 0, 0, 0, 0, 95)) rfl) ?_
          exact e_120 (f_234 (pc := 95) (e := (95, 120, 0, 0, 0, 0, 0, 96)) rfl) F
set_option maxRecDepth 20000 in
theorem B_234_146 (hT : yLT T) (hR : yLR R) {x2 : Int} (F : ((ymul 3 (I 102 48)) ≤ x2 → K (some (yi (I 102 49))) (N, T, R, I)) ∧ (¬ ((ymul 3 (I 102 48)) ≤ x2) → 0 ≤ x2 ∧ x2 < 135 ∧ (0 ≤ (yadd 1008 x2) ∧ (yadd 1008 x2) < 1188 ∧ (∀ I6, I6 = yU I 104 ((yadd 1008 x2).toNat) (ynar 1 (I 106 x2.toNat)) → (yW l zSS D cy zFk z d 234 bc bs K 0 0 146 [(0, yr (some 102)), (2, yi (yadd x2 1))] [] (N, T, R, I6)))))) :
    yW l zSS D cy zFk z d 234 bc bs K 0 0 146 [(0, yr (some 102)), (2, yi x2)] [] (N, T, R, I) := by
  refine e_10 (f_234 (pc := 146) (e := (146, 10, 2, 0, 0, 0, 0, 147)) rfl) rfl ?_
  refine e_0 (f_234 (pc := 147) (e := (147, 0, 3, 0, 0, 0, 0, 148)) rfl) (v := 3) rfl ?_
  refine e_12 (f_234 (pc := 148) (e := (148, 12, 0, 0, 0, 0, 0, 149)) rfl) rfl ?_
  refine e_90 zA (f_234 (pc := 149) (e := (149, 90, 11, 48, 0, 414, 1250, 152)) rfl) rfl (hT 102 rfl) rfl rfl ?_
  refine e_32 (f_234 (pc := 152) (e := (152, 32, 0, 0, 0, 0, 0, 153)) rfl) ?_
  refine e_73 (f_234 (pc := 153) (e := (153, 73, 178, 0, 0, 0, 0, 156)) rfl) (fun c1 => ?_) (fun c1 => ?_)
  · replace F := F.1 c1
    refine e_12 (f_234 (pc := 178) (e := (178, 12, 0, 0, 0, 0, 0, 179)) rfl) rfl ?_
    refine e_90 zA (f_234 (pc := 179) (e := (179, 90, 11, 49, 0, 429, 1293, 182)) rfl) rfl (hT 102 rfl) rfl rfl ?_
    exact e_120 (f_234 (pc := 182) (e := (182, 120, 0, 0, 0, 0, 0, 0)) rfl) F
  · replace F := F.2 c1
    refine e_12 (f_234 (pc := 156) (e := (156, 12, 0, 0, 0, 0, 0, 157)) rfl) rfl ?_
    refine e_90r zA (f_234 (pc := 157) (e := (157, 90, 11, 6, 3, 33, 1159, 160)) rfl) rfl (hT 102 rfl) rfl rfl (hR 102 6 rfl) ?_
    refine e_2 (f_234 (pc := 160) (e := (160, 2, 1008, 0, 0, 0, 0, 163)) rfl) (v := 1008) rfl ?_
    refine e_10 (f_234 (pc := 163) (e := (163, 10, 2, 0, 0, 0, 0, 164)) rfl) rfl ?_
    refine e_30 (f_234 (pc := 164) (e := (164, 30, 0, 0, 0, 0, 0, 165)) rfl) ?_
    refine e_12 (f_234 (pc := 165) (e := (165, 12, 0, 0, 0, 0, 0, 166)) rfl) rfl ?_
    refine e_90r zA (f_234 (pc := 166) (e := (166, 90, 11, 8, 3, 40, 1161, 169)) rfl) rfl (hT 102 rfl) rfl rfl (hR 102 8 rfl) ?_
    refine e_10 (f_234 (pc := 169) (e := (169, 10, 2, 0, 0, 0, 0, 170)) rfl) rfl ?_
    obtain ⟨b2, b3, F⟩ := F
    refine e_110 (f_234 (pc := 170) (e := (170, 110, 0, 0, 0, 0, 0, 171)) rfl) rfl (hT 106 rfl) b2 b3 ?_
    obtain ⟨b4, b5, F⟩ := F
    refine e_111 (f_234 (pc := 171) (e := (171, 111, 0, 0, 0, 0, 0, 172)) rfl) rfl (hT 104 rfl) b4 b5 ?_
    replace F := F _ rfl
    refine e_26 (f_234 (pc := 172) (e := (172, 26, 2, 1, 0, 0, 0, 175)) rfl) (w := 1) rfl rfl ?_
    refine e_80 (f_234 (pc := 175) (e := (175, 80, 146, 0, 0, 0, 0, 178)) rfl) ?_
    refine e_lo [0, 2] rfl ?_
    exact F

/-! setsOut()V -/
set_option maxRecDepth 20000 in
theorem B_235_0 (hT : yLT T) (hR : yLR R) (F : yW l zSS D cy zFk z d 235 bc bs K 0 0 2 [(0, yr (some 102)), (1, yi 0)] [] (N, T, R, I)) :
    yW l zSS D cy zFk z d 235 bc bs K 0 0 0 [(0, yr (some 102))] [] (N, T, R, I) := by
  refine e_0 (f_235 (pc := 0) (e := (0, 0, 0, 0, 0, 0, 0, 1)) rfl) (v := 0) rfl ?_
  refine e_20 (f_235 (pc := 1) (e := (1, 20, 1, 0, 0, 0, 0, 2)) rfl) ?_
  refine e_lo [0, 1] rfl ?_
  exact F
set_option maxRecDepth 20000 in
theorem B_235_2 (hT : yLT T) (hR : yLR R) {x1 : Int} (F : ((I 104 2) ≤ x1 → K none (N, T, R, I)) ∧ (¬ ((I 104 2) ≤ x1) → yW l zSS D cy zFk z d 164 0 0 (fun r h' => ∃ r3 I2, r = some (yi r3) ∧ h' = (N, T, R, I2) ∧ ((r3 ≠ 0 → yW l zSS D cy zFk z (d + 1) 235 bc bs K 0 0 2 [(0, yr (some 102)), (1, yi (yadd x1 1))] [] (N, T, R, I2)) ∧ (¬ (r3 ≠ 0) → 0 ≤ (yadd 510 x1) ∧ (yadd 510 x1) < 1188 ∧ ((0 ≤ (I2 104 (yadd 510 x1).toNat) → yW l zSS D cy zFk z (d + 1) 235 bc bs K 0 0 2 [(0, yr (some 102)), (1, yi (yadd x1 1))] [] (N, T, R, I2)) ∧ (¬ (0 ≤ (I2 104 (yadd 510 x1).toNat)) → 0 ≤ (yadd 470 x1) ∧ (yadd 470 x1) < 1188 ∧ ((0 ≤ (I2 104 (yadd 470 x1).toNat) → yW l zSS D cy zFk z (d + 1) 235 bc bs K 0 0 2 [(0, yr (some 102)), (1, yi (yadd x1 1))] [] (N, T, R, I2)) ∧ (¬ (0 ≤ (I2 104 (yadd 470 x1).toNat)) → 0 ≤ (yadd 462 x1) ∧ (yadd 462 x1) < 1188 ∧ (((I2 104 (yadd 462 x1).toNat) ≤ (I2 104 458) → 0 ≤ (yadd 326 x1) ∧ (yadd 326 x1) < 1188 ∧ (0 ≤ (yadd 334 x1) ∧ (yadd 334 x1) < 1188 ∧ (((I2 104 (yadd 326 x1).toNat) ≠ (I2 104 (yadd 334 x1).toNat) → 0 ≤ (yadd 326 x1) ∧ (yadd 326 x1) < 1188 ∧ (yW l zSS D cy zFk z d 183 0 0 (fun r h' => ∃ r22 I21, r = some (yi r22) ∧ h' = (N, T, R, I21) ∧ ((r22 = 0 → yW l zSS D cy zFk z (d + 1) 235 bc bs K 0 0 2 [(0, yr (some 102)), (1, yi (yadd x1 1))] [] (N, T, R, I21)) ∧ (¬ (r22 = 0) → 0 ≤ (yadd 326 x1) ∧ (yadd 326 x1) < 1188 ∧ (0 ≤ (yadd 470 x1) ∧ (yadd 470 x1) < 1188 ∧ (∀ I28, I28 = yU I21 104 ((yadd 470 x1).toNat) (ynar 1 (I21 104 (yadd 326 x1).toNat)) → (0 ≤ (yadd 486 x1) ∧ (yadd 486 x1) < 1188 ∧ (∀ I31, I31 = yU I28 104 ((yadd 486 x1).toNat) (ynar 1 (-1)) → (yW l zSS D cy zFk z (d + 1) 235 bc bs K 0 0 2 [(0, yr (some 102)), (1, yi (yadd x1 1))] [] (N, T, R, I31))))))))) 0 0 0 [(0, yr (some 102)), (1, yi (I2 104 (yadd 326 x1).toNat))] [] (N, T, R, I2))) ∧ (¬ ((I2 104 (yadd 326 x1).toNat) ≠ (I2 104 (yadd 334 x1).toNat)) → 0 ≤ (yadd 510 x1) ∧ (yadd 510 x1) < 1188 ∧ (∀ I34, I34 = yU I2 104 ((yadd 510 x1).toNat) (ynar 1 (I2 104 458)) → (yW l zSS D cy zFk z (d + 1) 235 bc bs K 0 0 2 [(0, yr (some 102)), (1, yi (yadd x1 1))] [] (N, T, R, I34))))))) ∧ (¬ ((I2 104 (yadd 462 x1).toNat) ≤ (I2 104 458)) → yW l zSS D cy zFk z (d + 1) 235 bc bs K 0 0 2 [(0, yr (some 102)), (1, yi (yadd x1 1))] [] (N, T, R, I2)))))))))) 0 0 0 [(0, yi (I 102 28)), (1, yi x1)] [] (N, T, R, I))) :
    yW l zSS D cy zFk z (d + 1) 235 bc bs K 0 0 2 [(0, yr (some 102)), (1, yi x1)] [] (N, T, R, I) := by
  refine e_10 (f_235 (pc := 2) (e := (2, 10, 1, 0, 0, 0, 0, 3)) rfl) rfl ?_
  refine e_12 (f_235 (pc := 3) (e := (3, 12, 0, 0, 0, 0, 0, 4)) rfl) rfl ?_
  refine e_90r zA (f_235 (pc := 4) (e := (4, 90, 11, 6, 3, 33, 1159, 7)) rfl) rfl (hT 102 rfl) rfl rfl (hR 102 6 rfl) ?_
  refine e_0 (f_235 (pc := 7) (e := (7, 0, 2, 0, 0, 0, 0, 8)) rfl) (v := 2) rfl ?_
  refine e_110 (f_235 (pc := 8) (e := (8, 110, 0, 0, 0, 0, 0, 9)) rfl) rfl (hT 104 rfl) (by decide) (by decide) ?_
  refine e_73 (f_235 (pc := 9) (e := (9, 73, 171, 0, 0, 0, 0, 12)) rfl) (fun c1 => ?_) (fun c1 => ?_)
  · replace F := F.1 c1
    exact e_122 (f_235 (pc := 171) (e := (171, 122, 0, 0, 0, 0, 0, 0)) rfl) F
  · replace F := F.2 c1
    refine e_12 (f_235 (pc := 12) (e := (12, 12, 0, 0, 0, 0, 0, 13)) rfl) rfl ?_
    refine e_90 zA (f_235 (pc := 13) (e := (13, 90, 11, 28, 0, 301, 1232, 16)) rfl) rfl (hT 102 rfl) rfl rfl ?_
    refine e_10 (f_235 (pc := 16) (e := (16, 10, 1, 0, 0, 0, 0, 17)) rfl) rfl ?_
    refine e_132 (f_235 (pc := 17) (e := (17, 132, 164, 2, 11, 238, 1207, 20)) rfl) zA (as := [yi _, yi x1]) (rest := []) rfl rfl rfl rfl (Nat.le_of_ble_eq_true rfl) (Nat.le_of_ble_eq_true rfl) (mc := 0) (ms := 0) (Nat.zero_le _) (Nat.zero_le _) ?_
    refine e_K ?_ F
    rintro r h' ⟨r3, I2, rfl, rfl, F⟩
    refine e_61 (f_235 (pc := 20) (e := (20, 61, 165, 0, 0, 0, 0, 23)) rfl) (fun c4 => ?_) (fun c4 => ?_)
    · replace F := F.1 c4
      refine e_26 (f_235 (pc := 165) (e := (165, 26, 1, 1, 0, 0, 0, 168)) rfl) (w := 1) rfl rfl ?_
      refine e_80 (f_235 (pc := 168) (e := (168, 80, 2, 0, 0, 0, 0, 171)) rfl) ?_
      refine e_lo [0, 1] rfl ?_
      exact F
    · replace F := F.2 c4
      refine e_12 (f_235 (pc := 23) (e := (23, 12, 0, 0, 0, 0, 0, 24)) rfl) rfl ?_
      refine e_90r zA (f_235 (pc := 24) (e := (24, 90, 11, 6, 3, 33, 1159, 27)) rfl) rfl (hT 102 rfl) rfl rfl (hR 102 6 rfl) ?_
      refine e_2 (f_235 (pc := 27) (e := (27, 2, 510, 0, 0, 0, 0, 30)) rfl) (v := 510) rfl ?_
      refine e_10 (f_235 (pc := 30) (e := (30, 10, 1, 0, 0, 0, 0, 31)) rfl) rfl ?_
      refine e_30 (f_235 (pc := 31) (e := (31, 30, 0, 0, 0, 0, 0, 32)) rfl) ?_
      obtain ⟨b5, b6, F⟩ := F
      refine e_110 (f_235 (pc := 32) (e := (32, 110, 0, 0, 0, 0, 0, 33)) rfl) rfl (hT 104 rfl) b5 b6 ?_
      refine e_63 (f_235 (pc := 33) (e := (33, 63, 165, 0, 0, 0, 0, 36)) rfl) (fun c7 => ?_) (fun c7 => ?_)
      · replace F := F.1 c7
        refine e_26 (f_235 (pc := 165) (e := (165, 26, 1, 1, 0, 0, 0, 168)) rfl) (w := 1) rfl rfl ?_
        refine e_80 (f_235 (pc := 168) (e := (168, 80, 2, 0, 0, 0, 0, 171)) rfl) ?_
        refine e_lo [0, 1] rfl ?_
        exact F
      · replace F := F.2 c7
        refine e_12 (f_235 (pc := 36) (e := (36, 12, 0, 0, 0, 0, 0, 37)) rfl) rfl ?_
        refine e_90r zA (f_235 (pc := 37) (e := (37, 90, 11, 6, 3, 33, 1159, 40)) rfl) rfl (hT 102 rfl) rfl rfl (hR 102 6 rfl) ?_
        refine e_2 (f_235 (pc := 40) (e := (40, 2, 470, 0, 0, 0, 0, 43)) rfl) (v := 470) rfl ?_
        refine e_10 (f_235 (pc := 43) (e := (43, 10, 1, 0, 0, 0, 0, 44)) rfl) rfl ?_
        refine e_30 (f_235 (pc := 44) (e := (44, 30, 0, 0, 0, 0, 0, 45)) rfl) ?_
        obtain ⟨b8, b9, F⟩ := F
        refine e_110 (f_235 (pc := 45) (e := (45, 110, 0, 0, 0, 0, 0, 46)) rfl) rfl (hT 104 rfl) b8 b9 ?_
        refine e_63 (f_235 (pc := 46) (e := (46, 63, 165, 0, 0, 0, 0, 49)) rfl) (fun c10 => ?_) (fun c10 => ?_)
        · replace F := F.1 c10
          refine e_26 (f_235 (pc := 165) (e := (165, 26, 1, 1, 0, 0, 0, 168)) rfl) (w := 1) rfl rfl ?_
          refine e_80 (f_235 (pc := 168) (e := (168, 80, 2, 0, 0, 0, 0, 171)) rfl) ?_
          refine e_lo [0, 1] rfl ?_
          exact F
        · replace F := F.2 c10
          refine e_12 (f_235 (pc := 49) (e := (49, 12, 0, 0, 0, 0, 0, 50)) rfl) rfl ?_
          refine e_90r zA (f_235 (pc := 50) (e := (50, 90, 11, 6, 3, 33, 1159, 53)) rfl) rfl (hT 102 rfl) rfl rfl (hR 102 6 rfl) ?_
          refine e_2 (f_235 (pc := 53) (e := (53, 2, 462, 0, 0, 0, 0, 56)) rfl) (v := 462) rfl ?_
          refine e_10 (f_235 (pc := 56) (e := (56, 10, 1, 0, 0, 0, 0, 57)) rfl) rfl ?_
          refine e_30 (f_235 (pc := 57) (e := (57, 30, 0, 0, 0, 0, 0, 58)) rfl) ?_
          obtain ⟨b11, b12, F⟩ := F
          refine e_110 (f_235 (pc := 58) (e := (58, 110, 0, 0, 0, 0, 0, 59)) rfl) rfl (hT 104 rfl) b11 b12 ?_
          refine e_12 (f_235 (pc := 59) (e := (59, 12, 0, 0, 0, 0, 0, 60)) rfl) rfl ?_
          refine e_90r zA (f_235 (pc := 60) (e := (60, 90, 11, 6, 3, 33, 1159, 63)) rfl) rfl (hT 102 rfl) rfl rfl (hR 102 6 rfl) ?_
          refine e_2 (f_235 (pc := 63) (e := (63, 2, 458, 0, 0, 0, 0, 66)) rfl) (v := 458) rfl ?_
          refine e_110 (f_235 (pc := 66) (e := (66, 110, 0, 0, 0, 0, 0, 67)) rfl) rfl (hT 104 rfl) (by decide) (by decide) ?_
          refine e_75 (f_235 (pc := 67) (e := (67, 75, 73, 0, 0, 0, 0, 70)) rfl) (fun c13 => ?_) (fun c13 => ?_)
          · replace F := F.1 c13
            refine e_12 (f_235 (pc := 73) (e := (73, 12, 0, 0, 0, 0, 0, 74)) rfl) rfl ?_
            refine e_90r zA (f_235 (pc := 74) (e := (74, 90, 11, 6, 3, 33, 1159, 77)) rfl) rfl (hT 102 rfl) rfl rfl (hR 102 6 rfl) ?_
            refine e_2 (f_235 (pc := 77) (e := (77, 2, 326, 0, 0, 0, 0, 80)) rfl) (v := 326) rfl ?_
            refine e_10 (f_235 (pc := 80) (e := (80, 10, 1, 0, 0, 0, 0, 81)) rfl) rfl ?_
            refine e_30 (f_235 (pc := 81) (e := (81, 30, 0, 0, 0, 0, 0, 82)) rfl) ?_
            obtain ⟨b14, b15, F⟩ := F
            refine e_110 (f_235 (pc := 82) (e := (82, 110, 0, 0, 0, 0, 0, 83)) rfl) rfl (hT 104 rfl) b14 b15 ?_
            refine e_12 (f_235 (pc := 83) (e := (83, 12, 0, 0, 0, 0, 0, 84)) rfl) rfl ?_
            refine e_90r zA (f_235 (pc := 84) (e := (84, 90, 11, 6, 3, 33, 1159, 87)) rfl) rfl (hT 102 rfl) rfl rfl (hR 102 6 rfl) ?_
            refine e_2 (f_235 (pc := 87) (e := (87, 2, 334, 0, 0, 0, 0, 90)) rfl) (v := 334) rfl ?_
            refine e_10 (f_235 (pc := 90) (e := (90, 10, 1, 0, 0, 0, 0, 91)) rfl) rfl ?_
            refine e_30 (f_235 (pc := 91) (e := (91, 30, 0, 0, 0, 0, 0, 92)) rfl) ?_
            obtain ⟨b16, b17, F⟩ := F
            refine e_110 (f_235 (pc := 92) (e := (92, 110, 0, 0, 0, 0, 0, 93)) rfl) rfl (hT 104 rfl) b16 b17 ?_
            refine e_71 (f_235 (pc := 93) (e := (93, 71, 117, 0, 0, 0, 0, 96)) rfl) (fun c18 => ?_) (fun c18 => ?_)
            · replace F := F.1 c18
              refine e_12 (f_235 (pc := 117) (e := (117, 12, 0, 0, 0, 0, 0, 118)) rfl) rfl ?_
              refine e_12 (f_235 (pc := 118) (e := (118, 12, 0, 0, 0, 0, 0, 119)) rfl) rfl ?_
              refine e_90r zA (f_235 (pc := 119) (e := (119, 90, 11, 6, 3, 33, 1159, 122)) rfl) rfl (hT 102 rfl) rfl rfl (hR 102 6 rfl) ?_
              refine e_2 (f_235 (pc := 122) (e := (122, 2, 326, 0, 0, 0, 0, 125)) rfl) (v := 326) rfl ?_
              refine e_10 (f_235 (pc := 125) (e := (125, 10, 1, 0, 0, 0, 0, 126)) rfl) rfl ?_
              refine e_30 (f_235 (pc := 126) (e := (126, 30, 0, 0, 0, 0, 0, 127)) rfl) ?_
              obtain ⟨b19, b20, F⟩ := F
              refine e_110 (f_235 (pc := 127) (e := (127, 110, 0, 0, 0, 0, 0, 128)) rfl) rfl (hT 104 rfl) b19 b20 ?_
              refine e_130 (f_235 (pc := 128) (e := (128, 130, 183, 0, 11, 304, 1213, 131)) rfl) zA (as := [yr (some 102), yi _]) (rest := []) rfl rfl rfl rfl (Nat.le_of_ble_eq_true rfl) (Nat.le_of_ble_eq_true rfl) ⟨_, _, _, rfl, (hT 102 rfl)⟩ (mc := 0) (ms := 0) (Nat.zero_le _) (Nat.zero_le _) ?_
              refine e_K ?_ F
              rintro r h' ⟨r22, I21, rfl, rfl, F⟩
              refine e_60 (f_235 (pc := 131) (e := (131, 60, 165, 0, 0, 0, 0, 134)) rfl) (fun c23 => ?_) (fun c23 => ?_)
              · replace F := F.1 c23
                refine e_26 (f_235 (pc := 165) (e := (165, 26, 1, 1, 0, 0, 0, 168)) rfl) (w := 1) rfl rfl ?_
                refine e_80 (f_235 (pc := 168) (e := (168, 80, 2, 0, 0, 0, 0, 171)) rfl) ?_
                refine e_lo [0, 1] rfl ?_
                exact F
              · replace F := F.2 c23
                refine e_12 (f_235 (pc := 134) (e := (134, 12, 0, 0, 0, 0, 0, 135)) rfl) rfl ?_
                refine e_90r zA (f_235 (pc := 135) (e := (135, 90, 11, 6, 3, 33, 1159, 138)) rfl) rfl (hT 102 rfl) rfl rfl (hR 102 6 rfl) ?_
                refine e_2 (f_235 (pc := 138) (e := (138, 2, 470, 0, 0, 0, 0, 141)) rfl) (v := 470) rfl ?_
                refine e_10 (f_235 (pc := 141) (e := (141, 10, 1, 0, 0, 0, 0, 142)) rfl) rfl ?_
                refine e_30 (f_235 (pc := 142) (e := (142, 30, 0, 0, 0, 0, 0, 143)) rfl) ?_
                refine e_12 (f_235 (pc := 143) (e := (143, 12, 0, 0, 0, 0, 0, 144)) rfl) rfl ?_
                refine e_90r zA (f_235 (pc := 144) (e := (144, 90, 11, 6, 3, 33, 1159, 147)) rfl) rfl (hT 102 rfl) rfl rfl (hR 102 6 rfl) ?_
                refine e_2 (f_235 (pc := 147) (e := (147, 2, 326, 0, 0, 0, 0, 150)) rfl) (v := 326) rfl ?_
                refine e_10 (f_235 (pc := 150) (e := (150, 10, 1, 0, 0, 0, 0, 151)) rfl) rfl ?_
                refine e_30 (f_235 (pc := 151) (e := (151, 30, 0, 0, 0, 0, 0, 152)) rfl) ?_
                obtain ⟨b24, b25, F⟩ := F
                refine e_110 (f_235 (pc := 152) (e := (152, 110, 0, 0, 0, 0, 0, 153)) rfl) rfl (hT 104 rfl) b24 b25 ?_
                obtain ⟨b26, b27, F⟩ := F
                refine e_111 (f_235 (pc := 153) (e := (153, 111, 0, 0, 0, 0, 0, 154)) rfl) rfl (hT 104 rfl) b26 b27 ?_
                replace F := F _ rfl
                refine e_12 (f_235 (pc := 154) (e := (154, 12, 0, 0, 0, 0, 0, 155)) rfl) rfl ?_
                refine e_90r zA (f_235 (pc := 155) (e := (155, 90, 11, 6, 3, 33, 1159, 158)) rfl) rfl (hT 102 rfl) rfl rfl (hR 102 6 rfl) ?_
                refine e_2 (f_235 (pc := 158) (e := (158, 2, 486, 0, 0, 0, 0, 161)) rfl) (v := 486) rfl ?_
                refine e_10 (f_235 (pc := 161) (e := (161, 10, 1, 0, 0, 0, 0, 162)) rfl) rfl ?_
                refine e_30 (f_235 (pc := 162) (e := (162, 30, 0, 0, 0, 0, 0, 163)) rfl) ?_
                refine e_0 (f_235 (pc := 163) (e := (163, 0, 4294967295, 0, 0, 0, 0, 164)) rfl) (v := (-1)) rfl ?_
                obtain ⟨b29, b30, F⟩ := F
                refine e_111 (f_235 (pc := 164) (e := (164, 111, 0, 0, 0, 0, 0, 165)) rfl) rfl (hT 104 rfl) b29 b30 ?_
                replace F := F _ rfl
                refine e_26 (f_235 (pc := 165) (e := (165, 26, 1, 1, 0, 0, 0, 168)) rfl) (w := 1) rfl rfl ?_
                refine e_80 (f_235 (pc := 168) (e := (168, 80, 2, 0, 0, 0, 0, 171)) rfl) ?_
                refine e_lo [0, 1] rfl ?_
                exact F
            · replace F := F.2 c18
              refine e_12 (f_235 (pc := 96) (e := (96, 12, 0, 0, 0, 0, 0, 97)) rfl) rfl ?_
              refine e_90r zA (f_235 (pc := 97) (e := (97, 90, 11, 6, 3, 33, 1159, 100)) rfl) rfl (hT 102 rfl) rfl rfl (hR 102 6 rfl) ?_
              refine e_2 (f_235 (pc := 100) (e := (100, 2, 510, 0, 0, 0, 0, 103)) rfl) (v := 510) rfl ?_
              refine e_10 (f_235 (pc := 103) (e := (103, 10, 1, 0, 0, 0, 0, 104)) rfl) rfl ?_
              refine e_30 (f_235 (pc := 104) (e := (104, 30, 0, 0, 0, 0, 0, 105)) rfl) ?_
              refine e_12 (f_235 (pc := 105) (e := (105, 12, 0, 0, 0, 0, 0, 106)) rfl) rfl ?_
              refine e_90r zA (f_235 (pc := 106) (e := (106, 90, 11, 6, 3, 33, 1159, 109)) rfl) rfl (hT 102 rfl) rfl rfl (hR 102 6 rfl) ?_
              refine e_2 (f_235 (pc := 109) (e := (109, 2, 458, 0, 0, 0, 0, 112)) rfl) (v := 458) rfl ?_
              refine e_110 (f_235 (pc := 112) (e := (112, 110, 0, 0, 0, 0, 0, 113)) rfl) rfl (hT 104 rfl) (by decide) (by decide) ?_
              obtain ⟨b32, b33, F⟩ := F
              refine e_111 (f_235 (pc := 113) (e := (113, 111, 0, 0, 0, 0, 0, 114)) rfl) rfl (hT 104 rfl) b32 b33 ?_
              replace F := F _ rfl
              refine e_80 (f_235 (pc := 114) (e := (114, 80, 165, 0, 0, 0, 0, 117)) rfl) ?_
              refine e_26 (f_235 (pc := 165) (e := (165, 26, 1, 1, 0, 0, 0, 168)) rfl) (w := 1) rfl rfl ?_
              refine e_80 (f_235 (pc := 168) (e := (168, 80, 2, 0, 0, 0, 0, 171)) rfl) ?_
              refine e_lo [0, 1] rfl ?_
              exact F
          · replace F := F.2 c13
            refine e_80 (f_235 (pc := 70) (e := (70, 80, 165, 0, 0, 0, 0, 73)) rfl) ?_
            refine e_26 (f_235 (pc := 165) (e := (165, 26, 1, 1, 0, 0, 0, 168)) rfl) (w := 1) rfl rfl ?_
            refine e_80 (f_235 (pc := 168) (e := (168, 80, 2, 0, 0, 0, 0, 171)) rfl) ?_
            refine e_lo [0, 1] rfl ?_
            exact F

/-! sign(I)Z -/
set_option maxRecDepth 20000 in
theorem B_236_0 (hT : yLT T) (hR : yLR R) {x1 : Int} (F : yW l zSS D cy zFk z d 196 0 0 (fun r h' => ∃ r2 I1, r = some (yi r2) ∧ h' = (N, T, R, I1) ∧ ((r2 ≠ 0 → yW l zSS D cy zFk z d 182 0 0 (fun r h' => ∃ I4, r = none ∧ h' = (N, T, R, I4) ∧ (K (some (yi 1)) (N, T, R, I4))) 0 0 0 [(0, yr (some 102))] [] (N, T, R, I1)) ∧ (¬ (r2 ≠ 0) → yW l zSS D cy zFk z d 159 0 0 (fun r h' => ∃ r6 I5, r = some (yi r6) ∧ h' = (N, T, R, I5) ∧ ((r6 = 0 ∨ r6 = 1) ∧ K (some (yi r6)) (N, T, R, I5))) 0 0 0 [(0, yr (some 102)), (1, yi 1)] [] (N, T, R, I1)))) 0 0 0 [(0, yr (some 102)), (1, yi x1)] [] (N, T, R, I)) :
    yW l zSS D cy zFk z (d + 1) 236 bc bs K 0 0 0 [(0, yr (some 102)), (1, yi x1)] [] (N, T, R, I) := by
  refine e_12 (f_236 (pc := 0) (e := (0, 12, 0, 0, 0, 0, 0, 1)) rfl) rfl ?_
  refine e_10 (f_236 (pc := 1) (e := (1, 10, 1, 0, 0, 0, 0, 2)) rfl) rfl ?_
  refine e_130 (f_236 (pc := 2) (e := (2, 130, 196, 0, 11, 184, 1242, 5)) rfl) zA (as := [yr (some 102), yi x1]) (rest := []) rfl rfl rfl rfl (Nat.le_of_ble_eq_true rfl) (Nat.le_of_ble_eq_true rfl) ⟨_, _, _, rfl, (hT 102 rfl)⟩ (mc := 0) (ms := 0) (Nat.zero_le _) (Nat.zero_le _) ?_
  refine e_K ?_ F
  rintro r h' ⟨r2, I1, rfl, rfl, F⟩
  refine e_61 (f_236 (pc := 5) (e := (5, 61, 14, 0, 0, 0, 0, 8)) rfl) (fun c3 => ?_) (fun c3 => ?_)
  · replace F := F.1 c3
    refine e_12 (f_236 (pc := 14) (e := (14, 12, 0, 0, 0, 0, 0, 15)) rfl) rfl ?_
    refine e_130 (f_236 (pc := 15) (e := (15, 130, 182, 0, 11, 190, 1224, 18)) rfl) zA (as := [yr (some 102)]) (rest := []) rfl rfl rfl rfl (Nat.le_of_ble_eq_true rfl) (Nat.le_of_ble_eq_true rfl) ⟨_, _, _, rfl, (hT 102 rfl)⟩ (mc := 0) (ms := 0) (Nat.zero_le _) (Nat.zero_le _) ?_
    refine e_K ?_ F
    rintro r h' ⟨I4, rfl, rfl, F⟩
    refine e_0 (f_236 (pc := 18) (e := (18, 0, 1, 0, 0, 0, 0, 19)) rfl) (v := 1) rfl ?_
    exact e_121 (f_236 (pc := 19) (e := (19, 121, 0, 0, 0, 0, 0, 0)) rfl) (.inr rfl) F
  · replace F := F.2 c3
    refine e_12 (f_236 (pc := 8) (e := (8, 12, 0, 0, 0, 0, 0, 9)) rfl) rfl ?_
    refine e_0 (f_236 (pc := 9) (e := (9, 0, 1, 0, 0, 0, 0, 10)) rfl) (v := 1) rfl ?_
    refine e_130 (f_236 (pc := 10) (e := (10, 130, 159, 0, 11, 187, 1243, 13)) rfl) zA (as := [yr (some 102), yi 1]) (rest := []) rfl rfl rfl rfl (Nat.le_of_ble_eq_true rfl) (Nat.le_of_ble_eq_true rfl) ⟨_, _, _, rfl, (hT 102 rfl)⟩ (mc := 0) (ms := 0) (Nat.zero_le _) (Nat.zero_le _) ?_
    refine e_K ?_ F
    rintro r h' ⟨r6, I5, rfl, rfl, F⟩
    exact e_121 (f_236 (pc := 13) (e := (13, 121, 0, 0, 0, 0, 0, 14)) rfl) F.1 F.2

/-! spreads(II)V -/
set_option maxRecDepth 20000 in
theorem B_237_0 (hT : yLT T) (hR : yLR R) {x1 x2 : Int} (F : yW l zSS D cy zFk z d 237 bc bs K 0 0 2 [(0, yr (some 102)), (1, yi x1), (2, yi x2), (3, yi 0)] [] (N, T, R, I)) :
    yW l zSS D cy zFk z d 237 bc bs K 0 0 0 [(0, yr (some 102)), (1, yi x1), (2, yi x2)] [] (N, T, R, I) := by
  refine e_0 (f_237 (pc := 0) (e := (0, 0, 0, 0, 0, 0, 0, 1)) rfl) (v := 0) rfl ?_
  refine e_20 (f_237 (pc := 1) (e := (1, 20, 3, 0, 0, 0, 0, 2)) rfl) ?_
  refine e_lo [0, 1, 2, 3] rfl ?_
  exact F
set_option maxRecDepth 20000 in
theorem B_237_2 (hT : yLT T) (hR : yLR R) {x1 x2 x3 : Int} (F : (100 ≤ x3 → yW l zSS D cy zFk z d 190 0 0 (fun r h' => ∃ r3 I2, r = some (yi r3) ∧ h' = (N, T, R, I2) ∧ ((r3 ≠ 0 → 0 ≤ (yadd x2 x1) ∧ (yadd x2 x1) < 800 ∧ (∀ I7, I7 = yU I2 109 ((yadd x2 x1).toNat) (ynar 1 0) → (∀ I8, I8 = yU I7 110 0 (ynar 1 x1) → (yW l zSS D cy zFk z (d + 1) 237 bc bs K 0 0 53 [(0, yr (some 102)), (2, yi x2), (3, yi 1), (4, yi 0)] [] (N, T, R, I8))))) ∧ (¬ (r3 ≠ 0) → K none (N, T, R, I2)))) 0 0 0 [(0, yr (some 102)), (1, yi x1)] [] (N, T, R, I)) ∧ (¬ (100 ≤ x3) → 0 ≤ (yadd x2 x3) ∧ (yadd x2 x3) < 800 ∧ (∀ I11, I11 = yU I 109 ((yadd x2 x3).toNat) (ynar 1 (-1)) → (yW l zSS D cy zFk z (d + 1) 237 bc bs K 0 0 2 [(0, yr (some 102)), (1, yi x1), (2, yi x2), (3, yi (yadd x3 1))] [] (N, T, R, I11))))) :
    yW l zSS D cy zFk z (d + 1) 237 bc bs K 0 0 2 [(0, yr (some 102)), (1, yi x1), (2, yi x2), (3, yi x3)] [] (N, T, R, I) := by
  refine e_10 (f_237 (pc := 2) (e := (2, 10, 3, 0, 0, 0, 0, 3)) rfl) rfl ?_
  refine e_1 (f_237 (pc := 3) (e := (3, 1, 100, 0, 0, 0, 0, 5)) rfl) (v := 100) rfl ?_
  refine e_73 (f_237 (pc := 5) (e := (5, 73, 23, 0, 0, 0, 0, 8)) rfl) (fun c1 => ?_) (fun c1 => ?_)
  · replace F := F.1 c1
    refine e_12 (f_237 (pc := 23) (e := (23, 12, 0, 0, 0, 0, 0, 24)) rfl) rfl ?_
    refine e_10 (f_237 (pc := 24) (e := (24, 10, 1, 0, 0, 0, 0, 25)) rfl) rfl ?_
    refine e_130 (f_237 (pc := 25) (e := (25, 130, 190, 0, 11, 279, 1275, 28)) rfl) zA (as := [yr (some 102), yi x1]) (rest := []) rfl rfl rfl rfl (Nat.le_of_ble_eq_true rfl) (Nat.le_of_ble_eq_true rfl) ⟨_, _, _, rfl, (hT 102 rfl)⟩ (mc := 0) (ms := 0) (Nat.zero_le _) (Nat.zero_le _) ?_
    refine e_K ?_ F
    rintro r h' ⟨r3, I2, rfl, rfl, F⟩
    refine e_61 (f_237 (pc := 28) (e := (28, 61, 32, 0, 0, 0, 0, 31)) rfl) (fun c4 => ?_) (fun c4 => ?_)
    · replace F := F.1 c4
      refine e_12 (f_237 (pc := 32) (e := (32, 12, 0, 0, 0, 0, 0, 33)) rfl) rfl ?_
      refine e_90r zA (f_237 (pc := 33) (e := (33, 90, 11, 24, 3, 50, 1164, 36)) rfl) rfl (hT 102 rfl) rfl rfl (hR 102 24 rfl) ?_
      refine e_10 (f_237 (pc := 36) (e := (36, 10, 2, 0, 0, 0, 0, 37)) rfl) rfl ?_
      refine e_10 (f_237 (pc := 37) (e := (37, 10, 1, 0, 0, 0, 0, 38)) rfl) rfl ?_
      refine e_30 (f_237 (pc := 38) (e := (38, 30, 0, 0, 0, 0, 0, 39)) rfl) ?_
      refine e_0 (f_237 (pc := 39) (e := (39, 0, 0, 0, 0, 0, 0, 40)) rfl) (v := 0) rfl ?_
      obtain ⟨b5, b6, F⟩ := F
      refine e_111 (f_237 (pc := 40) (e := (40, 111, 0, 0, 0, 0, 0, 41)) rfl) rfl (hT 109 rfl) b5 b6 ?_
      replace F := F _ rfl
      refine e_12 (f_237 (pc := 41) (e := (41, 12, 0, 0, 0, 0, 0, 42)) rfl) rfl ?_
      refine e_90r zA (f_237 (pc := 42) (e := (42, 90, 11, 25, 3, 53, 1165, 45)) rfl) rfl (hT 102 rfl) rfl rfl (hR 102 25 rfl) ?_
      refine e_0 (f_237 (pc := 45) (e := (45, 0, 0, 0, 0, 0, 0, 46)) rfl) (v := 0) rfl ?_
      refine e_10 (f_237 (pc := 46) (e := (46, 10, 1, 0, 0, 0, 0, 47)) rfl) rfl ?_
      refine e_111 (f_237 (pc := 47) (e := (47, 111, 0, 0, 0, 0, 0, 48)) rfl) rfl (hT 110 rfl) (by decide) (by decide) ?_
      replace F := F _ rfl
      refine e_0 (f_237 (pc := 48) (e := (48, 0, 1, 0, 0, 0, 0, 49)) rfl) (v := 1) rfl ?_
      refine e_20 (f_237 (pc := 49) (e := (49, 20, 3, 0, 0, 0, 0, 50)) rfl) ?_
      refine e_0 (f_237 (pc := 50) (e := (50, 0, 0, 0, 0, 0, 0, 51)) rfl) (v := 0) rfl ?_
      refine e_21 (f_237 (pc := 51) (e := (51, 21, 4, 0, 0, 0, 0, 53)) rfl) ?_
      refine e_lo [0, 2, 3, 4] rfl ?_
      exact F
    · replace F := F.2 c4
      exact e_122 (f_237 (pc := 31) (e := (31, 122, 0, 0, 0, 0, 0, 32)) rfl) F
  · replace F := F.2 c1
    refine e_12 (f_237 (pc := 8) (e := (8, 12, 0, 0, 0, 0, 0, 9)) rfl) rfl ?_
    refine e_90r zA (f_237 (pc := 9) (e := (9, 90, 11, 24, 3, 50, 1164, 12)) rfl) rfl (hT 102 rfl) rfl rfl (hR 102 24 rfl) ?_
    refine e_10 (f_237 (pc := 12) (e := (12, 10, 2, 0, 0, 0, 0, 13)) rfl) rfl ?_
    refine e_10 (f_237 (pc := 13) (e := (13, 10, 3, 0, 0, 0, 0, 14)) rfl) rfl ?_
    refine e_30 (f_237 (pc := 14) (e := (14, 30, 0, 0, 0, 0, 0, 15)) rfl) ?_
    refine e_0 (f_237 (pc := 15) (e := (15, 0, 4294967295, 0, 0, 0, 0, 16)) rfl) (v := (-1)) rfl ?_
    obtain ⟨b9, b10, F⟩ := F
    refine e_111 (f_237 (pc := 16) (e := (16, 111, 0, 0, 0, 0, 0, 17)) rfl) rfl (hT 109 rfl) b9 b10 ?_
    replace F := F _ rfl
    refine e_26 (f_237 (pc := 17) (e := (17, 26, 3, 1, 0, 0, 0, 20)) rfl) (w := 1) rfl rfl ?_
    refine e_80 (f_237 (pc := 20) (e := (20, 80, 2, 0, 0, 0, 0, 23)) rfl) ?_
    refine e_lo [0, 1, 2, 3] rfl ?_
    exact F
set_option maxRecDepth 20000 in
theorem B_237_53 (hT : yLT T) (hR : yLR R) {x2 x3 x4 : Int} (F : (x3 ≤ x4 → K none (N, T, R, I)) ∧ (¬ (x3 ≤ x4) → 0 ≤ x4 ∧ x4 < 100 ∧ (yW l zSS D cy zFk z d 237 bc bs K 0 0 71 [(0, yr (some 102)), (2, yi x2), (3, yi x3), (4, yi x4), (5, yi (I 110 x4.toNat)), (6, yi 0)] [] (N, T, R, I)))) :
    yW l zSS D cy zFk z d 237 bc bs K 0 0 53 [(0, yr (some 102)), (2, yi x2), (3, yi x3), (4, yi x4)] [] (N, T, R, I) := by
  refine e_11 (f_237 (pc := 53) (e := (53, 11, 4, 0, 0, 0, 0, 55)) rfl) rfl ?_
  refine e_10 (f_237 (pc := 55) (e := (55, 10, 3, 0, 0, 0, 0, 56)) rfl) rfl ?_
  refine e_73 (f_237 (pc := 56) (e := (56, 73, 181, 0, 0, 0, 0, 59)) rfl) (fun c1 => ?_) (fun c1 => ?_)
  · replace F := F.1 c1
    exact e_122 (f_237 (pc := 181) (e := (181, 122, 0, 0, 0, 0, 0, 0)) rfl) F
  · replace F := F.2 c1
    refine e_12 (f_237 (pc := 59) (e := (59, 12, 0, 0, 0, 0, 0, 60)) rfl) rfl ?_
    refine e_90r zA (f_237 (pc := 60) (e := (60, 90, 11, 25, 3, 53, 1165, 63)) rfl) rfl (hT 102 rfl) rfl rfl (hR 102 25 rfl) ?_
    refine e_11 (f_237 (pc := 63) (e := (63, 11, 4, 0, 0, 0, 0, 65)) rfl) rfl ?_
    obtain ⟨b2, b3, F⟩ := F
    refine e_110 (f_237 (pc := 65) (e := (65, 110, 0, 0, 0, 0, 0, 66)) rfl) rfl (hT 110 rfl) b2 b3 ?_
    refine e_21 (f_237 (pc := 66) (e := (66, 21, 5, 0, 0, 0, 0, 68)) rfl) ?_
    refine e_0 (f_237 (pc := 68) (e := (68, 0, 0, 0, 0, 0, 0, 69)) rfl) (v := 0) rfl ?_
    refine e_21 (f_237 (pc := 69) (e := (69, 21, 6, 0, 0, 0, 0, 71)) rfl) ?_
    refine e_lo [0, 2, 3, 4, 5, 6] rfl ?_
    exact F
set_option maxRecDepth 20000 in
theorem B_237_71 (hT : yLT T) (hR : yLR R) {x2 x3 x4 x5 x6 : Int} (F : (4 ≤ x6 → yW l zSS D cy zFk z (d + 1) 237 bc bs K 0 0 53 [(0, yr (some 102)), (2, yi x2), (3, yi x3), (4, yi (yadd x4 1))] [] (N, T, R, I)) ∧ (¬ (4 ≤ x6) → yW l zSS D cy zFk z d 163 0 0 (fun r h' => ∃ r3 I2, r = some (yi r3) ∧ h' = (N, T, R, I2) ∧ ((r3 < 0 → yW l zSS D cy zFk z (d + 1) 237 bc bs K 0 0 71 [(0, yr (some 102)), (2, yi x2), (3, yi x3), (4, yi x4), (5, yi x5), (6, yi (yadd x6 1))] [] (N, T, R, I2)) ∧ (¬ (r3 < 0) → 0 ≤ (yadd 10 r3) ∧ (yadd 10 r3) < 1188 ∧ (((I2 104 (yadd 10 r3).toNat) = 1 → yW l zSS D cy zFk z (d + 1) 237 bc bs K 0 0 71 [(0, yr (some 102)), (2, yi x2), (3, yi x3), (4, yi x4), (5, yi x5), (6, yi (yadd x6 1))] [] (N, T, R, I2)) ∧ (¬ ((I2 104 (yadd 10 r3).toNat) = 1) → 0 ≤ (yadd x2 r3) ∧ (yadd x2 r3) < 800 ∧ ((0 ≤ (I2 109 (yadd x2 r3).toNat) → yW l zSS D cy zFk z (d + 1) 237 bc bs K 0 0 71 [(0, yr (some 102)), (2, yi x2), (3, yi x3), (4, yi x4), (5, yi x5), (6, yi (yadd x6 1))] [] (N, T, R, I2)) ∧ (¬ (0 ≤ (I2 109 (yadd x2 r3).toNat)) → yW l zSS D cy zFk z d 242 0 0 (fun r h' => ∃ r12 I11, r = some (yi r12) ∧ h' = (N, T, R, I11) ∧ ((r12 = x5 → 0 ≤ (yadd x2 x5) ∧ (yadd x2 x5) < 800 ∧ (0 ≤ (yadd x2 r3) ∧ (yadd x2 r3) < 800 ∧ (∀ I18, I18 = yU I11 109 ((yadd x2 r3).toNat) (ynar 1 (yadd (I11 109 (yadd x2 x5).toNat) 1)) → (0 ≤ x3 ∧ x3 < 100 ∧ (∀ I21, I21 = yU I18 110 x3.toNat (ynar 1 r3) → (yW l zSS D cy zFk z (d + 1) 237 bc bs K 0 0 71 [(0, yr (some 102)), (2, yi x2), (3, yi (yadd x3 1)), (4, yi x4), (5, yi x5), (6, yi (yadd x6 1))] [] (N, T, R, I21))))))) ∧ (¬ (r12 = x5) → yW l zSS D cy zFk z (d + 1) 237 bc bs K 0 0 71 [(0, yr (some 102)), (2, yi x2), (3, yi x3), (4, yi x4), (5, yi x5), (6, yi (yadd x6 1))] [] (N, T, R, I11)))) 0 0 0 [(0, yr (some 102)), (1, yi r3), (2, yi x6)] [] (N, T, R, I2)))))))) 0 0 0 [(0, yr (some 102)), (1, yi x5), (2, yi (yrem (yadd x6 2) 4))] [] (N, T, R, I))) :
    yW l zSS D cy zFk z (d + 1) 237 bc bs K 0 0 71 [(0, yr (some 102)), (2, yi x2), (3, yi x3), (4, yi x4), (5, yi x5), (6, yi x6)] [] (N, T, R, I) := by
  refine e_11 (f_237 (pc := 71) (e := (71, 11, 6, 0, 0, 0, 0, 73)) rfl) rfl ?_
  refine e_0 (f_237 (pc := 73) (e := (73, 0, 4, 0, 0, 0, 0, 74)) rfl) (v := 4) rfl ?_
  refine e_73 (f_237 (pc := 74) (e := (74, 73, 175, 0, 0, 0, 0, 77)) rfl) (fun c1 => ?_) (fun c1 => ?_)
  · replace F := F.1 c1
    refine e_26 (f_237 (pc := 175) (e := (175, 26, 4, 1, 0, 0, 0, 178)) rfl) (w := 1) rfl rfl ?_
    refine e_80 (f_237 (pc := 178) (e := (178, 80, 53, 0, 0, 0, 0, 181)) rfl) ?_
    refine e_lo [0, 2, 3, 4] rfl ?_
    exact F
  · replace F := F.2 c1
    refine e_12 (f_237 (pc := 77) (e := (77, 12, 0, 0, 0, 0, 0, 78)) rfl) rfl ?_
    refine e_11 (f_237 (pc := 78) (e := (78, 11, 5, 0, 0, 0, 0, 80)) rfl) rfl ?_
    refine e_11 (f_237 (pc := 80) (e := (80, 11, 6, 0, 0, 0, 0, 82)) rfl) rfl ?_
    refine e_0 (f_237 (pc := 82) (e := (82, 0, 2, 0, 0, 0, 0, 83)) rfl) (v := 2) rfl ?_
    refine e_30 (f_237 (pc := 83) (e := (83, 30, 0, 0, 0, 0, 0, 84)) rfl) ?_
    refine e_0 (f_237 (pc := 84) (e := (84, 0, 4, 0, 0, 0, 0, 85)) rfl) (v := 4) rfl ?_
    refine e_34 (f_237 (pc := 85) (e := (85, 34, 0, 0, 0, 0, 0, 86)) rfl) (by decide) ?_
    refine e_130 (f_237 (pc := 86) (e := (86, 130, 163, 0, 11, 276, 1299, 89)) rfl) zA (as := [yr (some 102), yi x5, yi _]) (rest := []) rfl rfl rfl rfl (Nat.le_of_ble_eq_true rfl) (Nat.le_of_ble_eq_true rfl) ⟨_, _, _, rfl, (hT 102 rfl)⟩ (mc := 0) (ms := 0) (Nat.zero_le _) (Nat.zero_le _) ?_
    refine e_K ?_ F
    rintro r h' ⟨r3, I2, rfl, rfl, F⟩
    refine e_21 (f_237 (pc := 89) (e := (89, 21, 7, 0, 0, 0, 0, 91)) rfl) ?_
    refine e_11 (f_237 (pc := 91) (e := (91, 11, 7, 0, 0, 0, 0, 93)) rfl) rfl ?_
    refine e_62 (f_237 (pc := 93) (e := (93, 62, 169, 0, 0, 0, 0, 96)) rfl) (fun c4 => ?_) (fun c4 => ?_)
    · replace F := F.1 c4
      refine e_26 (f_237 (pc := 169) (e := (169, 26, 6, 1, 0, 0, 0, 172)) rfl) (w := 1) rfl rfl ?_
      refine e_80 (f_237 (pc := 172) (e := (172, 80, 71, 0, 0, 0, 0, 175)) rfl) ?_
      refine e_lo [0, 2, 3, 4, 5, 6] rfl ?_
      exact F
    · replace F := F.2 c4
      refine e_12 (f_237 (pc := 96) (e := (96, 12, 0, 0, 0, 0, 0, 97)) rfl) rfl ?_
      refine e_90r zA (f_237 (pc := 97) (e := (97, 90, 11, 6, 3, 33, 1159, 100)) rfl) rfl (hT 102 rfl) rfl rfl (hR 102 6 rfl) ?_
      refine e_1 (f_237 (pc := 100) (e := (100, 1, 10, 0, 0, 0, 0, 102)) rfl) (v := 10) rfl ?_
      refine e_11 (f_237 (pc := 102) (e := (102, 11, 7, 0, 0, 0, 0, 104)) rfl) rfl ?_
      refine e_30 (f_237 (pc := 104) (e := (104, 30, 0, 0, 0, 0, 0, 105)) rfl) ?_
      obtain ⟨b5, b6, F⟩ := F
      refine e_110 (f_237 (pc := 105) (e := (105, 110, 0, 0, 0, 0, 0, 106)) rfl) rfl (hT 104 rfl) b5 b6 ?_
      refine e_0 (f_237 (pc := 106) (e := (106, 0, 1, 0, 0, 0, 0, 107)) rfl) (v := 1) rfl ?_
      refine e_70 (f_237 (pc := 107) (e := (107, 70, 169, 0, 0, 0, 0, 110)) rfl) (fun c7 => ?_) (fun c7 => ?_)
      · replace F := F.1 c7
        refine e_26 (f_237 (pc := 169) (e := (169, 26, 6, 1, 0, 0, 0, 172)) rfl) (w := 1) rfl rfl ?_
        refine e_80 (f_237 (pc := 172) (e := (172, 80, 71, 0, 0, 0, 0, 175)) rfl) ?_
        refine e_lo [0, 2, 3, 4, 5, 6] rfl ?_
        exact F
      · replace F := F.2 c7
        refine e_12 (f_237 (pc := 110) (e := (110, 12, 0, 0, 0, 0, 0, 111)) rfl) rfl ?_
        refine e_90r zA (f_237 (pc := 111) (e := (111, 90, 11, 24, 3, 50, 1164, 114)) rfl) rfl (hT 102 rfl) rfl rfl (hR 102 24 rfl) ?_
        refine e_10 (f_237 (pc := 114) (e := (114, 10, 2, 0, 0, 0, 0, 115)) rfl) rfl ?_
        refine e_11 (f_237 (pc := 115) (e := (115, 11, 7, 0, 0, 0, 0, 117)) rfl) rfl ?_
        refine e_30 (f_237 (pc := 117) (e := (117, 30, 0, 0, 0, 0, 0, 118)) rfl) ?_
        obtain ⟨b8, b9, F⟩ := F
        refine e_110 (f_237 (pc := 118) (e := (118, 110, 0, 0, 0, 0, 0, 119)) rfl) rfl (hT 109 rfl) b8 b9 ?_
        refine e_63 (f_237 (pc := 119) (e := (119, 63, 169, 0, 0, 0, 0, 122)) rfl) (fun c10 => ?_) (fun c10 => ?_)
        · replace F := F.1 c10
          refine e_26 (f_237 (pc := 169) (e := (169, 26, 6, 1, 0, 0, 0, 172)) rfl) (w := 1) rfl rfl ?_
          refine e_80 (f_237 (pc := 172) (e := (172, 80, 71, 0, 0, 0, 0, 175)) rfl) ?_
          refine e_lo [0, 2, 3, 4, 5, 6] rfl ?_
          exact F
        · replace F := F.2 c10
          refine e_12 (f_237 (pc := 122) (e := (122, 12, 0, 0, 0, 0, 0, 123)) rfl) rfl ?_
          refine e_11 (f_237 (pc := 123) (e := (123, 11, 7, 0, 0, 0, 0, 125)) rfl) rfl ?_
          refine e_11 (f_237 (pc := 125) (e := (125, 11, 6, 0, 0, 0, 0, 127)) rfl) rfl ?_
          refine e_130 (f_237 (pc := 127) (e := (127, 130, 242, 0, 11, 282, 1252, 130)) rfl) zA (as := [yr (some 102), yi r3, yi x6]) (rest := []) rfl rfl rfl rfl (Nat.le_of_ble_eq_true rfl) (Nat.le_of_ble_eq_true rfl) ⟨_, _, _, rfl, (hT 102 rfl)⟩ (mc := 0) (ms := 0) (Nat.zero_le _) (Nat.zero_le _) ?_
          refine e_K ?_ F
          rintro r h' ⟨r12, I11, rfl, rfl, F⟩
          refine e_11 (f_237 (pc := 130) (e := (130, 11, 5, 0, 0, 0, 0, 132)) rfl) rfl ?_
          refine e_70 (f_237 (pc := 132) (e := (132, 70, 138, 0, 0, 0, 0, 135)) rfl) (fun c13 => ?_) (fun c13 => ?_)
          · replace F := F.1 c13
            refine e_12 (f_237 (pc := 138) (e := (138, 12, 0, 0, 0, 0, 0, 139)) rfl) rfl ?_
            refine e_90r zA (f_237 (pc := 139) (e := (139, 90, 11, 24, 3, 50, 1164, 142)) rfl) rfl (hT 102 rfl) rfl rfl (hR 102 24 rfl) ?_
            refine e_10 (f_237 (pc := 142) (e := (142, 10, 2, 0, 0, 0, 0, 143)) rfl) rfl ?_
            refine e_11 (f_237 (pc := 143) (e := (143, 11, 7, 0, 0, 0, 0, 145)) rfl) rfl ?_
            refine e_30 (f_237 (pc := 145) (e := (145, 30, 0, 0, 0, 0, 0, 146)) rfl) ?_
            refine e_12 (f_237 (pc := 146) (e := (146, 12, 0, 0, 0, 0, 0, 147)) rfl) rfl ?_
            refine e_90r zA (f_237 (pc := 147) (e := (147, 90, 11, 24, 3, 50, 1164, 150)) rfl) rfl (hT 102 rfl) rfl rfl (hR 102 24 rfl) ?_
            refine e_10 (f_237 (pc := 150) (e := (150, 10, 2, 0, 0, 0, 0, 151)) rfl) rfl ?_
            refine e_11 (f_237 (pc := 151) (e := (151, 11, 5, 0, 0, 0, 0, 153)) rfl) rfl ?_
            refine e_30 (f_237 (pc := 153) (e := (153, 30, 0, 0, 0, 0, 0, 154)) rfl) ?_
            obtain ⟨b14, b15, F⟩ := F
            refine e_110 (f_237 (pc := 154) (e := (154, 110, 0, 0, 0, 0, 0, 155)) rfl) rfl (hT 109 rfl) b14 b15 ?_
            refine e_0 (f_237 (pc := 155) (e := (155, 0, 1, 0, 0, 0, 0, 156)) rfl) (v := 1) rfl ?_
            refine e_30 (f_237 (pc := 156) (e := (156, 30, 0, 0, 0, 0, 0, 157)) rfl) ?_
            obtain ⟨b16, b17, F⟩ := F
            refine e_111 (f_237 (pc := 157) (e := (157, 111, 0, 0, 0, 0, 0, 158)) rfl) rfl (hT 109 rfl) b16 b17 ?_
            replace F := F _ rfl
            refine e_12 (f_237 (pc := 158) (e := (158, 12, 0, 0, 0, 0, 0, 159)) rfl) rfl ?_
            refine e_90r zA (f_237 (pc := 159) (e := (159, 90, 11, 25, 3, 53, 1165, 162)) rfl) rfl (hT 102 rfl) rfl rfl (hR 102 25 rfl) ?_
            refine e_10 (f_237 (pc := 162) (e := (162, 10, 3, 0, 0, 0, 0, 163)) rfl) rfl ?_
            refine e_11 (f_237 (pc := 163) (e := (163, 11, 7, 0, 0, 0, 0, 165)) rfl) rfl ?_
            obtain ⟨b19, b20, F⟩ := F
            refine e_111 (f_237 (pc := 165) (e := (165, 111, 0, 0, 0, 0, 0, 166)) rfl) rfl (hT 110 rfl) b19 b20 ?_
            replace F := F _ rfl
            refine e_26 (f_237 (pc := 166) (e := (166, 26, 3, 1, 0, 0, 0, 169)) rfl) (w := 1) rfl rfl ?_
            refine e_26 (f_237 (pc := 169) (e := (169, 26, 6, 1, 0, 0, 0, 172)) rfl) (w := 1) rfl rfl ?_
            refine e_80 (f_237 (pc := 172) (e := (172, 80, 71, 0, 0, 0, 0, 175)) rfl) ?_
            refine e_lo [0, 2, 3, 4, 5, 6] rfl ?_
            exact F
          · replace F := F.2 c13
            refine e_80 (f_237 (pc := 135) (e := (135, 80, 169, 0, 0, 0, 0, 138)) rfl) ?_
            refine e_26 (f_237 (pc := 169) (e := (169, 26, 6, 1, 0, 0, 0, 172)) rfl) (w := 1) rfl rfl ?_
            refine e_80 (f_237 (pc := 172) (e := (172, 80, 71, 0, 0, 0, 0, 175)) rfl) ?_
            refine e_lo [0, 2, 3, 4, 5, 6] rfl ?_
            exact F
end Sy
