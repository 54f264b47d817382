/-! BLOCKS anew, cut at more places, printed by wip/whole/y/ct.py -/
section Sy
variable {l : Launch} {D : va_G} {cy : Nat → ClassId} {z d bc bs N : Nat} {T : Nat → Nat × Nat} {R : Nat → Nat → Option Nat} {I : Nat → Nat → Int} {K : yKo}
set_option maxRecDepth 20000 in
theorem Bx_229_0 (hT : yLT T) (hR : yLR R) (F : ((I 105 2) ≠ 8 → yW l zSS D cy zFk z d 182 0 0 (fun r h' => ∃ I2, r = none ∧ h' = (N, T, R, I2) ∧ (yW l zSS D cy zFk z d 194 0 0 (fun r h' => ∃ r4 I3, r = some (yi r4) ∧ h' = (N, T, R, I3) ∧ ((r4 ≠ 0 → yW l zSS D cy zFk z d 180 0 0 (fun r h' => ∃ r7 I6, r = some (yi r7) ∧ h' = (N, T, R, I6) ∧ ((r7 < 0 → yW l zSS D cy zFk z (d + 1) 229 bc bs K 0 0 52 [(0, yr (some 102)), (1, yi (I 105 2))] [] (N, T, R, I6)) ∧ (¬ (r7 < 0) → yW l zSS D cy zFk z d 159 0 0 (fun r h' => ∃ r10 I9, r = some (yi r10) ∧ h' = (N, T, R, I9) ∧ ((r10 = 0 ∨ r10 = 1) ∧ K (some (yi r10)) (N, T, R, I9))) 0 0 0 [(0, yr (some 102)), (1, yi 3)] [] (N, T, R, I6)))) 0 0 0 [(0, yr (some 102)), (1, yi 8), (2, yi (I 105 2))] [] (N, T, R, I3)) ∧ (¬ (r4 ≠ 0) → yW l zSS D cy zFk z d 159 0 0 (fun r h' => ∃ r12 I11, r = some (yi r12) ∧ h' = (N, T, R, I11) ∧ ((r12 = 0 ∨ r12 = 1) ∧ K (some (yi r12)) (N, T, R, I11))) 0 0 0 [(0, yr (some 102)), (1, yi 1)] [] (N, T, R, I3)))) 0 0 0 [(0, yr (some 102))] [] (N, T, R, I2))) 0 0 0 [(0, yr (some 102))] [] (N, T, R, I)) ∧ (¬ ((I 105 2) ≠ 8) → yW l zSS D cy zFk z d 159 0 0 (fun r h' => ∃ r14 I13, r = some (yi r14) ∧ h' = (N, T, R, I13) ∧ ((r14 = 0 ∨ r14 = 1) ∧ K (some (yi r14)) (N, T, R, I13))) 0 0 0 [(0, yr (some 102)), (1, yi 4)] [] (N, T, R, I))) :
    yW l zSS D cy zFk z (d + 1) 229 bc bs K 0 0 0 [(0, yr (some 102))] [] (N, T, R, I) := by
  refine e_12 (f_229 (pc := 0) (e := (0, 12, 0, 0, 0, 0, 0, 1)) rfl) rfl ?_
  refine e_90r zA (f_229 (pc := 1) (e := (1, 90, 11, 7, 3, 37, 1160, 4)) rfl) rfl (hT 102 rfl) rfl rfl (hR 102 7 rfl) ?_
  refine e_0 (f_229 (pc := 4) (e := (4, 0, 2, 0, 0, 0, 0, 5)) rfl) (v := 2) rfl ?_
  refine e_110 (f_229 (pc := 5) (e := (5, 110, 0, 0, 0, 0, 0, 6)) rfl) rfl (hT 105 rfl) (by decide) (by decide) ?_
  refine e_20 (f_229 (pc := 6) (e := (6, 20, 1, 0, 0, 0, 0, 7)) rfl) ?_
  refine e_10 (f_229 (pc := 7) (e := (7, 10, 1, 0, 0, 0, 0, 8)) rfl) rfl ?_
  refine e_1 (f_229 (pc := 8) (e := (8, 1, 8, 0, 0, 0, 0, 10)) rfl) (v := 8) rfl ?_
  refine e_71 (f_229 (pc := 10) (e := (10, 71, 19, 0, 0, 0, 0, 13)) rfl) (fun c1 => ?_) (fun c1 => ?_)
  · replace F := F.1 c1
    refine e_12 (f_229 (pc := 19) (e := (19, 12, 0, 0, 0, 0, 0, 20)) rfl) rfl ?_
    refine e_130 (f_229 (pc := 20) (e := (20, 130, 182, 0, 11, 190, 1224, 23)) rfl) zA (as := [yr (some 102)]) (rest := []) rfl rfl rfl rfl (Nat.le_of_ble_eq_true rfl) (Nat.le_of_ble_eq_true rfl) ⟨_, _, _, rfl, (hT 102 rfl)⟩ (mc := 0) (ms := 0) (Nat.zero_le _) (Nat.zero_le _) ?_
    refine e_K ?_ F
    rintro r h' ⟨I2, rfl, rfl, F⟩
    refine e_12 (f_229 (pc := 23) (e := (23, 12, 0, 0, 0, 0, 0, 24)) rfl) rfl ?_
    refine e_130 (f_229 (pc := 24) (e := (24, 130, 194, 0, 11, 228, 1286, 27)) rfl) zA (as := [yr (some 102)]) (rest := []) rfl rfl rfl rfl (Nat.le_of_ble_eq_true rfl) (Nat.le_of_ble_eq_true rfl) ⟨_, _, _, rfl, (hT 102 rfl)⟩ (mc := 0) (ms := 0) (Nat.zero_le _) (Nat.zero_le _) ?_
    refine e_K ?_ F
    rintro r h' ⟨r4, I3, rfl, rfl, F⟩
    refine e_61 (f_229 (pc := 27) (e := (27, 61, 36, 0, 0, 0, 0, 30)) rfl) (fun c5 => ?_) (fun c5 => ?_)
    · replace F := F.1 c5
      refine e_12 (f_229 (pc := 36) (e := (36, 12, 0, 0, 0, 0, 0, 37)) rfl) rfl ?_
      refine e_1 (f_229 (pc := 37) (e := (37, 1, 8, 0, 0, 0, 0, 39)) rfl) (v := 8) rfl ?_
      refine e_10 (f_229 (pc := 39) (e := (39, 10, 1, 0, 0, 0, 0, 40)) rfl) rfl ?_
      refine e_130 (f_229 (pc := 40) (e := (40, 130, 180, 0, 11, 231, 1287, 43)) rfl) zA (as := [yr (some 102), yi 8, yi _]) (rest := []) rfl rfl rfl rfl (Nat.le_of_ble_eq_true rfl) (Nat.le_of_ble_eq_true rfl) ⟨_, _, _, rfl, (hT 102 rfl)⟩ (mc := 0) (ms := 0) (Nat.zero_le _) (Nat.zero_le _) ?_
      refine e_K ?_ F
      rintro r h' ⟨r7, I6, rfl, rfl, F⟩
      refine e_62 (f_229 (pc := 43) (e := (43, 62, 52, 0, 0, 0, 0, 46)) rfl) (fun c8 => ?_) (fun c8 => ?_)
      · replace F := F.1 c8
        refine e_lo [0, 1] rfl ?_
        exact F
      · replace F := F.2 c8
        refine e_12 (f_229 (pc := 46) (e := (46, 12, 0, 0, 0, 0, 0, 47)) rfl) rfl ?_
        refine e_0 (f_229 (pc := 47) (e := (47, 0, 3, 0, 0, 0, 0, 48)) rfl) (v := 3) rfl ?_
        refine e_130 (f_229 (pc := 48) (e := (48, 130, 159, 0, 11, 187, 1243, 51)) rfl) zA (as := [yr (some 102), yi 3]) (rest := []) rfl rfl rfl rfl (Nat.le_of_ble_eq_true rfl) (Nat.le_of_ble_eq_true rfl) ⟨_, _, _, rfl, (hT 102 rfl)⟩ (mc := 0) (ms := 0) (Nat.zero_le _) (Nat.zero_le _) ?_
        refine e_K ?_ F
        rintro r h' ⟨r10, I9, rfl, rfl, F⟩
        exact e_121 (f_229 (pc := 51) (e := (51, 121, 0, 0, 0, 0, 0, 52)) rfl) F.1 F.2
    · replace F := F.2 c5
      refine e_12 (f_229 (pc := 30) (e := (30, 12, 0, 0, 0, 0, 0, 31)) rfl) rfl ?_
      refine e_0 (f_229 (pc := 31) (e := (31, 0, 1, 0, 0, 0, 0, 32)) rfl) (v := 1) rfl ?_
      refine e_130 (f_229 (pc := 32) (e := (32, 130, 159, 0, 11, 187, 1243, 35)) rfl) zA (as := [yr (some 102), yi 1]) (rest := []) rfl rfl rfl rfl (Nat.le_of_ble_eq_true rfl) (Nat.le_of_ble_eq_true rfl) ⟨_, _, _, rfl, (hT 102 rfl)⟩ (mc := 0) (ms := 0) (Nat.zero_le _) (Nat.zero_le _) ?_
      refine e_K ?_ F
      rintro r h' ⟨r12, I11, rfl, rfl, F⟩
      exact e_121 (f_229 (pc := 35) (e := (35, 121, 0, 0, 0, 0, 0, 36)) rfl) F.1 F.2
  · replace F := F.2 c1
    refine e_12 (f_229 (pc := 13) (e := (13, 12, 0, 0, 0, 0, 0, 14)) rfl) rfl ?_
    refine e_0 (f_229 (pc := 14) (e := (14, 0, 4, 0, 0, 0, 0, 15)) rfl) (v := 4) rfl ?_
    refine e_130 (f_229 (pc := 15) (e := (15, 130, 159, 0, 11, 187, 1243, 18)) rfl) zA (as := [yr (some 102), yi 4]) (rest := []) rfl rfl rfl rfl (Nat.le_of_ble_eq_true rfl) (Nat.le_of_ble_eq_true rfl) ⟨_, _, _, rfl, (hT 102 rfl)⟩ (mc := 0) (ms := 0) (Nat.zero_le _) (Nat.zero_le _) ?_
    refine e_K ?_ F
    rintro r h' ⟨r14, I13, rfl, rfl, F⟩
    exact e_121 (f_229 (pc := 18) (e := (18, 121, 0, 0, 0, 0, 0, 19)) rfl) F.1 F.2
set_option maxRecDepth 20000 in
theorem Bx_229_52 (hT : yLT T) (hR : yLR R) {x1 : Int} (F : 0 ≤ (yadd 8 x1) ∧ (yadd 8 x1) < 16 ∧ (∀ I3, I3 = yU I 107 ((yadd 8 x1).toNat) (I 102 17) → (yW l zSS D cy zFk z d 182 0 0 (fun r h' => ∃ I4, r = none ∧ h' = (N, T, R, I4) ∧ (yW l zSS D cy zFk z d 212 0 0 (fun r h' => ∃ r6 I5, r = some (yi r6) ∧ h' = (N, T, R, I5) ∧ ((r6 ≠ 0 → yW l zSS D cy zFk z (d + 1) 229 bc bs K 0 0 78 [(0, yr (some 102)), (1, yi x1)] [] (N, T, R, I5)) ∧ (¬ (r6 ≠ 0) → K (some (yi 0)) (N, T, R, I5)))) 0 0 0 [(0, yr (some 102))] [] (N, T, R, I4))) 0 0 0 [(0, yr (some 102))] [] (N, T, R, I3)))) :
    yW l zSS D cy zFk z (d + 1) 229 bc bs K 0 0 52 [(0, yr (some 102)), (1, yi x1)] [] (N, T, R, I) := by
  refine e_12 (f_229 (pc := 52) (e := (52, 12, 0, 0, 0, 0, 0, 53)) rfl) rfl ?_
  refine e_90r zA (f_229 (pc := 53) (e := (53, 90, 11, 9, 3, 43, 1162, 56)) rfl) rfl (hT 102 rfl) rfl rfl (hR 102 9 rfl) ?_
  refine e_1 (f_229 (pc := 56) (e := (56, 1, 8, 0, 0, 0, 0, 58)) rfl) (v := 8) rfl ?_
  refine e_10 (f_229 (pc := 58) (e := (58, 10, 1, 0, 0, 0, 0, 59)) rfl) rfl ?_
  refine e_30 (f_229 (pc := 59) (e := (59, 30, 0, 0, 0, 0, 0, 60)) rfl) ?_
  refine e_12 (f_229 (pc := 60) (e := (60, 12, 0, 0, 0, 0, 0, 61)) rfl) rfl ?_
  refine e_90 zA (f_229 (pc := 61) (e := (61, 90, 11, 17, 1, 174, 1258, 64)) rfl) rfl (hT 102 rfl) rfl rfl ?_
  obtain ⟨b1, b2, F⟩ := F
  refine e_115 (f_229 (pc := 64) (e := (64, 115, 0, 0, 0, 0, 0, 65)) rfl) rfl (hT 107 rfl) b1 b2 ?_
  replace F := F _ rfl
  refine e_12 (f_229 (pc := 65) (e := (65, 12, 0, 0, 0, 0, 0, 66)) rfl) rfl ?_
  refine e_130 (f_229 (pc := 66) (e := (66, 130, 182, 0, 11, 190, 1224, 69)) rfl) zA (as := [yr (some 102)]) (rest := []) rfl rfl rfl rfl (Nat.le_of_ble_eq_true rfl) (Nat.le_of_ble_eq_true rfl) ⟨_, _, _, rfl, (hT 102 rfl)⟩ (mc := 0) (ms := 0) (Nat.zero_le _) (Nat.zero_le _) ?_
  refine e_K ?_ F
  rintro r h' ⟨I4, rfl, rfl, F⟩
  refine e_12 (f_229 (pc := 69) (e := (69, 12, 0, 0, 0, 0, 0, 70)) rfl) rfl ?_
  refine e_130 (f_229 (pc := 70) (e := (70, 130, 212, 0, 11, 208, 1283, 73)) rfl) zA (as := [yr (some 102)]) (rest := []) rfl rfl rfl rfl (Nat.le_of_ble_eq_true rfl) (Nat.le_of_ble_eq_true rfl) ⟨_, _, _, rfl, (hT 102 rfl)⟩ (mc := 0) (ms := 0) (Nat.zero_le _) (Nat.zero_le _) ?_
  refine e_K ?_ F
  rintro r h' ⟨r6, I5, rfl, rfl, F⟩
  refine e_61 (f_229 (pc := 73) (e := (73, 61, 78, 0, 0, 0, 0, 76)) rfl) (fun c7 => ?_) (fun c7 => ?_)
  · replace F := F.1 c7
    refine e_lo [0, 1] rfl ?_
    exact F
  · replace F := F.2 c7
    refine e_0 (f_229 (pc := 76) (e := (76, 0, 0, 0, 0, 0, 0, 77)) rfl) (v := 0) rfl ?_
    exact e_121 (f_229 (pc := 77) (e := (77, 121, 0, 0, 0, 0, 0, 78)) rfl) (.inl rfl) F
set_option maxRecDepth 20000 in
theorem Bx_229_78 (hT : yLT T) (hR : yLR R) {x1 : Int} (F : 0 ≤ (yadd 10 (I 102 18)) ∧ (yadd 10 (I 102 18)) < 458 ∧ (((I 105 (yadd 10 (I 102 18)).toNat) ≠ 1 → yW l zSS D cy zFk z (d + 1) 229 bc bs K 0 0 100 [(0, yr (some 102)), (1, yi x1)] [] (N, T, R, I)) ∧ (¬ ((I 105 (yadd 10 (I 102 18)).toNat) ≠ 1) → yW l zSS D cy zFk z d 159 0 0 (fun r h' => ∃ r5 I4, r = some (yi r5) ∧ h' = (N, T, R, I4) ∧ ((r5 = 0 ∨ r5 = 1) ∧ K (some (yi r5)) (N, T, R, I4))) 0 0 0 [(0, yr (some 102)), (1, yi 5)] [] (N, T, R, I)))) :
    yW l zSS D cy zFk z (d + 1) 229 bc bs K 0 0 78 [(0, yr (some 102)), (1, yi x1)] [] (N, T, R, I) := by
  refine e_12 (f_229 (pc := 78) (e := (78, 12, 0, 0, 0, 0, 0, 79)) rfl) rfl ?_
  refine e_90r zA (f_229 (pc := 79) (e := (79, 90, 11, 7, 3, 37, 1160, 82)) rfl) rfl (hT 102 rfl) rfl rfl (hR 102 7 rfl) ?_
  refine e_1 (f_229 (pc := 82) (e := (82, 1, 10, 0, 0, 0, 0, 84)) rfl) (v := 10) rfl ?_
  refine e_12 (f_229 (pc := 84) (e := (84, 12, 0, 0, 0, 0, 0, 85)) rfl) rfl ?_
  refine e_90 zA (f_229 (pc := 85) (e := (85, 90, 11, 18, 0, 197, 1281, 88)) rfl) rfl (hT 102 rfl) rfl rfl ?_
  refine e_30 (f_229 (pc := 88) (e := (88, 30, 0, 0, 0, 0, 0, 89)) rfl) ?_
  obtain ⟨b1, b2, F⟩ := F
  refine e_110 (f_229 (pc := 89) (e := (89, 110, 0, 0, 0, 0, 0, 90)) rfl) rfl (hT 105 rfl) b1 b2 ?_
  refine e_0 (f_229 (pc := 90) (e := (90, 0, 1, 0, 0, 0, 0, 91)) rfl) (v := 1) rfl ?_
  refine e_71 (f_229 (pc := 91) (e := (91, 71, 100, 0, 0, 0, 0, 94)) rfl) (fun c3 => ?_) (fun c3 => ?_)
  · replace F := F.1 c3
    refine e_lo [0, 1] rfl ?_
    exact F
  · replace F := F.2 c3
    refine e_12 (f_229 (pc := 94) (e := (94, 12, 0, 0, 0, 0, 0, 95)) rfl) rfl ?_
    refine e_0 (f_229 (pc := 95) (e := (95, 0, 5, 0, 0, 0, 0, 96)) rfl) (v := 5) rfl ?_
    refine e_130 (f_229 (pc := 96) (e := (96, 130, 159, 0, 11, 187, 1243, 99)) rfl) zA (as := [yr (some 102), yi 5]) (rest := []) rfl rfl rfl rfl (Nat.le_of_ble_eq_true rfl) (Nat.le_of_ble_eq_true rfl) ⟨_, _, _, rfl, (hT 102 rfl)⟩ (mc := 0) (ms := 0) (Nat.zero_le _) (Nat.zero_le _) ?_
    refine e_K ?_ F
    rintro r h' ⟨r5, I4, rfl, rfl, F⟩
    exact e_121 (f_229 (pc := 99) (e := (99, 121, 0, 0, 0, 0, 0, 100)) rfl) F.1 F.2
set_option maxRecDepth 20000 in
theorem Bx_229_100 (hT : yLT T) (hR : yLR R) {x1 : Int} (F : 0 ≤ (yadd 326 x1) ∧ (yadd 326 x1) < 458 ∧ (∀ I3, I3 = yU I 105 ((yadd 326 x1).toNat) (ynar 1 (I 102 18)) → (yW l zSS D cy zFk z d 182 0 0 (fun r h' => ∃ I4, r = none ∧ h' = (N, T, R, I4) ∧ (yW l zSS D cy zFk z d 245 0 0 (fun r h' => ∃ r6 I5, r = some (yi r6) ∧ h' = (N, T, R, I5) ∧ ((r6 ≠ 0 → yW l zSS D cy zFk z (d + 1) 229 bc bs K 0 0 130 [(0, yr (some 102)), (1, yi x1)] [] (N, T, R, I5)) ∧ (¬ (r6 ≠ 0) → K (some (yi 0)) (N, T, R, I5)))) 0 0 0 [(0, yr (some 102)), (1, yi 0), (2, yi 9)] [] (N, T, R, I4))) 0 0 0 [(0, yr (some 102))] [] (N, T, R, I3)))) :
    yW l zSS D cy zFk z (d + 1) 229 bc bs K 0 0 100 [(0, yr (some 102)), (1, yi x1)] [] (N, T, R, I) := by
  refine e_12 (f_229 (pc := 100) (e := (100, 12, 0, 0, 0, 0, 0, 101)) rfl) rfl ?_
  refine e_90r zA (f_229 (pc := 101) (e := (101, 90, 11, 7, 3, 37, 1160, 104)) rfl) rfl (hT 102 rfl) rfl rfl (hR 102 7 rfl) ?_
  refine e_2 (f_229 (pc := 104) (e := (104, 2, 326, 0, 0, 0, 0, 107)) rfl) (v := 326) rfl ?_
  refine e_10 (f_229 (pc := 107) (e := (107, 10, 1, 0, 0, 0, 0, 108)) rfl) rfl ?_
  refine e_30 (f_229 (pc := 108) (e := (108, 30, 0, 0, 0, 0, 0, 109)) rfl) ?_
  refine e_12 (f_229 (pc := 109) (e := (109, 12, 0, 0, 0, 0, 0, 110)) rfl) rfl ?_
  refine e_90 zA (f_229 (pc := 110) (e := (110, 90, 11, 18, 0, 197, 1281, 113)) rfl) rfl (hT 102 rfl) rfl rfl ?_
  obtain ⟨b1, b2, F⟩ := F
  refine e_111 (f_229 (pc := 113) (e := (113, 111, 0, 0, 0, 0, 0, 114)) rfl) rfl (hT 105 rfl) b1 b2 ?_
  replace F := F _ rfl
  refine e_12 (f_229 (pc := 114) (e := (114, 12, 0, 0, 0, 0, 0, 115)) rfl) rfl ?_
  refine e_130 (f_229 (pc := 115) (e := (115, 130, 182, 0, 11, 190, 1224, 118)) rfl) zA (as := [yr (some 102)]) (rest := []) rfl rfl rfl rfl (Nat.le_of_ble_eq_true rfl) (Nat.le_of_ble_eq_true rfl) ⟨_, _, _, rfl, (hT 102 rfl)⟩ (mc := 0) (ms := 0) (Nat.zero_le _) (Nat.zero_le _) ?_
  refine e_K ?_ F
  rintro r h' ⟨I4, rfl, rfl, F⟩
  refine e_12 (f_229 (pc := 118) (e := (118, 12, 0, 0, 0, 0, 0, 119)) rfl) rfl ?_
  refine e_0 (f_229 (pc := 119) (e := (119, 0, 0, 0, 0, 0, 0, 120)) rfl) (v := 0) rfl ?_
  refine e_1 (f_229 (pc := 120) (e := (120, 1, 9, 0, 0, 0, 0, 122)) rfl) (v := 9) rfl ?_
  refine e_130 (f_229 (pc := 122) (e := (122, 130, 245, 0, 11, 200, 1280, 125)) rfl) zA (as := [yr (some 102), yi 0, yi 9]) (rest := []) rfl rfl rfl rfl (Nat.le_of_ble_eq_true rfl) (Nat.le_of_ble_eq_true rfl) ⟨_, _, _, rfl, (hT 102 rfl)⟩ (mc := 0) (ms := 0) (Nat.zero_le _) (Nat.zero_le _) ?_
  refine e_K ?_ F
  rintro r h' ⟨r6, I5, rfl, rfl, F⟩
  refine e_61 (f_229 (pc := 125) (e := (125, 61, 130, 0, 0, 0, 0, 128)) rfl) (fun c7 => ?_) (fun c7 => ?_)
  · replace F := F.1 c7
    refine e_lo [0, 1] rfl ?_
    exact F
  · replace F := F.2 c7
    refine e_0 (f_229 (pc := 128) (e := (128, 0, 0, 0, 0, 0, 0, 129)) rfl) (v := 0) rfl ?_
    exact e_121 (f_229 (pc := 129) (e := (129, 121, 0, 0, 0, 0, 0, 130)) rfl) (.inl rfl) F
set_option maxRecDepth 20000 in
theorem Bx_229_130 (hT : yLT T) (hR : yLR R) {x1 : Int} (F : 0 ≤ (yadd 310 x1) ∧ (yadd 310 x1) < 458 ∧ (∀ I3, I3 = yU I 105 ((yadd 310 x1).toNat) (ynar 1 (I 102 18)) → (yW l zSS D cy zFk z d 245 0 0 (fun r h' => ∃ r5 I4, r = some (yi r5) ∧ h' = (N, T, R, I4) ∧ ((r5 ≠ 0 → yW l zSS D cy zFk z (d + 1) 229 bc bs K 0 0 156 [(0, yr (some 102)), (1, yi x1)] [] (N, T, R, I4)) ∧ (¬ (r5 ≠ 0) → K (some (yi 0)) (N, T, R, I4)))) 0 0 0 [(0, yr (some 102)), (1, yi 0), (2, yi 9)] [] (N, T, R, I3)))) :
    yW l zSS D cy zFk z (d + 1) 229 bc bs K 0 0 130 [(0, yr (some 102)), (1, yi x1)] [] (N, T, R, I) := by
  refine e_12 (f_229 (pc := 130) (e := (130, 12, 0, 0, 0, 0, 0, 131)) rfl) rfl ?_
  refine e_90r zA (f_229 (pc := 131) (e := (131, 90, 11, 7, 3, 37, 1160, 134)) rfl) rfl (hT 102 rfl) rfl rfl (hR 102 7 rfl) ?_
  refine e_2 (f_229 (pc := 134) (e := (134, 2, 310, 0, 0, 0, 0, 137)) rfl) (v := 310) rfl ?_
  refine e_10 (f_229 (pc := 137) (e := (137, 10, 1, 0, 0, 0, 0, 138)) rfl) rfl ?_
  refine e_30 (f_229 (pc := 138) (e := (138, 30, 0, 0, 0, 0, 0, 139)) rfl) ?_
  refine e_12 (f_229 (pc := 139) (e := (139, 12, 0, 0, 0, 0, 0, 140)) rfl) rfl ?_
  refine e_90 zA (f_229 (pc := 140) (e := (140, 90, 11, 18, 0, 197, 1281, 143)) rfl) rfl (hT 102 rfl) rfl rfl ?_
  obtain ⟨b1, b2, F⟩ := F
  refine e_111 (f_229 (pc := 143) (e := (143, 111, 0, 0, 0, 0, 0, 144)) rfl) rfl (hT 105 rfl) b1 b2 ?_
  replace F := F _ rfl
  refine e_12 (f_229 (pc := 144) (e := (144, 12, 0, 0, 0, 0, 0, 145)) rfl) rfl ?_
  refine e_0 (f_229 (pc := 145) (e := (145, 0, 0, 0, 0, 0, 0, 146)) rfl) (v := 0) rfl ?_
  refine e_1 (f_229 (pc := 146) (e := (146, 1, 9, 0, 0, 0, 0, 148)) rfl) (v := 9) rfl ?_
  refine e_130 (f_229 (pc := 148) (e := (148, 130, 245, 0, 11, 200, 1280, 151)) rfl) zA (as := [yr (some 102), yi 0, yi 9]) (rest := []) rfl rfl rfl rfl (Nat.le_of_ble_eq_true rfl) (Nat.le_of_ble_eq_true rfl) ⟨_, _, _, rfl, (hT 102 rfl)⟩ (mc := 0) (ms := 0) (Nat.zero_le _) (Nat.zero_le _) ?_
  refine e_K ?_ F
  rintro r h' ⟨r5, I4, rfl, rfl, F⟩
  refine e_61 (f_229 (pc := 151) (e := (151, 61, 156, 0, 0, 0, 0, 154)) rfl) (fun c6 => ?_) (fun c6 => ?_)
  · replace F := F.1 c6
    refine e_lo [0, 1] rfl ?_
    exact F
  · replace F := F.2 c6
    refine e_0 (f_229 (pc := 154) (e := (154, 0, 0, 0, 0, 0, 0, 155)) rfl) (v := 0) rfl ?_
    exact e_121 (f_229 (pc := 155) (e := (155, 121, 0, 0, 0, 0, 0, 156)) rfl) (.inl rfl) F
set_option maxRecDepth 20000 in
theorem Bx_229_156 (hT : yLT T) (hR : yLR R) {x1 : Int} (F : 0 ≤ (yadd 318 x1) ∧ (yadd 318 x1) < 458 ∧ (∀ I3, I3 = yU I 105 ((yadd 318 x1).toNat) (ynar 1 (I 102 18)) → (yW l zSS D cy zFk z d 212 0 0 (fun r h' => ∃ r5 I4, r = some (yi r5) ∧ h' = (N, T, R, I4) ∧ ((r5 ≠ 0 → yW l zSS D cy zFk z (d + 1) 229 bc bs K 0 0 179 [(0, yr (some 102)), (1, yi x1)] [] (N, T, R, I4)) ∧ (¬ (r5 ≠ 0) → K (some (yi 0)) (N, T, R, I4)))) 0 0 0 [(0, yr (some 102))] [] (N, T, R, I3)))) :
    yW l zSS D cy zFk z (d + 1) 229 bc bs K 0 0 156 [(0, yr (some 102)), (1, yi x1)] [] (N, T, R, I) := by
  refine e_12 (f_229 (pc := 156) (e := (156, 12, 0, 0, 0, 0, 0, 157)) rfl) rfl ?_
  refine e_90r zA (f_229 (pc := 157) (e := (157, 90, 11, 7, 3, 37, 1160, 160)) rfl) rfl (hT 102 rfl) rfl rfl (hR 102 7 rfl) ?_
  refine e_2 (f_229 (pc := 160) (e := (160, 2, 318, 0, 0, 0, 0, 163)) rfl) (v := 318) rfl ?_
  refine e_10 (f_229 (pc := 163) (e := (163, 10, 1, 0, 0, 0, 0, 164)) rfl) rfl ?_
  refine e_30 (f_229 (pc := 164) (e := (164, 30, 0, 0, 0, 0, 0, 165)) rfl) ?_
  refine e_12 (f_229 (pc := 165) (e := (165, 12, 0, 0, 0, 0, 0, 166)) rfl) rfl ?_
  refine e_90 zA (f_229 (pc := 166) (e := (166, 90, 11, 18, 0, 197, 1281, 169)) rfl) rfl (hT 102 rfl) rfl rfl ?_
  obtain ⟨b1, b2, F⟩ := F
  refine e_111 (f_229 (pc := 169) (e := (169, 111, 0, 0, 0, 0, 0, 170)) rfl) rfl (hT 105 rfl) b1 b2 ?_
  replace F := F _ rfl
  refine e_12 (f_229 (pc := 170) (e := (170, 12, 0, 0, 0, 0, 0, 171)) rfl) rfl ?_
  refine e_130 (f_229 (pc := 171) (e := (171, 130, 212, 0, 11, 208, 1283, 174)) rfl) zA (as := [yr (some 102)]) (rest := []) rfl rfl rfl rfl (Nat.le_of_ble_eq_true rfl) (Nat.le_of_ble_eq_true rfl) ⟨_, _, _, rfl, (hT 102 rfl)⟩ (mc := 0) (ms := 0) (Nat.zero_le _) (Nat.zero_le _) ?_
  refine e_K ?_ F
  rintro r h' ⟨r5, I4, rfl, rfl, F⟩
  refine e_61 (f_229 (pc := 174) (e := (174, 61, 179, 0, 0, 0, 0, 177)) rfl) (fun c6 => ?_) (fun c6 => ?_)
  · replace F := F.1 c6
    refine e_lo [0, 1] rfl ?_
    exact F
  · replace F := F.2 c6
    refine e_0 (f_229 (pc := 177) (e := (177, 0, 0, 0, 0, 0, 0, 178)) rfl) (v := 0) rfl ?_
    exact e_121 (f_229 (pc := 178) (e := (178, 121, 0, 0, 0, 0, 0, 179)) rfl) (.inl rfl) F
set_option maxRecDepth 20000 in
theorem Bx_229_179 (hT : yLT T) (hR : yLR R) {x1 : Int} (F : 0 ≤ (yadd 10 (I 102 18)) ∧ (yadd 10 (I 102 18)) < 458 ∧ (((I 105 (yadd 10 (I 102 18)).toNat) ≠ 1 → yW l zSS D cy zFk z (d + 1) 229 bc bs K 0 0 201 [(0, yr (some 102)), (1, yi x1)] [] (N, T, R, I)) ∧ (¬ ((I 105 (yadd 10 (I 102 18)).toNat) ≠ 1) → yW l zSS D cy zFk z d 159 0 0 (fun r h' => ∃ r5 I4, r = some (yi r5) ∧ h' = (N, T, R, I4) ∧ ((r5 = 0 ∨ r5 = 1) ∧ K (some (yi r5)) (N, T, R, I4))) 0 0 0 [(0, yr (some 102)), (1, yi 5)] [] (N, T, R, I)))) :
    yW l zSS D cy zFk z (d + 1) 229 bc bs K 0 0 179 [(0, yr (some 102)), (1, yi x1)] [] (N, T, R, I) := by
  refine e_12 (f_229 (pc := 179) (e := (179, 12, 0, 0, 0, 0, 0, 180)) rfl) rfl ?_
  refine e_90r zA (f_229 (pc := 180) (e := (180, 90, 11, 7, 3, 37, 1160, 183)) rfl) rfl (hT 102 rfl) rfl rfl (hR 102 7 rfl) ?_
  refine e_1 (f_229 (pc := 183) (e := (183, 1, 10, 0, 0, 0, 0, 185)) rfl) (v := 10) rfl ?_
  refine e_12 (f_229 (pc := 185) (e := (185, 12, 0, 0, 0, 0, 0, 186)) rfl) rfl ?_
  refine e_90 zA (f_229 (pc := 186) (e := (186, 90, 11, 18, 0, 197, 1281, 189)) rfl) rfl (hT 102 rfl) rfl rfl ?_
  refine e_30 (f_229 (pc := 189) (e := (189, 30, 0, 0, 0, 0, 0, 190)) rfl) ?_
  obtain ⟨b1, b2, F⟩ := F
  refine e_110 (f_229 (pc := 190) (e := (190, 110, 0, 0, 0, 0, 0, 191)) rfl) rfl (hT 105 rfl) b1 b2 ?_
  refine e_0 (f_229 (pc := 191) (e := (191, 0, 1, 0, 0, 0, 0, 192)) rfl) (v := 1) rfl ?_
  refine e_71 (f_229 (pc := 192) (e := (192, 71, 201, 0, 0, 0, 0, 195)) rfl) (fun c3 => ?_) (fun c3 => ?_)
  · replace F := F.1 c3
    refine e_lo [0, 1] rfl ?_
    exact F
  · replace F := F.2 c3
    refine e_12 (f_229 (pc := 195) (e := (195, 12, 0, 0, 0, 0, 0, 196)) rfl) rfl ?_
    refine e_0 (f_229 (pc := 196) (e := (196, 0, 5, 0, 0, 0, 0, 197)) rfl) (v := 5) rfl ?_
    refine e_130 (f_229 (pc := 197) (e := (197, 130, 159, 0, 11, 187, 1243, 200)) rfl) zA (as := [yr (some 102), yi 5]) (rest := []) rfl rfl rfl rfl (Nat.le_of_ble_eq_true rfl) (Nat.le_of_ble_eq_true rfl) ⟨_, _, _, rfl, (hT 102 rfl)⟩ (mc := 0) (ms := 0) (Nat.zero_le _) (Nat.zero_le _) ?_
    refine e_K ?_ F
    rintro r h' ⟨r5, I4, rfl, rfl, F⟩
    exact e_121 (f_229 (pc := 200) (e := (200, 121, 0, 0, 0, 0, 0, 201)) rfl) F.1 F.2
set_option maxRecDepth 20000 in
theorem Bx_229_201 (hT : yLT T) (hR : yLR R) {x1 : Int} (F : 0 ≤ (yadd 334 x1) ∧ (yadd 334 x1) < 458 ∧ (∀ I3, I3 = yU I 105 ((yadd 334 x1).toNat) (ynar 1 (I 102 18)) → (yW l zSS D cy zFk z d 182 0 0 (fun r h' => ∃ I4, r = none ∧ h' = (N, T, R, I4) ∧ (∀ I5, I5 = yU I4 105 2 (ynar 1 (yadd (I4 105 2) 1)) → (K (some (yi 1)) (N, T, R, I5)))) 0 0 0 [(0, yr (some 102))] [] (N, T, R, I3)))) :
    yW l zSS D cy zFk z (d + 1) 229 bc bs K 0 0 201 [(0, yr (some 102)), (1, yi x1)] [] (N, T, R, I) := by
  refine e_12 (f_229 (pc := 201) (e := (201, 12, 0, 0, 0, 0, 0, 202)) rfl) rfl ?_
  refine e_90r zA (f_229 (pc := 202) (e := (202, 90, 11, 7, 3, 37, 1160, 205)) rfl) rfl (hT 102 rfl) rfl rfl (hR 102 7 rfl) ?_
  refine e_2 (f_229 (pc := 205) (e := (205, 2, 334, 0, 0, 0, 0, 208)) rfl) (v := 334) rfl ?_
  refine e_10 (f_229 (pc := 208) (e := (208, 10, 1, 0, 0, 0, 0, 209)) rfl) rfl ?_
  refine e_30 (f_229 (pc := 209) (e := (209, 30, 0, 0, 0, 0, 0, 210)) rfl) ?_
  refine e_12 (f_229 (pc := 210) (e := (210, 12, 0, 0, 0, 0, 0, 211)) rfl) rfl ?_
  refine e_90 zA (f_229 (pc := 211) (e := (211, 90, 11, 18, 0, 197, 1281, 214)) rfl) rfl (hT 102 rfl) rfl rfl ?_
  obtain ⟨b1, b2, F⟩ := F
  refine e_111 (f_229 (pc := 214) (e := (214, 111, 0, 0, 0, 0, 0, 215)) rfl) rfl (hT 105 rfl) b1 b2 ?_
  replace F := F _ rfl
  refine e_12 (f_229 (pc := 215) (e := (215, 12, 0, 0, 0, 0, 0, 216)) rfl) rfl ?_
  refine e_130 (f_229 (pc := 216) (e := (216, 130, 182, 0, 11, 190, 1224, 219)) rfl) zA (as := [yr (some 102)]) (rest := []) rfl rfl rfl rfl (Nat.le_of_ble_eq_true rfl) (Nat.le_of_ble_eq_true rfl) ⟨_, _, _, rfl, (hT 102 rfl)⟩ (mc := 0) (ms := 0) (Nat.zero_le _) (Nat.zero_le _) ?_
  refine e_K ?_ F
  rintro r h' ⟨I4, rfl, rfl, F⟩
  refine e_12 (f_229 (pc := 219) (e := (219, 12, 0, 0, 0, 0, 0, 220)) rfl) rfl ?_
  refine e_90r zA (f_229 (pc := 220) (e := (220, 90, 11, 7, 3, 37, 1160, 223)) rfl) rfl (hT 102 rfl) rfl rfl (hR 102 7 rfl) ?_
  refine e_0 (f_229 (pc := 223) (e := (223, 0, 2, 0, 0, 0, 0, 224)) rfl) (v := 2) rfl ?_
  refine e_51 (f_229 (pc := 224) (e := (224, 51, 0, 0, 0, 0, 0, 225)) rfl) rfl rfl ?_
  refine e_110 (f_229 (pc := 225) (e := (225, 110, 0, 0, 0, 0, 0, 226)) rfl) rfl (hT 105 rfl) (by decide) (by decide) ?_
  refine e_0 (f_229 (pc := 226) (e := (226, 0, 1, 0, 0, 0, 0, 227)) rfl) (v := 1) rfl ?_
  refine e_30 (f_229 (pc := 227) (e := (227, 30, 0, 0, 0, 0, 0, 228)) rfl) ?_
  refine e_111 (f_229 (pc := 228) (e := (228, 111, 0, 0, 0, 0, 0, 229)) rfl) rfl (hT 105 rfl) (by decide) (by decide) ?_
  replace F := F _ rfl
  refine e_0 (f_229 (pc := 229) (e := (229, 0, 1, 0, 0, 0, 0, 230)) rfl) (v := 1) rfl ?_
  exact e_121 (f_229 (pc := 230) (e := (230, 121, 0, 0, 0, 0, 0, 0)) rfl) (.inr rfl) F
end Sy
