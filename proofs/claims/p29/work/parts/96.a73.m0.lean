/-! BLOCKS of the reference, printed by wip/whole/y/gen73.py (0) -/
section Sy
variable {l : Launch} {D : va_G} {cy : Nat → ClassId} {z d bc bs N : Nat} {T : Nat → Nat × Nat} {R : Nat → Nat → Option Nat} {I : Nat → Nat → Int} {K : yKo}
/-! acts(I)V -/
set_option maxRecDepth 20000 in
theorem B_155_0 (hT : yLT T) (hR : yLR R) {x1 : Int} (F : 0 ≤ (yadd 470 x1) ∧ (yadd 470 x1) < 1188 ∧ (((I 104 (yadd 470 x1).toNat) < 0 → yW l zSS D cy zFk z (d + 1) 155 bc bs K 0 0 35 [] [] (N, T, R, I)) ∧ (¬ ((I 104 (yadd 470 x1).toNat) < 0) → yW l zSS D cy zFk z d 164 0 0 (fun r h' => ∃ r5 I4, r = some (yi r5) ∧ h' = (N, T, R, I4) ∧ ((r5 ≠ 0 → yW l zSS D cy zFk z (d + 1) 155 bc bs K 0 0 35 [] [] (N, T, R, I4)) ∧ (¬ (r5 ≠ 0) → yW l zSS D cy zFk z d 164 0 0 (fun r h' => ∃ r8 I7, r = some (yi r8) ∧ h' = (N, T, R, I7) ∧ ((r8 = 0 → yW l zSS D cy zFk z d 164 0 0 (fun r h' => ∃ r11 I10, r = some (yi r11) ∧ h' = (N, T, R, I10) ∧ ((r11 = 0 → yW l zSS D cy zFk z (d + 1) 155 bc bs K 0 0 68 [(0, yr (some 102)), (1, yi x1)] [] (N, T, R, I10)) ∧ (¬ (r11 = 0) → ((I10 102 30) ≤ (I10 104 458) → yW l zSS D cy zFk z (d + 1) 155 bc bs K 0 0 68 [(0, yr (some 102)), (1, yi x1)] [] (N, T, R, I10)) ∧ (¬ ((I10 102 30) ≤ (I10 104 458)) → yW l zSS D cy zFk z (d + 1) 155 bc bs K 0 0 86 [(0, yr (some 102)), (1, yi x1)] [] (N, T, R, I10))))) 0 0 0 [(0, yi (I7 102 29)), (1, yi x1)] [] (N, T, R, I7)) ∧ (¬ (r8 = 0) → yW l zSS D cy zFk z (d + 1) 155 bc bs K 0 0 35 [] [] (N, T, R, I7)))) 0 0 0 [(0, yi (I4 102 32)), (1, yi x1)] [] (N, T, R, I4)))) 0 0 0 [(0, yi (I 102 31)), (1, yi x1)] [] (N, T, R, I)))) :
    yW l zSS D cy zFk z (d + 1) 155 bc bs K 0 0 0 [(0, yr (some 102)), (1, yi x1)] [] (N, T, R, I) := by
  refine e_12 (f_155 (pc := 0) (e := (0, 12, 0, 0, 0, 0, 0, 1)) rfl) rfl ?_
  refine e_90r zA (f_155 (pc := 1) (e := (1, 90, 11, 6, 3, 33, 1159, 4)) rfl) rfl (hT 102 rfl) rfl rfl (hR 102 6 rfl) ?_
  refine e_2 (f_155 (pc := 4) (e := (4, 2, 470, 0, 0, 0, 0, 7)) rfl) (v := 470) rfl ?_
  refine e_10 (f_155 (pc := 7) (e := (7, 10, 1, 0, 0, 0, 0, 8)) rfl) rfl ?_
  refine e_30 (f_155 (pc := 8) (e := (8, 30, 0, 0, 0, 0, 0, 9)) rfl) ?_
  obtain ⟨b1, b2, F⟩ := F
  refine e_110 (f_155 (pc := 9) (e := (9, 110, 0, 0, 0, 0, 0, 10)) rfl) rfl (hT 104 rfl) b1 b2 ?_
  refine e_62 (f_155 (pc := 10) (e := (10, 62, 35, 0, 0, 0, 0, 13)) rfl) (fun c3 => ?_) (fun c3 => ?_)
  · replace F := F.1 c3
    refine e_lo [] rfl ?_
    exact F
  · replace F := F.2 c3
    refine e_12 (f_155 (pc := 13) (e := (13, 12, 0, 0, 0, 0, 0, 14)) rfl) rfl ?_
    refine e_90 zA (f_155 (pc := 14) (e := (14, 90, 11, 31, 0, 307, 1206, 17)) rfl) rfl (hT 102 rfl) rfl rfl ?_
    refine e_10 (f_155 (pc := 17) (e := (17, 10, 1, 0, 0, 0, 0, 18)) rfl) rfl ?_
    refine e_132 (f_155 (pc := 18) (e := (18, 132, 164, 2, 11, 238, 1207, 21)) rfl) zA (as := [yi _, yi x1]) (rest := []) rfl rfl rfl rfl (Nat.le_of_ble_eq_true rfl) (Nat.le_of_ble_eq_true rfl) (mc := 0) (ms := 0) (Nat.zero_le _) (Nat.zero_le _) ?_
    refine e_K ?_ F
    rintro r h' ⟨r5, I4, rfl, rfl, F⟩
    refine e_61 (f_155 (pc := 21) (e := (21, 61, 35, 0, 0, 0, 0, 24)) rfl) (fun c6 => ?_) (fun c6 => ?_)
    · replace F := F.1 c6
      refine e_lo [] rfl ?_
      exact F
    · replace F := F.2 c6
      refine e_12 (f_155 (pc := 24) (e := (24, 12, 0, 0, 0, 0, 0, 25)) rfl) rfl ?_
      refine e_90 zA (f_155 (pc := 25) (e := (25, 90, 11, 32, 0, 310, 1208, 28)) rfl) rfl (hT 102 rfl) rfl rfl ?_
      refine e_10 (f_155 (pc := 28) (e := (28, 10, 1, 0, 0, 0, 0, 29)) rfl) rfl ?_
      refine e_132 (f_155 (pc := 29) (e := (29, 132, 164, 2, 11, 238, 1207, 32)) rfl) zA (as := [yi _, yi x1]) (rest := []) rfl rfl rfl rfl (Nat.le_of_ble_eq_true rfl) (Nat.le_of_ble_eq_true rfl) (mc := 0) (ms := 0) (Nat.zero_le _) (Nat.zero_le _) ?_
      refine e_K ?_ F
      rintro r h' ⟨r8, I7, rfl, rfl, F⟩
      refine e_60 (f_155 (pc := 32) (e := (32, 60, 36, 0, 0, 0, 0, 35)) rfl) (fun c9 => ?_) (fun c9 => ?_)
      · replace F := F.1 c9
        refine e_12 (f_155 (pc := 36) (e := (36, 12, 0, 0, 0, 0, 0, 37)) rfl) rfl ?_
        refine e_90 zA (f_155 (pc := 37) (e := (37, 90, 11, 29, 0, 313, 1209, 40)) rfl) rfl (hT 102 rfl) rfl rfl ?_
        refine e_10 (f_155 (pc := 40) (e := (40, 10, 1, 0, 0, 0, 0, 41)) rfl) rfl ?_
        refine e_132 (f_155 (pc := 41) (e := (41, 132, 164, 2, 11, 238, 1207, 44)) rfl) zA (as := [yi _, yi x1]) (rest := []) rfl rfl rfl rfl (Nat.le_of_ble_eq_true rfl) (Nat.le_of_ble_eq_true rfl) (mc := 0) (ms := 0) (Nat.zero_le _) (Nat.zero_le _) ?_
        refine e_K ?_ F
        rintro r h' ⟨r11, I10, rfl, rfl, F⟩
        refine e_60 (f_155 (pc := 44) (e := (44, 60, 68, 0, 0, 0, 0, 47)) rfl) (fun c12 => ?_) (fun c12 => ?_)
        · replace F := F.1 c12
          refine e_lo [0, 1] rfl ?_
          exact F
        · replace F := F.2 c12
          refine e_12 (f_155 (pc := 47) (e := (47, 12, 0, 0, 0, 0, 0, 48)) rfl) rfl ?_
          refine e_90r zA (f_155 (pc := 48) (e := (48, 90, 11, 6, 3, 33, 1159, 51)) rfl) rfl (hT 102 rfl) rfl rfl (hR 102 6 rfl) ?_
          refine e_2 (f_155 (pc := 51) (e := (51, 2, 458, 0, 0, 0, 0, 54)) rfl) (v := 458) rfl ?_
          refine e_110 (f_155 (pc := 54) (e := (54, 110, 0, 0, 0, 0, 0, 55)) rfl) rfl (hT 104 rfl) (by decide) (by decide) ?_
          refine e_12 (f_155 (pc := 55) (e := (55, 12, 0, 0, 0, 0, 0, 56)) rfl) rfl ?_
          refine e_90 zA (f_155 (pc := 56) (e := (56, 90, 11, 30, 0, 316, 1210, 59)) rfl) rfl (hT 102 rfl) rfl rfl ?_
          refine e_73 (f_155 (pc := 59) (e := (59, 73, 68, 0, 0, 0, 0, 62)) rfl) (fun c13 => ?_) (fun c13 => ?_)
          · replace F := F.1 c13
            refine e_lo [0, 1] rfl ?_
            exact F
          · replace F := F.2 c13
            refine e_4 (f_155 (pc := 62) (e := (62, 4, 1000000, 0, 0, 319, 1211, 65)) rfl) (v := 1000000) rfl ?_
            refine e_80 (f_155 (pc := 65) (e := (65, 80, 73, 0, 0, 0, 0, 68)) rfl) ?_
            refine e_20 (f_155 (pc := 73) (e := (73, 20, 2, 0, 0, 0, 0, 74)) rfl) ?_
            refine e_10 (f_155 (pc := 74) (e := (74, 10, 2, 0, 0, 0, 0, 75)) rfl) rfl ?_
            refine e_0 (f_155 (pc := 75) (e := (75, 0, 4294967295, 0, 0, 0, 0, 76)) rfl) (v := (-1)) rfl ?_
            refine e_70 (f_155 (pc := 76) (e := (76, 70, 86, 0, 0, 0, 0, 79)) rfl) (fun g => absurd g (by decide)) (fun _ => ?_)
            refine e_10 (f_155 (pc := 79) (e := (79, 10, 2, 0, 0, 0, 0, 80)) rfl) rfl ?_
            refine e_4 (f_155 (pc := 80) (e := (80, 4, 1000000, 0, 0, 319, 1211, 83)) rfl) (v := 1000000) rfl ?_
            refine e_71 (f_155 (pc := 83) (e := (83, 71, 101, 0, 0, 0, 0, 86)) rfl) (fun g => absurd g (by decide)) (fun _ => ?_)
            refine e_lo [0, 1] rfl ?_
            exact F
      · replace F := F.2 c9
        refine e_lo [] rfl ?_
        exact F
set_option maxRecDepth 20000 in
theorem B_155_35 (hT : yLT T) (hR : yLR R) (F : K none (N, T, R, I)) :
    yW l zSS D cy zFk z d 155 bc bs K 0 0 35 [] [] (N, T, R, I) := by
  exact e_122 (f_155 (pc := 35) (e := (35, 122, 0, 0, 0, 0, 0, 36)) rfl) F
set_option maxRecDepth 20000 in
theorem B_155_68 (hT : yLT T) (hR : yLR R) {x1 : Int} (F : yW l zSS D cy zFk z d 241 0 0 (fun r h' => ∃ r2 I1, r = some (yi r2) ∧ h' = (N, T, R, I1) ∧ ((r2 = (-1) → yW l zSS D cy zFk z (d + 1) 155 bc bs K 0 0 86 [(0, yr (some 102)), (1, yi x1)] [] (N, T, R, I1)) ∧ (¬ (r2 = (-1)) → (r2 ≠ 1000000 → yW l zSS D cy zFk z d 183 0 0 (fun r h' => ∃ r6 I5, r = some (yi r6) ∧ h' = (N, T, R, I5) ∧ ((r6 = 0 → yW l zSS D cy zFk z (d + 1) 155 bc bs K 0 0 121 [(0, yr (some 102)), (1, yi x1), (2, yi r2), (3, yi (-1)), (4, yi 0)] [] (N, T, R, I5)) ∧ (¬ (r6 = 0) → yW l zSS D cy zFk z d 243 0 0 (fun r h' => ∃ I8, r = none ∧ h' = (N, T, R, I8) ∧ (K none (N, T, R, I8))) 0 0 0 [(0, yr (some 102)), (1, yi x1), (2, yi r2)] [] (N, T, R, I5)))) 0 0 0 [(0, yr (some 102)), (1, yi r2)] [] (N, T, R, I1)) ∧ (¬ (r2 ≠ 1000000) → yW l zSS D cy zFk z (d + 1) 155 bc bs K 0 0 86 [(0, yr (some 102)), (1, yi x1)] [] (N, T, R, I1))))) 0 0 0 [(0, yr (some 102)), (1, yi x1)] [] (N, T, R, I)) :
    yW l zSS D cy zFk z (d + 1) 155 bc bs K 0 0 68 [(0, yr (some 102)), (1, yi x1)] [] (N, T, R, I) := by
  refine e_12 (f_155 (pc := 68) (e := (68, 12, 0, 0, 0, 0, 0, 69)) rfl) rfl ?_
  refine e_10 (f_155 (pc := 69) (e := (69, 10, 1, 0, 0, 0, 0, 70)) rfl) rfl ?_
  refine e_130 (f_155 (pc := 70) (e := (70, 130, 241, 0, 11, 292, 1212, 73)) rfl) zA (as := [yr (some 102), yi x1]) (rest := []) rfl rfl rfl rfl (Nat.le_of_ble_eq_true rfl) (Nat.le_of_ble_eq_true rfl) ⟨_, _, _, rfl, (hT 102 rfl)⟩ (mc := 0) (ms := 0) (Nat.zero_le _) (Nat.zero_le _) ?_
  refine e_K ?_ F
  rintro r h' ⟨r2, I1, rfl, rfl, F⟩
  refine e_20 (f_155 (pc := 73) (e := (73, 20, 2, 0, 0, 0, 0, 74)) rfl) ?_
  refine e_10 (f_155 (pc := 74) (e := (74, 10, 2, 0, 0, 0, 0, 75)) rfl) rfl ?_
  refine e_0 (f_155 (pc := 75) (e := (75, 0, 4294967295, 0, 0, 0, 0, 76)) rfl) (v := (-1)) rfl ?_
  refine e_70 (f_155 (pc := 76) (e := (76, 70, 86, 0, 0, 0, 0, 79)) rfl) (fun c3 => ?_) (fun c3 => ?_)
  · replace F := F.1 c3
    refine e_lo [0, 1] rfl ?_
    exact F
  · replace F := F.2 c3
    refine e_10 (f_155 (pc := 79) (e := (79, 10, 2, 0, 0, 0, 0, 80)) rfl) rfl ?_
    refine e_4 (f_155 (pc := 80) (e := (80, 4, 1000000, 0, 0, 319, 1211, 83)) rfl) (v := 1000000) rfl ?_
    refine e_71 (f_155 (pc := 83) (e := (83, 71, 101, 0, 0, 0, 0, 86)) rfl) (fun c4 => ?_) (fun c4 => ?_)
    · replace F := F.1 c4
      refine e_12 (f_155 (pc := 101) (e := (101, 12, 0, 0, 0, 0, 0, 102)) rfl) rfl ?_
      refine e_10 (f_155 (pc := 102) (e := (102, 10, 2, 0, 0, 0, 0, 103)) rfl) rfl ?_
      refine e_130 (f_155 (pc := 103) (e := (103, 130, 183, 0, 11, 304, 1213, 106)) rfl) zA (as := [yr (some 102), yi r2]) (rest := []) rfl rfl rfl rfl (Nat.le_of_ble_eq_true rfl) (Nat.le_of_ble_eq_true rfl) ⟨_, _, _, rfl, (hT 102 rfl)⟩ (mc := 0) (ms := 0) (Nat.zero_le _) (Nat.zero_le _) ?_
      refine e_K ?_ F
      rintro r h' ⟨r6, I5, rfl, rfl, F⟩
      refine e_60 (f_155 (pc := 106) (e := (106, 60, 116, 0, 0, 0, 0, 109)) rfl) (fun c7 => ?_) (fun c7 => ?_)
      · replace F := F.1 c7
        refine e_0 (f_155 (pc := 116) (e := (116, 0, 4294967295, 0, 0, 0, 0, 117)) rfl) (v := (-1)) rfl ?_
        refine e_20 (f_155 (pc := 117) (e := (117, 20, 3, 0, 0, 0, 0, 118)) rfl) ?_
        refine e_0 (f_155 (pc := 118) (e := (118, 0, 0, 0, 0, 0, 0, 119)) rfl) (v := 0) rfl ?_
        refine e_21 (f_155 (pc := 119) (e := (119, 21, 4, 0, 0, 0, 0, 121)) rfl) ?_
        refine e_lo [0, 1, 2, 3, 4] rfl ?_
        exact F
      · replace F := F.2 c7
        refine e_12 (f_155 (pc := 109) (e := (109, 12, 0, 0, 0, 0, 0, 110)) rfl) rfl ?_
        refine e_10 (f_155 (pc := 110) (e := (110, 10, 1, 0, 0, 0, 0, 111)) rfl) rfl ?_
        refine e_10 (f_155 (pc := 111) (e := (111, 10, 2, 0, 0, 0, 0, 112)) rfl) rfl ?_
        refine e_130 (f_155 (pc := 112) (e := (112, 130, 243, 0, 11, 320, 1214, 115)) rfl) zA (as := [yr (some 102), yi x1, yi r2]) (rest := []) rfl rfl rfl rfl (Nat.le_of_ble_eq_true rfl) (Nat.le_of_ble_eq_true rfl) ⟨_, _, _, rfl, (hT 102 rfl)⟩ (mc := 0) (ms := 0) (Nat.zero_le _) (Nat.zero_le _) ?_
        refine e_K ?_ F
        rintro r h' ⟨I8, rfl, rfl, F⟩
        exact e_122 (f_155 (pc := 115) (e := (115, 122, 0, 0, 0, 0, 0, 116)) rfl) F
    · replace F := F.2 c4
      refine e_lo [0, 1] rfl ?_
      exact F
set_option maxRecDepth 20000 in
theorem B_155_86 (hT : yLT T) (hR : yLR R) {x1 : Int} (F : 0 ≤ (yadd 502 x1) ∧ (yadd 502 x1) < 1188 ∧ (0 ≤ (yadd 502 x1) ∧ (yadd 502 x1) < 1188 ∧ (∀ I5, I5 = yU I 104 ((yadd 502 x1).toNat) (ynar 1 (yadd (I 104 (yadd 502 x1).toNat) 1)) → (K none (N, T, R, I5))))) :
    yW l zSS D cy zFk z d 155 bc bs K 0 0 86 [(0, yr (some 102)), (1, yi x1)] [] (N, T, R, I) := by
  refine e_12 (f_155 (pc := 86) (e := (86, 12, 0, 0, 0, 0, 0, 87)) rfl) rfl ?_
  refine e_90r zA (f_155 (pc := 87) (e := (87, 90, 11, 6, 3, 33, 1159, 90)) rfl) rfl (hT 102 rfl) rfl rfl (hR 102 6 rfl) ?_
  refine e_2 (f_155 (pc := 90) (e := (90, 2, 502, 0, 0, 0, 0, 93)) rfl) (v := 502) rfl ?_
  refine e_10 (f_155 (pc := 93) (e := (93, 10, 1, 0, 0, 0, 0, 94)) rfl) rfl ?_
  refine e_30 (f_155 (pc := 94) (e := (94, 30, 0, 0, 0, 0, 0, 95)) rfl) ?_
  refine e_51 (f_155 (pc := 95) (e := (95, 51, 0, 0, 0, 0, 0, 96)) rfl) rfl rfl ?_
  obtain ⟨b1, b2, F⟩ := F
  refine e_110 (f_155 (pc := 96) (e := (96, 110, 0, 0, 0, 0, 0, 97)) rfl) rfl (hT 104 rfl) b1 b2 ?_
  refine e_0 (f_155 (pc := 97) (e := (97, 0, 1, 0, 0, 0, 0, 98)) rfl) (v := 1) rfl ?_
  refine e_30 (f_155 (pc := 98) (e := (98, 30, 0, 0, 0, 0, 0, 99)) rfl) ?_
  obtain ⟨b3, b4, F⟩ := F
  refine e_111 (f_155 (pc := 99) (e := (99, 111, 0, 0, 0, 0, 0, 100)) rfl) rfl (hT 104 rfl) b3 b4 ?_
  replace F := F _ rfl
  exact e_122 (f_155 (pc := 100) (e := (100, 122, 0, 0, 0, 0, 0, 101)) rfl) F
set_option maxRecDepth 20000 in
theorem B_155_121 (hT : yLT T) (hR : yLR R) {x1 x2 x3 x4 : Int} (F : ((I 104 2) ≤ x4 → 0 ≤ (yadd 486 x3) ∧ (yadd 486 x3) < 1188 ∧ (0 ≤ x3 ∧ x3 < 8 ∧ (0 ≤ x1 ∧ x1 < 8 ∧ (((I 112 x3.toNat) ≤ (I 112 x1.toNat) → yW l zSS D cy zFk z (d + 1) 155 bc bs K 0 0 324 [(0, yr (some 102)), (1, yi x1), (2, yi x2), (3, yi x3)] [] (N, T, R, I)) ∧ (¬ ((I 112 x3.toNat) ≤ (I 112 x1.toNat)) → yW l zSS D cy zFk z d 164 0 0 (fun r h' => ∃ r10 I9, r = some (yi r10) ∧ h' = (N, T, R, I9) ∧ ((r10 ≠ 0 → yW l zSS D cy zFk z (d + 1) 155 bc bs K 0 0 324 [(0, yr (some 102)), (1, yi x1), (2, yi x2), (3, yi x3)] [] (N, T, R, I9)) ∧ (¬ (r10 ≠ 0) → ((I 104 (yadd 486 x3).toNat) < 0 → yW l zSS D cy zFk z (d + 1) 155 bc bs K 0 0 324 [(0, yr (some 102)), (1, yi x1), (2, yi x2), (3, yi x3)] [] (N, T, R, I9)) ∧ (¬ ((I 104 (yadd 486 x3).toNat) < 0) → yW l zSS D cy zFk z d 183 0 0 (fun r h' => ∃ r14 I13, r = some (yi r14) ∧ h' = (N, T, R, I13) ∧ ((r14 = 0 → yW l zSS D cy zFk z (d + 1) 155 bc bs K 0 0 324 [(0, yr (some 102)), (1, yi x1), (2, yi x2), (3, yi x3)] [] (N, T, R, I13)) ∧ (¬ (r14 = 0) → yW l zSS D cy zFk z d 213 0 0 (fun r h' => ∃ I16, r = none ∧ h' = (N, T, R, I16) ∧ (∀ I17, I17 = yU I16 104 460 (ynar 1 (yadd (I16 104 460) 1)) → (0 ≤ (yadd 494 x3) ∧ (yadd 494 x3) < 1188 ∧ (0 ≤ (yadd 494 x3) ∧ (yadd 494 x3) < 1188 ∧ (∀ I22, I22 = yU I17 104 ((yadd 494 x3).toNat) (ynar 1 (yadd (I17 104 (yadd 494 x3).toNat) 1)) → (0 ≤ (yadd 470 x3) ∧ (yadd 470 x3) < 1188 ∧ (∀ I25, I25 = yU I22 104 ((yadd 470 x3).toNat) (ynar 1 (I 104 (yadd 486 x3).toNat)) → (0 ≤ (yadd 486 x3) ∧ (yadd 486 x3) < 1188 ∧ (∀ I28, I28 = yU I25 104 ((yadd 486 x3).toNat) (ynar 1 (-1)) → (0 ≤ (yadd 110 (I 104 (yadd 486 x3).toNat)) ∧ (yadd 110 (I 104 (yadd 486 x3).toNat)) < 1188 ∧ (0 ≤ (yadd 518 x3) ∧ (yadd 518 x3) < 1188 ∧ (∀ I33, I33 = yU I28 104 ((yadd 518 x3).toNat) (ynar 1 (I28 104 (yadd 110 (I 104 (yadd 486 x3).toNat)).toNat)) → (∀ I34, I34 = yU I33 102 31 (yor (I33 102 31) (yshl 1 x3)) → (yW l zSS D cy zFk z d 243 0 0 (fun r h' => ∃ I35, r = none ∧ h' = (N, T, R, I35) ∧ (K none (N, T, R, I35))) 0 0 0 [(0, yr (some 102)), (1, yi x1), (2, yi x2)] [] (N, T, R, I34))))))))))))))) 0 0 0 [(0, yr (some 102)), (1, yi x1), (2, yi x3), (3, yi x2), (4, yi 1)] [] (N, T, R, I13)))) 0 0 0 [(0, yr (some 102)), (1, yi (I 104 (yadd 486 x3).toNat))] [] (N, T, R, I9))))) 0 0 0 [(0, yi (I 102 31)), (1, yi x3)] [] (N, T, R, I)))))) ∧ (¬ ((I 104 2) ≤ x4) → 0 ≤ (yadd 470 x4) ∧ (yadd 470 x4) < 1188 ∧ (((I 104 (yadd 470 x4).toNat) ≠ x2 → yW l zSS D cy zFk z (d + 1) 155 bc bs K 0 0 170 [(0, yr (some 102)), (1, yi x1), (2, yi x2), (3, yi x3), (4, yi x4)] [] (N, T, R, I)) ∧ (¬ ((I 104 (yadd 470 x4).toNat) ≠ x2) → (x3 < 0 → yW l zSS D cy zFk z (d + 1) 155 bc bs K 0 0 167 [(0, yr (some 102)), (1, yi x1), (2, yi x2), (4, yi x4)] [] (N, T, R, I)) ∧ (¬ (x3 < 0) → 0 ≤ x4 ∧ x4 < 8 ∧ (0 ≤ x3 ∧ x3 < 8 ∧ (((I 112 x4.toNat) ≤ (I 112 x3.toNat) → yW l zSS D cy zFk z (d + 1) 155 bc bs K 0 0 170 [(0, yr (some 102)), (1, yi x1), (2, yi x2), (3, yi x3), (4, yi x4)] [] (N, T, R, I)) ∧ (¬ ((I 112 x4.toNat) ≤ (I 112 x3.toNat)) → yW l zSS D cy zFk z (d + 1) 155 bc bs K 0 0 167 [(0, yr (some 102)), (1, yi x1), (2, yi x2), (4, yi x4)] [] (N, T, R, I))))))))) :
    yW l zSS D cy zFk z (d + 1) 155 bc bs K 0 0 121 [(0, yr (some 102)), (1, yi x1), (2, yi x2), (3, yi x3), (4, yi x4)] [] (N, T, R, I) := by
  refine e_11 (f_155 (pc := 121) (e := (121, 11, 4, 0, 0, 0, 0, 123)) rfl) rfl ?_
  refine e_12 (f_155 (pc := 123) (e := (123, 12, 0, 0, 0, 0, 0, 124)) rfl) rfl ?_
  refine e_90r zA (f_155 (pc := 124) (e := (124, 90, 11, 6, 3, 33, 1159, 127)) rfl) rfl (hT 102 rfl) rfl rfl (hR 102 6 rfl) ?_
  refine e_0 (f_155 (pc := 127) (e := (127, 0, 2, 0, 0, 0, 0, 128)) rfl) (v := 2) rfl ?_
  refine e_110 (f_155 (pc := 128) (e := (128, 110, 0, 0, 0, 0, 0, 129)) rfl) rfl (hT 104 rfl) (by decide) (by decide) ?_
  refine e_73 (f_155 (pc := 129) (e := (129, 73, 176, 0, 0, 0, 0, 132)) rfl) (fun c1 => ?_) (fun c1 => ?_)
  · replace F := F.1 c1
    refine e_12 (f_155 (pc := 176) (e := (176, 12, 0, 0, 0, 0, 0, 177)) rfl) rfl ?_
    refine e_90r zA (f_155 (pc := 177) (e := (177, 90, 11, 6, 3, 33, 1159, 180)) rfl) rfl (hT 102 rfl) rfl rfl (hR 102 6 rfl) ?_
    refine e_2 (f_155 (pc := 180) (e := (180, 2, 486, 0, 0, 0, 0, 183)) rfl) (v := 486) rfl ?_
    refine e_10 (f_155 (pc := 183) (e := (183, 10, 3, 0, 0, 0, 0, 184)) rfl) rfl ?_
    refine e_30 (f_155 (pc := 184) (e := (184, 30, 0, 0, 0, 0, 0, 185)) rfl) ?_
    obtain ⟨b2, b3, F⟩ := F
    refine e_110 (f_155 (pc := 185) (e := (185, 110, 0, 0, 0, 0, 0, 186)) rfl) rfl (hT 104 rfl) b2 b3 ?_
    refine e_21 (f_155 (pc := 186) (e := (186, 21, 4, 0, 0, 0, 0, 188)) rfl) ?_
    refine e_12 (f_155 (pc := 188) (e := (188, 12, 0, 0, 0, 0, 0, 189)) rfl) rfl ?_
    refine e_90r zA (f_155 (pc := 189) (e := (189, 90, 11, 27, 3, 59, 1167, 192)) rfl) rfl (hT 102 rfl) rfl rfl (hR 102 27 rfl) ?_
    refine e_10 (f_155 (pc := 192) (e := (192, 10, 3, 0, 0, 0, 0, 193)) rfl) rfl ?_
    obtain ⟨b4, b5, F⟩ := F
    refine e_110 (f_155 (pc := 193) (e := (193, 110, 0, 0, 0, 0, 0, 194)) rfl) rfl (hT 112 rfl) b4 b5 ?_
    refine e_12 (f_155 (pc := 194) (e := (194, 12, 0, 0, 0, 0, 0, 195)) rfl) rfl ?_
    refine e_90r zA (f_155 (pc := 195) (e := (195, 90, 11, 27, 3, 59, 1167, 198)) rfl) rfl (hT 102 rfl) rfl rfl (hR 102 27 rfl) ?_
    refine e_10 (f_155 (pc := 198) (e := (198, 10, 1, 0, 0, 0, 0, 199)) rfl) rfl ?_
    obtain ⟨b6, b7, F⟩ := F
    refine e_110 (f_155 (pc := 199) (e := (199, 110, 0, 0, 0, 0, 0, 200)) rfl) rfl (hT 112 rfl) b6 b7 ?_
    refine e_75 (f_155 (pc := 200) (e := (200, 75, 324, 0, 0, 0, 0, 203)) rfl) (fun c8 => ?_) (fun c8 => ?_)
    · replace F := F.1 c8
      refine e_lo [0, 1, 2, 3] rfl ?_
      exact F
    · replace F := F.2 c8
      refine e_12 (f_155 (pc := 203) (e := (203, 12, 0, 0, 0, 0, 0, 204)) rfl) rfl ?_
      refine e_90 zA (f_155 (pc := 204) (e := (204, 90, 11, 31, 0, 307, 1206, 207)) rfl) rfl (hT 102 rfl) rfl rfl ?_
      refine e_10 (f_155 (pc := 207) (e := (207, 10, 3, 0, 0, 0, 0, 208)) rfl) rfl ?_
      refine e_132 (f_155 (pc := 208) (e := (208, 132, 164, 2, 11, 238, 1207, 211)) rfl) zA (as := [yi _, yi x3]) (rest := []) rfl rfl rfl rfl (Nat.le_of_ble_eq_true rfl) (Nat.le_of_ble_eq_true rfl) (mc := 0) (ms := 0) (Nat.zero_le _) (Nat.zero_le _) ?_
      refine e_K ?_ F
      rintro r h' ⟨r10, I9, rfl, rfl, F⟩
      refine e_61 (f_155 (pc := 211) (e := (211, 61, 324, 0, 0, 0, 0, 214)) rfl) (fun c11 => ?_) (fun c11 => ?_)
      · replace F := F.1 c11
        refine e_lo [0, 1, 2, 3] rfl ?_
        exact F
      · replace F := F.2 c11
        refine e_11 (f_155 (pc := 214) (e := (214, 11, 4, 0, 0, 0, 0, 216)) rfl) rfl ?_
        refine e_62 (f_155 (pc := 216) (e := (216, 62, 324, 0, 0, 0, 0, 219)) rfl) (fun c12 => ?_) (fun c12 => ?_)
        · replace F := F.1 c12
          refine e_lo [0, 1, 2, 3] rfl ?_
          exact F
        · replace F := F.2 c12
          refine e_12 (f_155 (pc := 219) (e := (219, 12, 0, 0, 0, 0, 0, 220)) rfl) rfl ?_
          refine e_11 (f_155 (pc := 220) (e := (220, 11, 4, 0, 0, 0, 0, 222)) rfl) rfl ?_
          refine e_130 (f_155 (pc := 222) (e := (222, 130, 183, 0, 11, 304, 1213, 225)) rfl) zA (as := [yr (some 102), yi _]) (rest := []) rfl rfl rfl rfl (Nat.le_of_ble_eq_true rfl) (Nat.le_of_ble_eq_true rfl) ⟨_, _, _, rfl, (hT 102 rfl)⟩ (mc := 0) (ms := 0) (Nat.zero_le _) (Nat.zero_le _) ?_
          refine e_K ?_ F
          rintro r h' ⟨r14, I13, rfl, rfl, F⟩
          refine e_60 (f_155 (pc := 225) (e := (225, 60, 324, 0, 0, 0, 0, 228)) rfl) (fun c15 => ?_) (fun c15 => ?_)
          · replace F := F.1 c15
            refine e_lo [0, 1, 2, 3] rfl ?_
            exact F
          · replace F := F.2 c15
            refine e_12 (f_155 (pc := 228) (e := (228, 12, 0, 0, 0, 0, 0, 229)) rfl) rfl ?_
            refine e_10 (f_155 (pc := 229) (e := (229, 10, 1, 0, 0, 0, 0, 230)) rfl) rfl ?_
            refine e_10 (f_155 (pc := 230) (e := (230, 10, 3, 0, 0, 0, 0, 231)) rfl) rfl ?_
            refine e_10 (f_155 (pc := 231) (e := (231, 10, 2, 0, 0, 0, 0, 232)) rfl) rfl ?_
            refine e_0 (f_155 (pc := 232) (e := (232, 0, 1, 0, 0, 0, 0, 233)) rfl) (v := 1) rfl ?_
            refine e_130 (f_155 (pc := 233) (e := (233, 130, 213, 0, 11, 323, 1215, 236)) rfl) zA (as := [yr (some 102), yi x1, yi x3, yi x2, yi 1]) (rest := []) rfl rfl rfl rfl (Nat.le_of_ble_eq_true rfl) (Nat.le_of_ble_eq_true rfl) ⟨_, _, _, rfl, (hT 102 rfl)⟩ (mc := 0) (ms := 0) (Nat.zero_le _) (Nat.zero_le _) ?_
            refine e_K ?_ F
            rintro r h' ⟨I16, rfl, rfl, F⟩
            refine e_12 (f_155 (pc := 236) (e := (236, 12, 0, 0, 0, 0, 0, 237)) rfl) rfl ?_
            refine e_90r zA (f_155 (pc := 237) (e := (237, 90, 11, 6, 3, 33, 1159, 240)) rfl) rfl (hT 102 rfl) rfl rfl (hR 102 6 rfl) ?_
            refine e_2 (f_155 (pc := 240) (e := (240, 2, 460, 0, 0, 0, 0, 243)) rfl) (v := 460) rfl ?_
            refine e_51 (f_155 (pc := 243) (e := (243, 51, 0, 0, 0, 0, 0, 244)) rfl) rfl rfl ?_
            refine e_110 (f_155 (pc := 244) (e := (244, 110, 0, 0, 0, 0, 0, 245)) rfl) rfl (hT 104 rfl) (by decide) (by decide) ?_
            refine e_0 (f_155 (pc := 245) (e := (245, 0, 1, 0, 0, 0, 0, 246)) rfl) (v := 1) rfl ?_
            refine e_30 (f_155 (pc := 246) (e := (246, 30, 0, 0, 0, 0, 0, 247)) rfl) ?_
            refine e_111 (f_155 (pc := 247) (e := (247, 111, 0, 0, 0, 0, 0, 248)) rfl) rfl (hT 104 rfl) (by decide) (by decide) ?_
            replace F := F _ rfl
            refine e_12 (f_155 (pc := 248) (e := (248, 12, 0, 0, 0, 0, 0, 249)) rfl) rfl ?_
            refine e_90r zA (f_155 (pc := 249) (e := (249, 90, 11, 6, 3, 33, 1159, 252)) rfl) rfl (hT 102 rfl) rfl rfl (hR 102 6 rfl) ?_
            refine e_2 (f_155 (pc := 252) (e := (252, 2, 494, 0, 0, 0, 0, 255)) rfl) (v := 494) rfl ?_
            refine e_10 (f_155 (pc := 255) (e := (255, 10, 3, 0, 0, 0, 0, 256)) rfl) rfl ?_
            refine e_30 (f_155 (pc := 256) (e := (256, 30, 0, 0, 0, 0, 0, 257)) rfl) ?_
            refine e_51 (f_155 (pc := 257) (e := (257, 51, 0, 0, 0, 0, 0, 258)) rfl) rfl rfl ?_
            obtain ⟨b18, b19, F⟩ := F
            refine e_110 (f_155 (pc := 258) (e := (258, 110, 0, 0, 0, 0, 0, 259)) rfl) rfl (hT 104 rfl) b18 b19 ?_
            refine e_0 (f_155 (pc := 259) (e := (259, 0, 1, 0, 0, 0, 0, 260)) rfl) (v := 1) rfl ?_
            refine e_30 (f_155 (pc := 260) (e := (260, 30, 0, 0, 0, 0, 0, 261)) rfl) ?_
            obtain ⟨b20, b21, F⟩ := F
            refine e_111 (f_155 (pc := 261) (e := (261, 111, 0, 0, 0, 0, 0, 262)) rfl) rfl (hT 104 rfl) b20 b21 ?_
            replace F := F _ rfl
            refine e_12 (f_155 (pc := 262) (e := (262, 12, 0, 0, 0, 0, 0, 263)) rfl) rfl ?_
            refine e_90r zA (f_155 (pc := 263) (e := (263, 90, 11, 6, 3, 33, 1159, 266)) rfl) rfl (hT 102 rfl) rfl rfl (hR 102 6 rfl) ?_
            refine e_2 (f_155 (pc := 266) (e := (266, 2, 470, 0, 0, 0, 0, 269)) rfl) (v := 470) rfl ?_
            refine e_10 (f_155 (pc := 269) (e := (269, 10, 3, 0, 0, 0, 0, 270)) rfl) rfl ?_
            refine e_30 (f_155 (pc := 270) (e := (270, 30, 0, 0, 0, 0, 0, 271)) rfl) ?_
            refine e_11 (f_155 (pc := 271) (e := (271, 11, 4, 0, 0, 0, 0, 273)) rfl) rfl ?_
            obtain ⟨b23, b24, F⟩ := F
            refine e_111 (f_155 (pc := 273) (e := (273, 111, 0, 0, 0, 0, 0, 274)) rfl) rfl (hT 104 rfl) b23 b24 ?_
            replace F := F _ rfl
            refine e_12 (f_155 (pc := 274) (e := (274, 12, 0, 0, 0, 0, 0, 275)) rfl) rfl ?_
            refine e_90r zA (f_155 (pc := 275) (e := (275, 90, 11, 6, 3, 33, 1159, 278)) rfl) rfl (hT 102 rfl) rfl rfl (hR 102 6 rfl) ?_
            refine e_2 (f_155 (pc := 278) (e := (278, 2, 486, 0, 0, 0, 0, 281)) rfl) (v := 486) rfl ?_
            refine e_10 (f_155 (pc := 281) (e := (281, 10, 3, 0, 0, 0, 0, 282)) rfl) rfl ?_
            refine e_30 (f_155 (pc := 282) (e := (282, 30, 0, 0, 0, 0, 0, 283)) rfl) ?_
            refine e_0 (f_155 (pc := 283) (e := (283, 0, 4294967295, 0, 0, 0, 0, 284)) rfl) (v := (-1)) rfl ?_
            obtain ⟨b26, b27, F⟩ := F
            refine e_111 (f_155 (pc := 284) (e := (284, 111, 0, 0, 0, 0, 0, 285)) rfl) rfl (hT 104 rfl) b26 b27 ?_
            replace F := F _ rfl
            refine e_12 (f_155 (pc := 285) (e := (285, 12, 0, 0, 0, 0, 0, 286)) rfl) rfl ?_
            refine e_90r zA (f_155 (pc := 286) (e := (286, 90, 11, 6, 3, 33, 1159, 289)) rfl) rfl (hT 102 rfl) rfl rfl (hR 102 6 rfl) ?_
            refine e_2 (f_155 (pc := 289) (e := (289, 2, 518, 0, 0, 0, 0, 292)) rfl) (v := 518) rfl ?_
            refine e_10 (f_155 (pc := 292) (e := (292, 10, 3, 0, 0, 0, 0, 293)) rfl) rfl ?_
            refine e_30 (f_155 (pc := 293) (e := (293, 30, 0, 0, 0, 0, 0, 294)) rfl) ?_
            refine e_12 (f_155 (pc := 294) (e := (294, 12, 0, 0, 0, 0, 0, 295)) rfl) rfl ?_
            refine e_90r zA (f_155 (pc := 295) (e := (295, 90, 11, 6, 3, 33, 1159, 298)) rfl) rfl (hT 102 rfl) rfl rfl (hR 102 6 rfl) ?_
            refine e_1 (f_155 (pc := 298) (e := (298, 1, 110, 0, 0, 0, 0, 300)) rfl) (v := 110) rfl ?_
            refine e_11 (f_155 (pc := 300) (e := (300, 11, 4, 0, 0, 0, 0, 302)) rfl) rfl ?_
            refine e_30 (f_155 (pc := 302) (e := (302, 30, 0, 0, 0, 0, 0, 303)) rfl) ?_
            obtain ⟨b29, b30, F⟩ := F
            refine e_110 (f_155 (pc := 303) (e := (303, 110, 0, 0, 0, 0, 0, 304)) rfl) rfl (hT 104 rfl) b29 b30 ?_
            obtain ⟨b31, b32, F⟩ := F
            refine e_111 (f_155 (pc := 304) (e := (304, 111, 0, 0, 0, 0, 0, 305)) rfl) rfl (hT 104 rfl) b31 b32 ?_
            replace F := F _ rfl
            refine e_12 (f_155 (pc := 305) (e := (305, 12, 0, 0, 0, 0, 0, 306)) rfl) rfl ?_
            refine e_50 (f_155 (pc := 306) (e := (306, 50, 0, 0, 0, 0, 0, 307)) rfl) rfl ?_
            refine e_90 zA (f_155 (pc := 307) (e := (307, 90, 11, 31, 0, 307, 1206, 310)) rfl) rfl (hT 102 rfl) rfl rfl ?_
            refine e_0 (f_155 (pc := 310) (e := (310, 0, 1, 0, 0, 0, 0, 311)) rfl) (v := 1) rfl ?_
            refine e_10 (f_155 (pc := 311) (e := (311, 10, 3, 0, 0, 0, 0, 312)) rfl) rfl ?_
            refine e_38 (f_155 (pc := 312) (e := (312, 38, 0, 0, 0, 0, 0, 313)) rfl) ?_
            refine e_36 (f_155 (pc := 313) (e := (313, 36, 0, 0, 0, 0, 0, 314)) rfl) ?_
            refine e_91 zA (f_155 (pc := 314) (e := (314, 91, 11, 31, 0, 307, 1206, 317)) rfl) rfl (hT 102 rfl) rfl rfl trivial ?_
            replace F := F _ rfl
            refine e_12 (f_155 (pc := 317) (e := (317, 12, 0, 0, 0, 0, 0, 318)) rfl) rfl ?_
            refine e_10 (f_155 (pc := 318) (e := (318, 10, 1, 0, 0, 0, 0, 319)) rfl) rfl ?_
            refine e_10 (f_155 (pc := 319) (e := (319, 10, 2, 0, 0, 0, 0, 320)) rfl) rfl ?_
            refine e_130 (f_155 (pc := 320) (e := (320, 130, 243, 0, 11, 320, 1214, 323)) rfl) zA (as := [yr (some 102), yi x1, yi x2]) (rest := []) rfl rfl rfl rfl (Nat.le_of_ble_eq_true rfl) (Nat.le_of_ble_eq_true rfl) ⟨_, _, _, rfl, (hT 102 rfl)⟩ (mc := 0) (ms := 0) (Nat.zero_le _) (Nat.zero_le _) ?_
            refine e_K ?_ F
            rintro r h' ⟨I35, rfl, rfl, F⟩
            exact e_122 (f_155 (pc := 323) (e := (323, 122, 0, 0, 0, 0, 0, 324)) rfl) F
  · replace F := F.2 c1
    refine e_12 (f_155 (pc := 132) (e := (132, 12, 0, 0, 0, 0, 0, 133)) rfl) rfl ?_
    refine e_90r zA (f_155 (pc := 133) (e := (133, 90, 11, 6, 3, 33, 1159, 136)) rfl) rfl (hT 102 rfl) rfl rfl (hR 102 6 rfl) ?_
    refine e_2 (f_155 (pc := 136) (e := (136, 2, 470, 0, 0, 0, 0, 139)) rfl) (v := 470) rfl ?_
    refine e_11 (f_155 (pc := 139) (e := (139, 11, 4, 0, 0, 0, 0, 141)) rfl) rfl ?_
    refine e_30 (f_155 (pc := 141) (e := (141, 30, 0, 0, 0, 0, 0, 142)) rfl) ?_
    obtain ⟨b36, b37, F⟩ := F
    refine e_110 (f_155 (pc := 142) (e := (142, 110, 0, 0, 0, 0, 0, 143)) rfl) rfl (hT 104 rfl) b36 b37 ?_
    refine e_10 (f_155 (pc := 143) (e := (143, 10, 2, 0, 0, 0, 0, 144)) rfl) rfl ?_
    refine e_71 (f_155 (pc := 144) (e := (144, 71, 170, 0, 0, 0, 0, 147)) rfl) (fun c38 => ?_) (fun c38 => ?_)
    · replace F := F.1 c38
      refine e_lo [0, 1, 2, 3, 4] rfl ?_
      exact F
    · replace F := F.2 c38
      refine e_10 (f_155 (pc := 147) (e := (147, 10, 3, 0, 0, 0, 0, 148)) rfl) rfl ?_
      refine e_62 (f_155 (pc := 148) (e := (148, 62, 167, 0, 0, 0, 0, 151)) rfl) (fun c39 => ?_) (fun c39 => ?_)
      · replace F := F.1 c39
        refine e_lo [0, 1, 2, 4] rfl ?_
        exact F
      · replace F := F.2 c39
        refine e_12 (f_155 (pc := 151) (e := (151, 12, 0, 0, 0, 0, 0, 152)) rfl) rfl ?_
        refine e_90r zA (f_155 (pc := 152) (e := (152, 90, 11, 27, 3, 59, 1167, 155)) rfl) rfl (hT 102 rfl) rfl rfl (hR 102 27 rfl) ?_
        refine e_11 (f_155 (pc := 155) (e := (155, 11, 4, 0, 0, 0, 0, 157)) rfl) rfl ?_
        obtain ⟨b40, b41, F⟩ := F
        refine e_110 (f_155 (pc := 157) (e := (157, 110, 0, 0, 0, 0, 0, 158)) rfl) rfl (hT 112 rfl) b40 b41 ?_
        refine e_12 (f_155 (pc := 158) (e := (158, 12, 0, 0, 0, 0, 0, 159)) rfl) rfl ?_
        refine e_90r zA (f_155 (pc := 159) (e := (159, 90, 11, 27, 3, 59, 1167, 162)) rfl) rfl (hT 102 rfl) rfl rfl (hR 102 27 rfl) ?_
        refine e_10 (f_155 (pc := 162) (e := (162, 10, 3, 0, 0, 0, 0, 163)) rfl) rfl ?_
        obtain ⟨b42, b43, F⟩ := F
        refine e_110 (f_155 (pc := 163) (e := (163, 110, 0, 0, 0, 0, 0, 164)) rfl) rfl (hT 112 rfl) b42 b43 ?_
        refine e_75 (f_155 (pc := 164) (e := (164, 75, 170, 0, 0, 0, 0, 167)) rfl) (fun c44 => ?_) (fun c44 => ?_)
        · replace F := F.1 c44
          refine e_lo [0, 1, 2, 3, 4] rfl ?_
          exact F
        · replace F := F.2 c44
          refine e_lo [0, 1, 2, 4] rfl ?_
          exact F
set_option maxRecDepth 20000 in
theorem B_155_167 (hT : yLT T) (hR : yLR R) {x1 x2 x4 : Int} (F : yW l zSS D cy zFk z d 155 bc bs K 0 0 170 [(0, yr (some 102)), (1, yi x1), (2, yi x2), (3, yi x4), (4, yi x4)] [] (N, T, R, I)) :
    yW l zSS D cy zFk z d 155 bc bs K 0 0 167 [(0, yr (some 102)), (1, yi x1), (2, yi x2), (4, yi x4)] [] (N, T, R, I) := by
  refine e_11 (f_155 (pc := 167) (e := (167, 11, 4, 0, 0, 0, 0, 169)) rfl) rfl ?_
  refine e_20 (f_155 (pc := 169) (e := (169, 20, 3, 0, 0, 0, 0, 170)) rfl) ?_
  refine e_lo [0, 1, 2, 3, 4] rfl ?_
  exact F
set_option maxRecDepth 20000 in
theorem B_155_170 (hT : yLT T) (hR : yLR R) {x1 x2 x3 x4 : Int} (F : yW l zSS D cy zFk z d 155 bc bs K 0 0 121 [(0, yr (some 102)), (1, yi x1), (2, yi x2), (3, yi x3), (4, yi (yadd x4 1))] [] (N, T, R, I)) :
    yW l zSS D cy zFk z d 155 bc bs K 0 0 170 [(0, yr (some 102)), (1, yi x1), (2, yi x2), (3, yi x3), (4, yi x4)] [] (N, T, R, I) := by
  refine e_26 (f_155 (pc := 170) (e := (170, 26, 4, 1, 0, 0, 0, 173)) rfl) (w := 1) rfl rfl ?_
  refine e_80 (f_155 (pc := 173) (e := (173, 80, 121, 0, 0, 0, 0, 176)) rfl) ?_
  refine e_lo [0, 1, 2, 3, 4] rfl ?_
  exact F
set_option maxRecDepth 20000 in
theorem B_155_324 (hT : yLT T) (hR : yLR R) {x1 x2 x3 : Int} (F : 0 ≤ (yadd 502 x1) ∧ (yadd 502 x1) < 1188 ∧ (0 ≤ (yadd 502 x1) ∧ (yadd 502 x1) < 1188 ∧ (∀ I5, I5 = yU I 104 ((yadd 502 x1).toNat) (ynar 1 (yadd (I 104 (yadd 502 x1).toNat) 1)) → (yW l zSS D cy zFk z d 241 0 0 (fun r h' => ∃ r7 I6, r = some (yi r7) ∧ h' = (N, T, R, I6) ∧ (0 ≤ (yadd 470 x1) ∧ (yadd 470 x1) < 1188 ∧ ((r7 ≠ (I6 104 (yadd 470 x1).toNat) → yW l zSS D cy zFk z (d + 1) 155 bc bs K 0 0 364 [] [] (N, T, R, I6)) ∧ (¬ (r7 ≠ (I6 104 (yadd 470 x1).toNat)) → yW l zSS D cy zFk z d 213 0 0 (fun r h' => ∃ I11, r = none ∧ h' = (N, T, R, I11) ∧ (yW l zSS D cy zFk z (d + 1) 155 bc bs K 0 0 364 [] [] (N, T, R, I11))) 0 0 0 [(0, yr (some 102)), (1, yi x1), (2, yi x3), (3, yi x2), (4, yi 0)] [] (N, T, R, I6))))) 0 0 0 [(0, yr (some 102)), (1, yi x3)] [] (N, T, R, I5))))) :
    yW l zSS D cy zFk z (d + 1) 155 bc bs K 0 0 324 [(0, yr (some 102)), (1, yi x1), (2, yi x2), (3, yi x3)] [] (N, T, R, I) := by
  refine e_12 (f_155 (pc := 324) (e := (324, 12, 0, 0, 0, 0, 0, 325)) rfl) rfl ?_
  refine e_90r zA (f_155 (pc := 325) (e := (325, 90, 11, 6, 3, 33, 1159, 328)) rfl) rfl (hT 102 rfl) rfl rfl (hR 102 6 rfl) ?_
  refine e_2 (f_155 (pc := 328) (e := (328, 2, 502, 0, 0, 0, 0, 331)) rfl) (v := 502) rfl ?_
  refine e_10 (f_155 (pc := 331) (e := (331, 10, 1, 0, 0, 0, 0, 332)) rfl) rfl ?_
  refine e_30 (f_155 (pc := 332) (e := (332, 30, 0, 0, 0, 0, 0, 333)) rfl) ?_
  refine e_51 (f_155 (pc := 333) (e := (333, 51, 0, 0, 0, 0, 0, 334)) rfl) rfl rfl ?_
  obtain ⟨b1, b2, F⟩ := F
  refine e_110 (f_155 (pc := 334) (e := (334, 110, 0, 0, 0, 0, 0, 335)) rfl) rfl (hT 104 rfl) b1 b2 ?_
  refine e_0 (f_155 (pc := 335) (e := (335, 0, 1, 0, 0, 0, 0, 336)) rfl) (v := 1) rfl ?_
  refine e_30 (f_155 (pc := 336) (e := (336, 30, 0, 0, 0, 0, 0, 337)) rfl) ?_
  obtain ⟨b3, b4, F⟩ := F
  refine e_111 (f_155 (pc := 337) (e := (337, 111, 0, 0, 0, 0, 0, 338)) rfl) rfl (hT 104 rfl) b3 b4 ?_
  replace F := F _ rfl
  refine e_12 (f_155 (pc := 338) (e := (338, 12, 0, 0, 0, 0, 0, 339)) rfl) rfl ?_
  refine e_10 (f_155 (pc := 339) (e := (339, 10, 3, 0, 0, 0, 0, 340)) rfl) rfl ?_
  refine e_130 (f_155 (pc := 340) (e := (340, 130, 241, 0, 11, 292, 1212, 343)) rfl) zA (as := [yr (some 102), yi x3]) (rest := []) rfl rfl rfl rfl (Nat.le_of_ble_eq_true rfl) (Nat.le_of_ble_eq_true rfl) ⟨_, _, _, rfl, (hT 102 rfl)⟩ (mc := 0) (ms := 0) (Nat.zero_le _) (Nat.zero_le _) ?_
  refine e_K ?_ F
  rintro r h' ⟨r7, I6, rfl, rfl, F⟩
  refine e_12 (f_155 (pc := 343) (e := (343, 12, 0, 0, 0, 0, 0, 344)) rfl) rfl ?_
  refine e_90r zA (f_155 (pc := 344) (e := (344, 90, 11, 6, 3, 33, 1159, 347)) rfl) rfl (hT 102 rfl) rfl rfl (hR 102 6 rfl) ?_
  refine e_2 (f_155 (pc := 347) (e := (347, 2, 470, 0, 0, 0, 0, 350)) rfl) (v := 470) rfl ?_
  refine e_10 (f_155 (pc := 350) (e := (350, 10, 1, 0, 0, 0, 0, 351)) rfl) rfl ?_
  refine e_30 (f_155 (pc := 351) (e := (351, 30, 0, 0, 0, 0, 0, 352)) rfl) ?_
  obtain ⟨b8, b9, F⟩ := F
  refine e_110 (f_155 (pc := 352) (e := (352, 110, 0, 0, 0, 0, 0, 353)) rfl) rfl (hT 104 rfl) b8 b9 ?_
  refine e_71 (f_155 (pc := 353) (e := (353, 71, 364, 0, 0, 0, 0, 356)) rfl) (fun c10 => ?_) (fun c10 => ?_)
  · replace F := F.1 c10
    refine e_lo [] rfl ?_
    exact F
  · replace F := F.2 c10
    refine e_12 (f_155 (pc := 356) (e := (356, 12, 0, 0, 0, 0, 0, 357)) rfl) rfl ?_
    refine e_10 (f_155 (pc := 357) (e := (357, 10, 1, 0, 0, 0, 0, 358)) rfl) rfl ?_
    refine e_10 (f_155 (pc := 358) (e := (358, 10, 3, 0, 0, 0, 0, 359)) rfl) rfl ?_
    refine e_10 (f_155 (pc := 359) (e := (359, 10, 2, 0, 0, 0, 0, 360)) rfl) rfl ?_
    refine e_0 (f_155 (pc := 360) (e := (360, 0, 0, 0, 0, 0, 0, 361)) rfl) (v := 0) rfl ?_
    refine e_130 (f_155 (pc := 361) (e := (361, 130, 213, 0, 11, 323, 1215, 364)) rfl) zA (as := [yr (some 102), yi x1, yi x3, yi x2, yi 0]) (rest := []) rfl rfl rfl rfl (Nat.le_of_ble_eq_true rfl) (Nat.le_of_ble_eq_true rfl) ⟨_, _, _, rfl, (hT 102 rfl)⟩ (mc := 0) (ms := 0) (Nat.zero_le _) (Nat.zero_le _) ?_
    refine e_K ?_ F
    rintro r h' ⟨I11, rfl, rfl, F⟩
    refine e_lo [] rfl ?_
    exact F
set_option maxRecDepth 20000 in
theorem B_155_364 (hT : yLT T) (hR : yLR R) (F : K none (N, T, R, I)) :
    yW l zSS D cy zFk z d 155 bc bs K 0 0 364 [] [] (N, T, R, I) := by
  exact e_122 (f_155 (pc := 364) (e := (364, 122, 0, 0, 0, 0, 0, 0)) rfl) F

/-! alleys()I -/
set_option maxRecDepth 20000 in
theorem B_156_0 (hT : yLT T) (hR : yLR R) (F : ∀ I1, I1 = yU I 102 0 0 → (yW l zSS D cy zFk z d 244 0 0 (fun r h' => ∃ I2, r = none ∧ h' = (N, T, R, I2) ∧ (∀ I3, I3 = yU I2 102 15 0 → (∀ I4, I4 = yU I3 102 19 0 → (∀ I5, I5 = yU I4 102 20 0 → (∀ I6, I6 = yU I5 102 21 0 → (∀ I7, I7 = yU I6 102 22 0 → (∀ I8, I8 = yU I7 102 23 0 → (yW l zSS D cy zFk z (d + 1) 156 bc bs K 0 0 44 [(0, yr (some 102)), (1, yi 0)] [] (N, T, R, I8))))))))) 0 0 0 [(0, yr (some 102)), (1, yi 900)] [] (N, T, R, I1))) :
    yW l zSS D cy zFk z (d + 1) 156 bc bs K 0 0 0 [(0, yr (some 102))] [] (N, T, R, I) := by
  refine e_12 (f_156 (pc := 0) (e := (0, 12, 0, 0, 0, 0, 0, 1)) rfl) rfl ?_
  refine e_0 (f_156 (pc := 1) (e := (1, 0, 0, 0, 0, 0, 0, 2)) rfl) (v := 0) rfl ?_
  refine e_91 zA (f_156 (pc := 2) (e := (2, 91, 11, 0, 0, 1, 1216, 5)) rfl) rfl (hT 102 rfl) rfl rfl trivial ?_
  replace F := F _ rfl
  refine e_12 (f_156 (pc := 5) (e := (5, 12, 0, 0, 0, 0, 0, 6)) rfl) rfl ?_
  refine e_2 (f_156 (pc := 6) (e := (6, 2, 900, 0, 0, 0, 0, 9)) rfl) (v := 900) rfl ?_
  refine e_130 (f_156 (pc := 9) (e := (9, 130, 244, 0, 11, 244, 1217, 12)) rfl) zA (as := [yr (some 102), yi 900]) (rest := []) rfl rfl rfl rfl (Nat.le_of_ble_eq_true rfl) (Nat.le_of_ble_eq_true rfl) ⟨_, _, _, rfl, (hT 102 rfl)⟩ (mc := 0) (ms := 0) (Nat.zero_le _) (Nat.zero_le _) ?_
  refine e_K ?_ F
  rintro r h' ⟨I2, rfl, rfl, F⟩
  refine e_12 (f_156 (pc := 12) (e := (12, 12, 0, 0, 0, 0, 0, 13)) rfl) rfl ?_
  refine e_0 (f_156 (pc := 13) (e := (13, 0, 0, 0, 0, 0, 0, 14)) rfl) (v := 0) rfl ?_
  refine e_91 zA (f_156 (pc := 14) (e := (14, 91, 11, 15, 0, 178, 1218, 17)) rfl) rfl (hT 102 rfl) rfl rfl trivial ?_
  replace F := F _ rfl
  refine e_12 (f_156 (pc := 17) (e := (17, 12, 0, 0, 0, 0, 0, 18)) rfl) rfl ?_
  refine e_0 (f_156 (pc := 18) (e := (18, 0, 0, 0, 0, 0, 0, 19)) rfl) (v := 0) rfl ?_
  refine e_91 zA (f_156 (pc := 19) (e := (19, 91, 11, 19, 0, 247, 1219, 22)) rfl) rfl (hT 102 rfl) rfl rfl trivial ?_
  replace F := F _ rfl
  refine e_12 (f_156 (pc := 22) (e := (22, 12, 0, 0, 0, 0, 0, 23)) rfl) rfl ?_
  refine e_0 (f_156 (pc := 23) (e := (23, 0, 0, 0, 0, 0, 0, 24)) rfl) (v := 0) rfl ?_
  refine e_91 zA (f_156 (pc := 24) (e := (24, 91, 11, 20, 0, 219, 1220, 27)) rfl) rfl (hT 102 rfl) rfl rfl trivial ?_
  replace F := F _ rfl
  refine e_12 (f_156 (pc := 27) (e := (27, 12, 0, 0, 0, 0, 0, 28)) rfl) rfl ?_
  refine e_0 (f_156 (pc := 28) (e := (28, 0, 0, 0, 0, 0, 0, 29)) rfl) (v := 0) rfl ?_
  refine e_91 zA (f_156 (pc := 29) (e := (29, 91, 11, 21, 0, 235, 1221, 32)) rfl) rfl (hT 102 rfl) rfl rfl trivial ?_
  replace F := F _ rfl
  refine e_12 (f_156 (pc := 32) (e := (32, 12, 0, 0, 0, 0, 0, 33)) rfl) rfl ?_
  refine e_0 (f_156 (pc := 33) (e := (33, 0, 0, 0, 0, 0, 0, 34)) rfl) (v := 0) rfl ?_
  refine e_91 zA (f_156 (pc := 34) (e := (34, 91, 11, 22, 2, 212, 1222, 37)) rfl) rfl (hT 102 rfl) rfl rfl (.inl rfl) ?_
  replace F := F _ rfl
  refine e_12 (f_156 (pc := 37) (e := (37, 12, 0, 0, 0, 0, 0, 38)) rfl) rfl ?_
  refine e_0 (f_156 (pc := 38) (e := (38, 0, 0, 0, 0, 0, 0, 39)) rfl) (v := 0) rfl ?_
  refine e_91 zA (f_156 (pc := 39) (e := (39, 91, 11, 23, 2, 241, 1223, 42)) rfl) rfl (hT 102 rfl) rfl rfl (.inl rfl) ?_
  replace F := F _ rfl
  refine e_0 (f_156 (pc := 42) (e := (42, 0, 0, 0, 0, 0, 0, 43)) rfl) (v := 0) rfl ?_
  refine e_20 (f_156 (pc := 43) (e := (43, 20, 1, 0, 0, 0, 0, 44)) rfl) ?_
  refine e_lo [0, 1] rfl ?_
  exact F
set_option maxRecDepth 20000 in
theorem B_156_44 (hT : yLT T) (hR : yLR R) {x1 : Int} (F : (458 ≤ x1 → yW l zSS D cy zFk z d 182 0 0 (fun r h' => ∃ I2, r = none ∧ h' = (N, T, R, I2) ∧ (yW l zSS D cy zFk z (d + 1) 156 bc bs K 0 0 68 [(0, yr (some 102))] [] (N, T, R, I2))) 0 0 0 [(0, yr (some 102))] [] (N, T, R, I)) ∧ (¬ (458 ≤ x1) → 0 ≤ x1 ∧ x1 < 458 ∧ (∀ I5, I5 = yU I 105 x1.toNat (ynar 1 0) → (yW l zSS D cy zFk z (d + 1) 156 bc bs K 0 0 44 [(0, yr (some 102)), (1, yi (yadd x1 1))] [] (N, T, R, I5))))) :
    yW l zSS D cy zFk z (d + 1) 156 bc bs K 0 0 44 [(0, yr (some 102)), (1, yi x1)] [] (N, T, R, I) := by
  refine e_10 (f_156 (pc := 44) (e := (44, 10, 1, 0, 0, 0, 0, 45)) rfl) rfl ?_
  refine e_2 (f_156 (pc := 45) (e := (45, 2, 458, 0, 0, 0, 0, 48)) rfl) (v := 458) rfl ?_
  refine e_73 (f_156 (pc := 48) (e := (48, 73, 64, 0, 0, 0, 0, 51)) rfl) (fun c1 => ?_) (fun c1 => ?_)
  · replace F := F.1 c1
    refine e_12 (f_156 (pc := 64) (e := (64, 12, 0, 0, 0, 0, 0, 65)) rfl) rfl ?_
    refine e_130 (f_156 (pc := 65) (e := (65, 130, 182, 0, 11, 190, 1224, 68)) rfl) zA (as := [yr (some 102)]) (rest := []) rfl rfl rfl rfl (Nat.le_of_ble_eq_true rfl) (Nat.le_of_ble_eq_true rfl) ⟨_, _, _, rfl, (hT 102 rfl)⟩ (mc := 0) (ms := 0) (Nat.zero_le _) (Nat.zero_le _) ?_
    refine e_K ?_ F
    rintro r h' ⟨I2, rfl, rfl, F⟩
    refine e_lo [0] rfl ?_
    exact F
  · replace F := F.2 c1
    refine e_12 (f_156 (pc := 51) (e := (51, 12, 0, 0, 0, 0, 0, 52)) rfl) rfl ?_
    refine e_90r zA (f_156 (pc := 52) (e := (52, 90, 11, 7, 3, 37, 1160, 55)) rfl) rfl (hT 102 rfl) rfl rfl (hR 102 7 rfl) ?_
    refine e_10 (f_156 (pc := 55) (e := (55, 10, 1, 0, 0, 0, 0, 56)) rfl) rfl ?_
    refine e_0 (f_156 (pc := 56) (e := (56, 0, 0, 0, 0, 0, 0, 57)) rfl) (v := 0) rfl ?_
    obtain ⟨b3, b4, F⟩ := F
    refine e_111 (f_156 (pc := 57) (e := (57, 111, 0, 0, 0, 0, 0, 58)) rfl) rfl (hT 105 rfl) b3 b4 ?_
    replace F := F _ rfl
    refine e_26 (f_156 (pc := 58) (e := (58, 26, 1, 1, 0, 0, 0, 61)) rfl) (w := 1) rfl rfl ?_
    refine e_80 (f_156 (pc := 61) (e := (61, 80, 44, 0, 0, 0, 0, 64)) rfl) ?_
    refine e_lo [0, 1] rfl ?_
    exact F
set_option maxRecDepth 20000 in
theorem B_156_68 (hT : yLT T) (hR : yLR R) (F : ((I 102 11) = 0 → yW l zSS D cy zFk z (d + 1) 156 bc bs K 0 0 113 [(0, yr (some 102)), (1, yi 0)] [] (N, T, R, I)) ∧ (¬ ((I 102 11) = 0) → yW l zSS D cy zFk z d 211 0 0 (fun r h' => ∃ r3 I2, r = some (yi r3) ∧ h' = (N, T, R, I2) ∧ ((r3 = 0 → K (some (yi (ysub (-1) (I2 102 16)))) (N, T, R, I2)) ∧ (¬ (r3 = 0) → yW l zSS D cy zFk z d 236 0 0 (fun r h' => ∃ r6 I5, r = some (yi r6) ∧ h' = (N, T, R, I5) ∧ ((r6 ≠ 0 → ∀ I8, I8 = yU I5 102 19 (yadd (I5 102 19) 1) → (yW l zSS D cy zFk z (d + 1) 156 bc bs K 0 0 68 [(0, yr (some 102))] [] (N, T, R, I8))) ∧ (¬ (r6 ≠ 0) → K (some (yi (ysub (-1) (I5 102 16)))) (N, T, R, I5)))) 0 0 0 [(0, yr (some 102)), (1, yi 59)] [] (N, T, R, I2)))) 0 0 0 [(0, yr (some 102))] [] (N, T, R, I))) :
    yW l zSS D cy zFk z (d + 1) 156 bc bs K 0 0 68 [(0, yr (some 102))] [] (N, T, R, I) := by
  refine e_12 (f_156 (pc := 68) (e := (68, 12, 0, 0, 0, 0, 0, 69)) rfl) rfl ?_
  refine e_90 zA (f_156 (pc := 69) (e := (69, 90, 11, 11, 0, 161, 1225, 72)) rfl) rfl (hT 102 rfl) rfl rfl ?_
  refine e_60 (f_156 (pc := 72) (e := (72, 60, 111, 0, 0, 0, 0, 75)) rfl) (fun c1 => ?_) (fun c1 => ?_)
  · replace F := F.1 c1
    refine e_0 (f_156 (pc := 111) (e := (111, 0, 0, 0, 0, 0, 0, 112)) rfl) (v := 0) rfl ?_
    refine e_20 (f_156 (pc := 112) (e := (112, 20, 1, 0, 0, 0, 0, 113)) rfl) ?_
    refine e_lo [0, 1] rfl ?_
    exact F
  · replace F := F.2 c1
    refine e_12 (f_156 (pc := 75) (e := (75, 12, 0, 0, 0, 0, 0, 76)) rfl) rfl ?_
    refine e_130 (f_156 (pc := 76) (e := (76, 130, 211, 0, 11, 250, 1226, 79)) rfl) zA (as := [yr (some 102)]) (rest := []) rfl rfl rfl rfl (Nat.le_of_ble_eq_true rfl) (Nat.le_of_ble_eq_true rfl) ⟨_, _, _, rfl, (hT 102 rfl)⟩ (mc := 0) (ms := 0) (Nat.zero_le _) (Nat.zero_le _) ?_
    refine e_K ?_ F
    rintro r h' ⟨r3, I2, rfl, rfl, F⟩
    refine e_60 (f_156 (pc := 79) (e := (79, 60, 91, 0, 0, 0, 0, 82)) rfl) (fun c4 => ?_) (fun c4 => ?_)
    · replace F := F.1 c4
      refine e_0 (f_156 (pc := 91) (e := (91, 0, 4294967295, 0, 0, 0, 0, 92)) rfl) (v := (-1)) rfl ?_
      refine e_12 (f_156 (pc := 92) (e := (92, 12, 0, 0, 0, 0, 0, 93)) rfl) rfl ?_
      refine e_90 zA (f_156 (pc := 93) (e := (93, 90, 11, 16, 0, 181, 1228, 96)) rfl) rfl (hT 102 rfl) rfl rfl ?_
      refine e_31 (f_156 (pc := 96) (e := (96, 31, 0, 0, 0, 0, 0, 97)) rfl) ?_
      exact e_120 (f_156 (pc := 97) (e := (97, 120, 0, 0, 0, 0, 0, 98)) rfl) F
    · replace F := F.2 c4
      refine e_12 (f_156 (pc := 82) (e := (82, 12, 0, 0, 0, 0, 0, 83)) rfl) rfl ?_
      refine e_1 (f_156 (pc := 83) (e := (83, 1, 59, 0, 0, 0, 0, 85)) rfl) (v := 59) rfl ?_
      refine e_130 (f_156 (pc := 85) (e := (85, 130, 236, 0, 11, 253, 1227, 88)) rfl) zA (as := [yr (some 102), yi 59]) (rest := []) rfl rfl rfl rfl (Nat.le_of_ble_eq_true rfl) (Nat.le_of_ble_eq_true rfl) ⟨_, _, _, rfl, (hT 102 rfl)⟩ (mc := 0) (ms := 0) (Nat.zero_le _) (Nat.zero_le _) ?_
      refine e_K ?_ F
      rintro r h' ⟨r6, I5, rfl, rfl, F⟩
      refine e_61 (f_156 (pc := 88) (e := (88, 61, 98, 0, 0, 0, 0, 91)) rfl) (fun c7 => ?_) (fun c7 => ?_)
      · replace F := F.1 c7
        refine e_12 (f_156 (pc := 98) (e := (98, 12, 0, 0, 0, 0, 0, 99)) rfl) rfl ?_
        refine e_50 (f_156 (pc := 99) (e := (99, 50, 0, 0, 0, 0, 0, 100)) rfl) rfl ?_
        refine e_90 zA (f_156 (pc := 100) (e := (100, 90, 11, 19, 0, 247, 1219, 103)) rfl) rfl (hT 102 rfl) rfl rfl ?_
        refine e_0 (f_156 (pc := 103) (e := (103, 0, 1, 0, 0, 0, 0, 104)) rfl) (v := 1) rfl ?_
        refine e_30 (f_156 (pc := 104) (e := (104, 30, 0, 0, 0, 0, 0, 105)) rfl) ?_
        refine e_91 zA (f_156 (pc := 105) (e := (105, 91, 11, 19, 0, 247, 1219, 108)) rfl) rfl (hT 102 rfl) rfl rfl trivial ?_
        replace F := F _ rfl
        refine e_80 (f_156 (pc := 108) (e := (108, 80, 68, 0, 0, 0, 0, 111)) rfl) ?_
        refine e_lo [0] rfl ?_
        exact F
      · replace F := F.2 c7
        refine e_0 (f_156 (pc := 91) (e := (91, 0, 4294967295, 0, 0, 0, 0, 92)) rfl) (v := (-1)) rfl ?_
        refine e_12 (f_156 (pc := 92) (e := (92, 12, 0, 0, 0, 0, 0, 93)) rfl) rfl ?_
        refine e_90 zA (f_156 (pc := 93) (e := (93, 90, 11, 16, 0, 181, 1228, 96)) rfl) rfl (hT 102 rfl) rfl rfl ?_
        refine e_31 (f_156 (pc := 96) (e := (96, 31, 0, 0, 0, 0, 0, 97)) rfl) ?_
        exact e_120 (f_156 (pc := 97) (e := (97, 120, 0, 0, 0, 0, 0, 98)) rfl) F
set_option maxRecDepth 20000 in
theorem B_156_113 (hT : yLT T) (hR : yLR R) {x1 : Int} (F : (1188 ≤ x1 → yW l zSS D cy zFk z d 156 bc bs K 0 0 151 [(0, yr (some 102)), (1, yi 0)] [] (N, T, R, I)) ∧ (¬ (1188 ≤ x1) → (458 ≤ x1 → 0 ≤ x1 ∧ x1 < 1188 ∧ (∀ I5, I5 = yU I 104 x1.toNat (ynar 1 0) → (yW l zSS D cy zFk z d 156 bc bs K 0 0 113 [(0, yr (some 102)), (1, yi (yadd x1 1))] [] (N, T, R, I5)))) ∧ (¬ (458 ≤ x1) → 0 ≤ x1 ∧ x1 < 458 ∧ (0 ≤ x1 ∧ x1 < 1188 ∧ (∀ I10, I10 = yU I 104 x1.toNat (ynar 1 (I 105 x1.toNat)) → (yW l zSS D cy zFk z d 156 bc bs K 0 0 113 [(0, yr (some 102)), (1, yi (yadd x1 1))] [] (N, T, R, I10))))))) :
    yW l zSS D cy zFk z d 156 bc bs K 0 0 113 [(0, yr (some 102)), (1, yi x1)] [] (N, T, R, I) := by
  refine e_10 (f_156 (pc := 113) (e := (113, 10, 1, 0, 0, 0, 0, 114)) rfl) rfl ?_
  refine e_2 (f_156 (pc := 114) (e := (114, 2, 1188, 0, 0, 0, 0, 117)) rfl) (v := 1188) rfl ?_
  refine e_73 (f_156 (pc := 117) (e := (117, 73, 149, 0, 0, 0, 0, 120)) rfl) (fun c1 => ?_) (fun c1 => ?_)
  · replace F := F.1 c1
    refine e_0 (f_156 (pc := 149) (e := (149, 0, 0, 0, 0, 0, 0, 150)) rfl) (v := 0) rfl ?_
    refine e_20 (f_156 (pc := 150) (e := (150, 20, 1, 0, 0, 0, 0, 151)) rfl) ?_
    refine e_lo [0, 1] rfl ?_
    exact F
  · replace F := F.2 c1
    refine e_12 (f_156 (pc := 120) (e := (120, 12, 0, 0, 0, 0, 0, 121)) rfl) rfl ?_
    refine e_90r zA (f_156 (pc := 121) (e := (121, 90, 11, 6, 3, 33, 1159, 124)) rfl) rfl (hT 102 rfl) rfl rfl (hR 102 6 rfl) ?_
    refine e_10 (f_156 (pc := 124) (e := (124, 10, 1, 0, 0, 0, 0, 125)) rfl) rfl ?_
    refine e_10 (f_156 (pc := 125) (e := (125, 10, 1, 0, 0, 0, 0, 126)) rfl) rfl ?_
    refine e_2 (f_156 (pc := 126) (e := (126, 2, 458, 0, 0, 0, 0, 129)) rfl) (v := 458) rfl ?_
    refine e_73 (f_156 (pc := 129) (e := (129, 73, 141, 0, 0, 0, 0, 132)) rfl) (fun c2 => ?_) (fun c2 => ?_)
    · replace F := F.1 c2
      refine e_0 (f_156 (pc := 141) (e := (141, 0, 0, 0, 0, 0, 0, 142)) rfl) (v := 0) rfl ?_
      obtain ⟨b3, b4, F⟩ := F
      refine e_111 (f_156 (pc := 142) (e := (142, 111, 0, 0, 0, 0, 0, 143)) rfl) rfl (hT 104 rfl) b3 b4 ?_
      replace F := F _ rfl
      refine e_26 (f_156 (pc := 143) (e := (143, 26, 1, 1, 0, 0, 0, 146)) rfl) (w := 1) rfl rfl ?_
      refine e_80 (f_156 (pc := 146) (e := (146, 80, 113, 0, 0, 0, 0, 149)) rfl) ?_
      refine e_lo [0, 1] rfl ?_
      exact F
    · replace F := F.2 c2
      refine e_12 (f_156 (pc := 132) (e := (132, 12, 0, 0, 0, 0, 0, 133)) rfl) rfl ?_
      refine e_90r zA (f_156 (pc := 133) (e := (133, 90, 11, 7, 3, 37, 1160, 136)) rfl) rfl (hT 102 rfl) rfl rfl (hR 102 7 rfl) ?_
      refine e_10 (f_156 (pc := 136) (e := (136, 10, 1, 0, 0, 0, 0, 137)) rfl) rfl ?_
      obtain ⟨b6, b7, F⟩ := F
      refine e_110 (f_156 (pc := 137) (e := (137, 110, 0, 0, 0, 0, 0, 138)) rfl) rfl (hT 105 rfl) b6 b7 ?_
      refine e_80 (f_156 (pc := 138) (e := (138, 80, 142, 0, 0, 0, 0, 141)) rfl) ?_
      obtain ⟨b8, b9, F⟩ := F
      refine e_111 (f_156 (pc := 142) (e := (142, 111, 0, 0, 0, 0, 0, 143)) rfl) rfl (hT 104 rfl) b8 b9 ?_
      replace F := F _ rfl
      refine e_26 (f_156 (pc := 143) (e := (143, 26, 1, 1, 0, 0, 0, 146)) rfl) (w := 1) rfl rfl ?_
      refine e_80 (f_156 (pc := 146) (e := (146, 80, 113, 0, 0, 0, 0, 149)) rfl) ?_
      refine e_lo [0, 1] rfl ?_
      exact F
set_option maxRecDepth 20000 in
theorem B_156_151 (hT : yLT T) (hR : yLR R) {x1 : Int} (F : (8 ≤ x1 → yW l zSS D cy zFk z d 156 bc bs K 0 0 180 [(0, yr (some 102)), (1, yi 0)] [] (N, T, R, I)) ∧ (¬ (8 ≤ x1) → 0 ≤ (yadd 8 x1) ∧ (yadd 8 x1) < 16 ∧ (0 ≤ x1 ∧ x1 < 16 ∧ (∀ I6, I6 = yU I 107 x1.toNat (I 107 (yadd 8 x1).toNat) → (yW l zSS D cy zFk z d 156 bc bs K 0 0 151 [(0, yr (some 102)), (1, yi (yadd x1 1))] [] (N, T, R, I6)))))) :
    yW l zSS D cy zFk z d 156 bc bs K 0 0 151 [(0, yr (some 102)), (1, yi x1)] [] (N, T, R, I) := by
  refine e_10 (f_156 (pc := 151) (e := (151, 10, 1, 0, 0, 0, 0, 152)) rfl) rfl ?_
  refine e_1 (f_156 (pc := 152) (e := (152, 1, 8, 0, 0, 0, 0, 154)) rfl) (v := 8) rfl ?_
  refine e_73 (f_156 (pc := 154) (e := (154, 73, 178, 0, 0, 0, 0, 157)) rfl) (fun c1 => ?_) (fun c1 => ?_)
  · replace F := F.1 c1
    refine e_0 (f_156 (pc := 178) (e := (178, 0, 0, 0, 0, 0, 0, 179)) rfl) (v := 0) rfl ?_
    refine e_20 (f_156 (pc := 179) (e := (179, 20, 1, 0, 0, 0, 0, 180)) rfl) ?_
    refine e_lo [0, 1] rfl ?_
    exact F
  · replace F := F.2 c1
    refine e_12 (f_156 (pc := 157) (e := (157, 12, 0, 0, 0, 0, 0, 158)) rfl) rfl ?_
    refine e_90r zA (f_156 (pc := 158) (e := (158, 90, 11, 9, 3, 43, 1162, 161)) rfl) rfl (hT 102 rfl) rfl rfl (hR 102 9 rfl) ?_
    refine e_10 (f_156 (pc := 161) (e := (161, 10, 1, 0, 0, 0, 0, 162)) rfl) rfl ?_
    refine e_12 (f_156 (pc := 162) (e := (162, 12, 0, 0, 0, 0, 0, 163)) rfl) rfl ?_
    refine e_90r zA (f_156 (pc := 163) (e := (163, 90, 11, 9, 3, 43, 1162, 166)) rfl) rfl (hT 102 rfl) rfl rfl (hR 102 9 rfl) ?_
    refine e_1 (f_156 (pc := 166) (e := (166, 1, 8, 0, 0, 0, 0, 168)) rfl) (v := 8) rfl ?_
    refine e_10 (f_156 (pc := 168) (e := (168, 10, 1, 0, 0, 0, 0, 169)) rfl) rfl ?_
    refine e_30 (f_156 (pc := 169) (e := (169, 30, 0, 0, 0, 0, 0, 170)) rfl) ?_
    obtain ⟨b2, b3, F⟩ := F
    refine e_114 (f_156 (pc := 170) (e := (170, 114, 0, 0, 0, 0, 0, 171)) rfl) rfl (hT 107 rfl) b2 b3 ?_
    obtain ⟨b4, b5, F⟩ := F
    refine e_115 (f_156 (pc := 171) (e := (171, 115, 0, 0, 0, 0, 0, 172)) rfl) rfl (hT 107 rfl) b4 b5 ?_
    replace F := F _ rfl
    refine e_26 (f_156 (pc := 172) (e := (172, 26, 1, 1, 0, 0, 0, 175)) rfl) (w := 1) rfl rfl ?_
    refine e_80 (f_156 (pc := 175) (e := (175, 80, 151, 0, 0, 0, 0, 178)) rfl) ?_
    refine e_lo [0, 1] rfl ?_
    exact F
set_option maxRecDepth 20000 in
theorem B_156_180 (hT : yLT T) (hR : yLR R) {x1 : Int} (F : (100 ≤ x1 → yW l zSS D cy zFk z d 156 bc bs K 0 0 214 [(0, yr (some 102)), (1, yi 0)] [] (N, T, R, I)) ∧ (¬ (100 ≤ x1) → 0 ≤ (yadd 358 x1) ∧ (yadd 358 x1) < 1188 ∧ (0 ≤ (yadd 526 x1) ∧ (yadd 526 x1) < 1188 ∧ (∀ I6, I6 = yU I 104 ((yadd 526 x1).toNat) (ynar 1 (I 104 (yadd 358 x1).toNat)) → (yW l zSS D cy zFk z d 156 bc bs K 0 0 180 [(0, yr (some 102)), (1, yi (yadd x1 1))] [] (N, T, R, I6)))))) :
    yW l zSS D cy zFk z d 156 bc bs K 0 0 180 [(0, yr (some 102)), (1, yi x1)] [] (N, T, R, I) := by
  refine e_10 (f_156 (pc := 180) (e := (180, 10, 1, 0, 0, 0, 0, 181)) rfl) rfl ?_
  refine e_1 (f_156 (pc := 181) (e := (181, 1, 100, 0, 0, 0, 0, 183)) rfl) (v := 100) rfl ?_
  refine e_73 (f_156 (pc := 183) (e := (183, 73, 212, 0, 0, 0, 0, 186)) rfl) (fun c1 => ?_) (fun c1 => ?_)
  · replace F := F.1 c1
    refine e_0 (f_156 (pc := 212) (e := (212, 0, 0, 0, 0, 0, 0, 213)) rfl) (v := 0) rfl ?_
    refine e_20 (f_156 (pc := 213) (e := (213, 20, 1, 0, 0, 0, 0, 214)) rfl) ?_
    refine e_lo [0, 1] rfl ?_
    exact F
  · replace F := F.2 c1
    refine e_12 (f_156 (pc := 186) (e := (186, 12, 0, 0, 0, 0, 0, 187)) rfl) rfl ?_
    refine e_90r zA (f_156 (pc := 187) (e := (187, 90, 11, 6, 3, 33, 1159, 190)) rfl) rfl (hT 102 rfl) rfl rfl (hR 102 6 rfl) ?_
    refine e_2 (f_156 (pc := 190) (e := (190, 2, 526, 0, 0, 0, 0, 193)) rfl) (v := 526) rfl ?_
    refine e_10 (f_156 (pc := 193) (e := (193, 10, 1, 0, 0, 0, 0, 194)) rfl) rfl ?_
    refine e_30 (f_156 (pc := 194) (e := (194, 30, 0, 0, 0, 0, 0, 195)) rfl) ?_
    refine e_12 (f_156 (pc := 195) (e := (195, 12, 0, 0, 0, 0, 0, 196)) rfl) rfl ?_
    refine e_90r zA (f_156 (pc := 196) (e := (196, 90, 11, 6, 3, 33, 1159, 199)) rfl) rfl (hT 102 rfl) rfl rfl (hR 102 6 rfl) ?_
    refine e_2 (f_156 (pc := 199) (e := (199, 2, 358, 0, 0, 0, 0, 202)) rfl) (v := 358) rfl ?_
    refine e_10 (f_156 (pc := 202) (e := (202, 10, 1, 0, 0, 0, 0, 203)) rfl) rfl ?_
    refine e_30 (f_156 (pc := 203) (e := (203, 30, 0, 0, 0, 0, 0, 204)) rfl) ?_
    obtain ⟨b2, b3, F⟩ := F
    refine e_110 (f_156 (pc := 204) (e := (204, 110, 0, 0, 0, 0, 0, 205)) rfl) rfl (hT 104 rfl) b2 b3 ?_
    obtain ⟨b4, b5, F⟩ := F
    refine e_111 (f_156 (pc := 205) (e := (205, 111, 0, 0, 0, 0, 0, 206)) rfl) rfl (hT 104 rfl) b4 b5 ?_
    replace F := F _ rfl
    refine e_26 (f_156 (pc := 206) (e := (206, 26, 1, 1, 0, 0, 0, 209)) rfl) (w := 1) rfl rfl ?_
    refine e_80 (f_156 (pc := 209) (e := (209, 80, 180, 0, 0, 0, 0, 212)) rfl) ?_
    refine e_lo [0, 1] rfl ?_
    exact F
set_option maxRecDepth 20000 in
theorem B_156_214 (hT : yLT T) (hR : yLR R) {x1 : Int} (F : (8 ≤ x1 → yW l zSS D cy zFk z d 161 0 0 (fun r h' => ∃ I2, r = none ∧ h' = (N, T, R, I2) ∧ (∀ I3, I3 = yU I2 102 35 0 → (K (some (yi (I3 102 19))) (N, T, R, I3)))) 0 0 0 [(0, yr (some 102))] [] (N, T, R, I)) ∧ (¬ (8 ≤ x1) → 0 ≤ (yadd 350 x1) ∧ (yadd 350 x1) < 1188 ∧ (0 ≤ (yadd 462 x1) ∧ (yadd 462 x1) < 1188 ∧ (∀ I8, I8 = yU I 104 ((yadd 462 x1).toNat) (ynar 1 (I 104 (yadd 350 x1).toNat)) → (yW l zSS D cy zFk z (d + 1) 156 bc bs K 0 0 214 [(0, yr (some 102)), (1, yi (yadd x1 1))] [] (N, T, R, I8)))))) :
    yW l zSS D cy zFk z (d + 1) 156 bc bs K 0 0 214 [(0, yr (some 102)), (1, yi x1)] [] (N, T, R, I) := by
  refine e_10 (f_156 (pc := 214) (e := (214, 10, 1, 0, 0, 0, 0, 215)) rfl) rfl ?_
  refine e_1 (f_156 (pc := 215) (e := (215, 1, 8, 0, 0, 0, 0, 217)) rfl) (v := 8) rfl ?_
  refine e_73 (f_156 (pc := 217) (e := (217, 73, 246, 0, 0, 0, 0, 220)) rfl) (fun c1 => ?_) (fun c1 => ?_)
  · replace F := F.1 c1
    refine e_12 (f_156 (pc := 246) (e := (246, 12, 0, 0, 0, 0, 0, 247)) rfl) rfl ?_
    refine e_130 (f_156 (pc := 247) (e := (247, 130, 161, 0, 11, 256, 1229, 250)) rfl) zA (as := [yr (some 102)]) (rest := []) rfl rfl rfl rfl (Nat.le_of_ble_eq_true rfl) (Nat.le_of_ble_eq_true rfl) ⟨_, _, _, rfl, (hT 102 rfl)⟩ (mc := 0) (ms := 0) (Nat.zero_le _) (Nat.zero_le _) ?_
    refine e_K ?_ F
    rintro r h' ⟨I2, rfl, rfl, F⟩
    refine e_12 (f_156 (pc := 250) (e := (250, 12, 0, 0, 0, 0, 0, 251)) rfl) rfl ?_
    refine e_0 (f_156 (pc := 251) (e := (251, 0, 0, 0, 0, 0, 0, 252)) rfl) (v := 0) rfl ?_
    refine e_91 zA (f_156 (pc := 252) (e := (252, 91, 11, 35, 0, 259, 1230, 255)) rfl) rfl (hT 102 rfl) rfl rfl trivial ?_
    replace F := F _ rfl
    refine e_12 (f_156 (pc := 255) (e := (255, 12, 0, 0, 0, 0, 0, 256)) rfl) rfl ?_
    refine e_90 zA (f_156 (pc := 256) (e := (256, 90, 11, 19, 0, 247, 1219, 259)) rfl) rfl (hT 102 rfl) rfl rfl ?_
    exact e_120 (f_156 (pc := 259) (e := (259, 120, 0, 0, 0, 0, 0, 0)) rfl) F
  · replace F := F.2 c1
    refine e_12 (f_156 (pc := 220) (e := (220, 12, 0, 0, 0, 0, 0, 221)) rfl) rfl ?_
    refine e_90r zA (f_156 (pc := 221) (e := (221, 90, 11, 6, 3, 33, 1159, 224)) rfl) rfl (hT 102 rfl) rfl rfl (hR 102 6 rfl) ?_
    refine e_2 (f_156 (pc := 224) (e := (224, 2, 462, 0, 0, 0, 0, 227)) rfl) (v := 462) rfl ?_
    refine e_10 (f_156 (pc := 227) (e := (227, 10, 1, 0, 0, 0, 0, 228)) rfl) rfl ?_
    refine e_30 (f_156 (pc := 228) (e := (228, 30, 0, 0, 0, 0, 0, 229)) rfl) ?_
    refine e_12 (f_156 (pc := 229) (e := (229, 12, 0, 0, 0, 0, 0, 230)) rfl) rfl ?_
    refine e_90r zA (f_156 (pc := 230) (e := (230, 90, 11, 6, 3, 33, 1159, 233)) rfl) rfl (hT 102 rfl) rfl rfl (hR 102 6 rfl) ?_
    refine e_2 (f_156 (pc := 233) (e := (233, 2, 350, 0, 0, 0, 0, 236)) rfl) (v := 350) rfl ?_
    refine e_10 (f_156 (pc := 236) (e := (236, 10, 1, 0, 0, 0, 0, 237)) rfl) rfl ?_
    refine e_30 (f_156 (pc := 237) (e := (237, 30, 0, 0, 0, 0, 0, 238)) rfl) ?_
    obtain ⟨b4, b5, F⟩ := F
    refine e_110 (f_156 (pc := 238) (e := (238, 110, 0, 0, 0, 0, 0, 239)) rfl) rfl (hT 104 rfl) b4 b5 ?_
    obtain ⟨b6, b7, F⟩ := F
    refine e_111 (f_156 (pc := 239) (e := (239, 111, 0, 0, 0, 0, 0, 240)) rfl) rfl (hT 104 rfl) b6 b7 ?_
    replace F := F _ rfl
    refine e_26 (f_156 (pc := 240) (e := (240, 26, 1, 1, 0, 0, 0, 243)) rfl) (w := 1) rfl rfl ?_
    refine e_80 (f_156 (pc := 243) (e := (243, 80, 214, 0, 0, 0, 0, 246)) rfl) ?_
    refine e_lo [0, 1] rfl ?_
    exact F

/-! areAllThere()Z -/
set_option maxRecDepth 20000 in
theorem B_157_0 (hT : yLT T) (hR : yLR R) (F : yW l zSS D cy zFk z d 157 bc bs K 0 0 4 [(0, yr (some 102)), (1, yi 1), (2, yi 0)] [] (N, T, R, I)) :
    yW l zSS D cy zFk z d 157 bc bs K 0 0 0 [(0, yr (some 102))] [] (N, T, R, I) := by
  refine e_0 (f_157 (pc := 0) (e := (0, 0, 1, 0, 0, 0, 0, 1)) rfl) (v := 1) rfl ?_
  refine e_20 (f_157 (pc := 1) (e := (1, 20, 1, 0, 0, 0, 0, 2)) rfl) ?_
  refine e_0 (f_157 (pc := 2) (e := (2, 0, 0, 0, 0, 0, 0, 3)) rfl) (v := 0) rfl ?_
  refine e_20 (f_157 (pc := 3) (e := (3, 20, 2, 0, 0, 0, 0, 4)) rfl) ?_
  refine e_lo [0, 1, 2] rfl ?_
  exact F
set_option maxRecDepth 20000 in
theorem B_157_4 (hT : yLT T) (hR : yLR R) {x1 x2 : Int} (F : ((I 104 2) ≤ x2 → (x1 = 0 ∨ x1 = 1) ∧ K (some (yi x1)) (N, T, R, I)) ∧ (¬ ((I 104 2) ≤ x2) → (x1 = 0 → yW l zSS D cy zFk z (d + 1) 157 bc bs K 0 0 4 [(0, yr (some 102)), (1, yi 0), (2, yi (yadd x2 1))] [] (N, T, R, I)) ∧ (¬ (x1 = 0) → yW l zSS D cy zFk z d 198 0 0 (fun r h' => ∃ r4 I3, r = some (yi r4) ∧ h' = (N, T, R, I3) ∧ ((r4 ≠ 0 → yW l zSS D cy zFk z (d + 1) 157 bc bs K 0 0 4 [(0, yr (some 102)), (1, yi 0), (2, yi (yadd x2 1))] [] (N, T, R, I3)) ∧ (¬ (r4 ≠ 0) → yW l zSS D cy zFk z (d + 1) 157 bc bs K 0 0 4 [(0, yr (some 102)), (1, yi 1), (2, yi (yadd x2 1))] [] (N, T, R, I3)))) 0 0 0 [(0, yr (some 102)), (1, yi x2)] [] (N, T, R, I)))) :
    yW l zSS D cy zFk z (d + 1) 157 bc bs K 0 0 4 [(0, yr (some 102)), (1, yi x1), (2, yi x2)] [] (N, T, R, I) := by
  refine e_10 (f_157 (pc := 4) (e := (4, 10, 2, 0, 0, 0, 0, 5)) rfl) rfl ?_
  refine e_12 (f_157 (pc := 5) (e := (5, 12, 0, 0, 0, 0, 0, 6)) rfl) rfl ?_
  refine e_90r zA (f_157 (pc := 6) (e := (6, 90, 11, 6, 3, 33, 1159, 9)) rfl) rfl (hT 102 rfl) rfl rfl (hR 102 6 rfl) ?_
  refine e_0 (f_157 (pc := 9) (e := (9, 0, 2, 0, 0, 0, 0, 10)) rfl) (v := 2) rfl ?_
  refine e_110 (f_157 (pc := 10) (e := (10, 110, 0, 0, 0, 0, 0, 11)) rfl) rfl (hT 104 rfl) (by decide) (by decide) ?_
  refine e_73 (f_157 (pc := 11) (e := (11, 73, 38, 0, 0, 0, 0, 14)) rfl) (fun c1 => ?_) (fun c1 => ?_)
  · replace F := F.1 c1
    refine e_10 (f_157 (pc := 38) (e := (38, 10, 1, 0, 0, 0, 0, 39)) rfl) rfl ?_
    exact e_121 (f_157 (pc := 39) (e := (39, 121, 0, 0, 0, 0, 0, 0)) rfl) F.1 F.2
  · replace F := F.2 c1
    refine e_10 (f_157 (pc := 14) (e := (14, 10, 1, 0, 0, 0, 0, 15)) rfl) rfl ?_
    refine e_60 (f_157 (pc := 15) (e := (15, 60, 30, 0, 0, 0, 0, 18)) rfl) (fun c2 => ?_) (fun c2 => ?_)
    · replace F := F.1 c2
      refine e_0 (f_157 (pc := 30) (e := (30, 0, 0, 0, 0, 0, 0, 31)) rfl) (v := 0) rfl ?_
      refine e_20 (f_157 (pc := 31) (e := (31, 20, 1, 0, 0, 0, 0, 32)) rfl) ?_
      refine e_26 (f_157 (pc := 32) (e := (32, 26, 2, 1, 0, 0, 0, 35)) rfl) (w := 1) rfl rfl ?_
      refine e_80 (f_157 (pc := 35) (e := (35, 80, 4, 0, 0, 0, 0, 38)) rfl) ?_
      refine e_lo [0, 1, 2] rfl ?_
      exact F
    · replace F := F.2 c2
      refine e_12 (f_157 (pc := 18) (e := (18, 12, 0, 0, 0, 0, 0, 19)) rfl) rfl ?_
      refine e_10 (f_157 (pc := 19) (e := (19, 10, 2, 0, 0, 0, 0, 20)) rfl) rfl ?_
      refine e_130 (f_157 (pc := 20) (e := (20, 130, 198, 0, 11, 333, 1231, 23)) rfl) zA (as := [yr (some 102), yi x2]) (rest := []) rfl rfl rfl rfl (Nat.le_of_ble_eq_true rfl) (Nat.le_of_ble_eq_true rfl) ⟨_, _, _, rfl, (hT 102 rfl)⟩ (mc := 0) (ms := 0) (Nat.zero_le _) (Nat.zero_le _) ?_
      refine e_K ?_ F
      rintro r h' ⟨r4, I3, rfl, rfl, F⟩
      refine e_61 (f_157 (pc := 23) (e := (23, 61, 30, 0, 0, 0, 0, 26)) rfl) (fun c5 => ?_) (fun c5 => ?_)
      · replace F := F.1 c5
        refine e_0 (f_157 (pc := 30) (e := (30, 0, 0, 0, 0, 0, 0, 31)) rfl) (v := 0) rfl ?_
        refine e_20 (f_157 (pc := 31) (e := (31, 20, 1, 0, 0, 0, 0, 32)) rfl) ?_
        refine e_26 (f_157 (pc := 32) (e := (32, 26, 2, 1, 0, 0, 0, 35)) rfl) (w := 1) rfl rfl ?_
        refine e_80 (f_157 (pc := 35) (e := (35, 80, 4, 0, 0, 0, 0, 38)) rfl) ?_
        refine e_lo [0, 1, 2] rfl ?_
        exact F
      · replace F := F.2 c5
        refine e_0 (f_157 (pc := 26) (e := (26, 0, 1, 0, 0, 0, 0, 27)) rfl) (v := 1) rfl ?_
        refine e_80 (f_157 (pc := 27) (e := (27, 80, 31, 0, 0, 0, 0, 30)) rfl) ?_
        refine e_20 (f_157 (pc := 31) (e := (31, 20, 1, 0, 0, 0, 0, 32)) rfl) ?_
        refine e_26 (f_157 (pc := 32) (e := (32, 26, 2, 1, 0, 0, 0, 35)) rfl) (w := 1) rfl rfl ?_
        refine e_80 (f_157 (pc := 35) (e := (35, 80, 4, 0, 0, 0, 0, 38)) rfl) ?_
        refine e_lo [0, 1, 2] rfl ?_
        exact F

/-! back()V -/
set_option maxRecDepth 20000 in
theorem B_158_0 (hT : yLT T) (hR : yLR R) (F : yW l zSS D cy zFk z d 158 bc bs K 0 0 2 [(0, yr (some 102)), (1, yi 0)] [] (N, T, R, I)) :
    yW l zSS D cy zFk z d 158 bc bs K 0 0 0 [(0, yr (some 102))] [] (N, T, R, I) := by
  refine e_0 (f_158 (pc := 0) (e := (0, 0, 0, 0, 0, 0, 0, 1)) rfl) (v := 0) rfl ?_
  refine e_20 (f_158 (pc := 1) (e := (1, 20, 1, 0, 0, 0, 0, 2)) rfl) ?_
  refine e_lo [0, 1] rfl ?_
  exact F
set_option maxRecDepth 20000 in
theorem B_158_2 (hT : yLT T) (hR : yLR R) {x1 : Int} (F : (468 ≤ x1 → ∀ I2, I2 = yU I 102 28 0 → (∀ I3, I3 = yU I2 102 29 0 → (K none (N, T, R, I3)))) ∧ (¬ (468 ≤ x1) → 0 ≤ x1 ∧ x1 < 468 ∧ (0 ≤ (yadd 458 x1) ∧ (yadd 458 x1) < 1188 ∧ (∀ I8, I8 = yU I 104 ((yadd 458 x1).toNat) (ynar 1 (I 114 x1.toNat)) → (yW l zSS D cy zFk z d 158 bc bs K 0 0 2 [(0, yr (some 102)), (1, yi (yadd x1 1))] [] (N, T, R, I8)))))) :
    yW l zSS D cy zFk z d 158 bc bs K 0 0 2 [(0, yr (some 102)), (1, yi x1)] [] (N, T, R, I) := by
  refine e_10 (f_158 (pc := 2) (e := (2, 10, 1, 0, 0, 0, 0, 3)) rfl) rfl ?_
  refine e_2 (f_158 (pc := 3) (e := (3, 2, 468, 0, 0, 0, 0, 6)) rfl) (v := 468) rfl ?_
  refine e_73 (f_158 (pc := 6) (e := (6, 73, 31, 0, 0, 0, 0, 9)) rfl) (fun c1 => ?_) (fun c1 => ?_)
  · replace F := F.1 c1
    refine e_12 (f_158 (pc := 31) (e := (31, 12, 0, 0, 0, 0, 0, 32)) rfl) rfl ?_
    refine e_0 (f_158 (pc := 32) (e := (32, 0, 0, 0, 0, 0, 0, 33)) rfl) (v := 0) rfl ?_
    refine e_91 zA (f_158 (pc := 33) (e := (33, 91, 11, 28, 0, 301, 1232, 36)) rfl) rfl (hT 102 rfl) rfl rfl trivial ?_
    replace F := F _ rfl
    refine e_12 (f_158 (pc := 36) (e := (36, 12, 0, 0, 0, 0, 0, 37)) rfl) rfl ?_
    refine e_0 (f_158 (pc := 37) (e := (37, 0, 0, 0, 0, 0, 0, 38)) rfl) (v := 0) rfl ?_
    refine e_91 zA (f_158 (pc := 38) (e := (38, 91, 11, 29, 0, 313, 1209, 41)) rfl) rfl (hT 102 rfl) rfl rfl trivial ?_
    replace F := F _ rfl
    exact e_122 (f_158 (pc := 41) (e := (41, 122, 0, 0, 0, 0, 0, 0)) rfl) F
  · replace F := F.2 c1
    refine e_12 (f_158 (pc := 9) (e := (9, 12, 0, 0, 0, 0, 0, 10)) rfl) rfl ?_
    refine e_90r zA (f_158 (pc := 10) (e := (10, 90, 11, 6, 3, 33, 1159, 13)) rfl) rfl (hT 102 rfl) rfl rfl (hR 102 6 rfl) ?_
    refine e_2 (f_158 (pc := 13) (e := (13, 2, 458, 0, 0, 0, 0, 16)) rfl) (v := 458) rfl ?_
    refine e_10 (f_158 (pc := 16) (e := (16, 10, 1, 0, 0, 0, 0, 17)) rfl) rfl ?_
    refine e_30 (f_158 (pc := 17) (e := (17, 30, 0, 0, 0, 0, 0, 18)) rfl) ?_
    refine e_12 (f_158 (pc := 18) (e := (18, 12, 0, 0, 0, 0, 0, 19)) rfl) rfl ?_
    refine e_90r zA (f_158 (pc := 19) (e := (19, 90, 11, 34, 3, 65, 1169, 22)) rfl) rfl (hT 102 rfl) rfl rfl (hR 102 34 rfl) ?_
    refine e_10 (f_158 (pc := 22) (e := (22, 10, 1, 0, 0, 0, 0, 23)) rfl) rfl ?_
    obtain ⟨b4, b5, F⟩ := F
    refine e_110 (f_158 (pc := 23) (e := (23, 110, 0, 0, 0, 0, 0, 24)) rfl) rfl (hT 114 rfl) b4 b5 ?_
    obtain ⟨b6, b7, F⟩ := F
    refine e_111 (f_158 (pc := 24) (e := (24, 111, 0, 0, 0, 0, 0, 25)) rfl) rfl (hT 104 rfl) b6 b7 ?_
    replace F := F _ rfl
    refine e_26 (f_158 (pc := 25) (e := (25, 26, 1, 1, 0, 0, 0, 28)) rfl) (w := 1) rfl rfl ?_
    refine e_80 (f_158 (pc := 28) (e := (28, 80, 2, 0, 0, 0, 0, 31)) rfl) ?_
    refine e_lo [0, 1] rfl ?_
    exact F

/-! bad(I)Z -/
set_option maxRecDepth 20000 in
theorem B_159_0 (hT : yLT T) (hR : yLR R) {x1 : Int} (F : ∀ I1, I1 = yU I 102 15 x1 → (∀ I2, I2 = yU I1 102 16 (I1 102 12) → (K (some (yi 0)) (N, T, R, I2)))) :
    yW l zSS D cy zFk z d 159 bc bs K 0 0 0 [(0, yr (some 102)), (1, yi x1)] [] (N, T, R, I) := by
  refine e_12 (f_159 (pc := 0) (e := (0, 12, 0, 0, 0, 0, 0, 1)) rfl) rfl ?_
  refine e_10 (f_159 (pc := 1) (e := (1, 10, 1, 0, 0, 0, 0, 2)) rfl) rfl ?_
  refine e_91 zA (f_159 (pc := 2) (e := (2, 91, 11, 15, 0, 178, 1218, 5)) rfl) rfl (hT 102 rfl) rfl rfl trivial ?_
  replace F := F _ rfl
  refine e_12 (f_159 (pc := 5) (e := (5, 12, 0, 0, 0, 0, 0, 6)) rfl) rfl ?_
  refine e_12 (f_159 (pc := 6) (e := (6, 12, 0, 0, 0, 0, 0, 7)) rfl) rfl ?_
  refine e_90 zA (f_159 (pc := 7) (e := (7, 90, 11, 12, 0, 155, 1233, 10)) rfl) rfl (hT 102 rfl) rfl rfl ?_
  refine e_91 zA (f_159 (pc := 10) (e := (10, 91, 11, 16, 0, 181, 1228, 13)) rfl) rfl (hT 102 rfl) rfl rfl trivial ?_
  replace F := F _ rfl
  refine e_0 (f_159 (pc := 13) (e := (13, 0, 0, 0, 0, 0, 0, 14)) rfl) (v := 0) rfl ?_
  exact e_121 (f_159 (pc := 14) (e := (14, 121, 0, 0, 0, 0, 0, 0)) rfl) (.inl rfl) F

/-! began()I -/
set_option maxRecDepth 20000 in
theorem B_160_0 (hT : yLT T) (hR : yLR R) (F : ∀ I1, I1 = yU I 102 0 0 → (yW l zSS D cy zFk z d 249 0 0 (fun r h' => ∃ I2, r = none ∧ h' = (N, T, R, I2) ∧ (yW l zSS D cy zFk z (d + 1) 160 bc bs K 0 0 13 [(0, yr (some 102)), (1, yi 0), (2, yi 0)] [] (N, T, R, I2))) 0 0 0 [(0, yr (some 102))] [] (N, T, R, I1))) :
    yW l zSS D cy zFk z (d + 1) 160 bc bs K 0 0 0 [(0, yr (some 102))] [] (N, T, R, I) := by
  refine e_12 (f_160 (pc := 0) (e := (0, 12, 0, 0, 0, 0, 0, 1)) rfl) rfl ?_
  refine e_0 (f_160 (pc := 1) (e := (1, 0, 0, 0, 0, 0, 0, 2)) rfl) (v := 0) rfl ?_
  refine e_91 zA (f_160 (pc := 2) (e := (2, 91, 11, 0, 0, 1, 1216, 5)) rfl) rfl (hT 102 rfl) rfl rfl trivial ?_
  replace F := F _ rfl
  refine e_12 (f_160 (pc := 5) (e := (5, 12, 0, 0, 0, 0, 0, 6)) rfl) rfl ?_
  refine e_130 (f_160 (pc := 6) (e := (6, 130, 249, 0, 11, 374, 1234, 9)) rfl) zA (as := [yr (some 102)]) (rest := []) rfl rfl rfl rfl (Nat.le_of_ble_eq_true rfl) (Nat.le_of_ble_eq_true rfl) ⟨_, _, _, rfl, (hT 102 rfl)⟩ (mc := 0) (ms := 0) (Nat.zero_le _) (Nat.zero_le _) ?_
  refine e_K ?_ F
  rintro r h' ⟨I2, rfl, rfl, F⟩
  refine e_0 (f_160 (pc := 9) (e := (9, 0, 0, 0, 0, 0, 0, 10)) rfl) (v := 0) rfl ?_
  refine e_20 (f_160 (pc := 10) (e := (10, 20, 1, 0, 0, 0, 0, 11)) rfl) ?_
  refine e_0 (f_160 (pc := 11) (e := (11, 0, 0, 0, 0, 0, 0, 12)) rfl) (v := 0) rfl ?_
  refine e_20 (f_160 (pc := 12) (e := (12, 20, 2, 0, 0, 0, 0, 13)) rfl) ?_
  refine e_lo [0, 1, 2] rfl ?_
  exact F
set_option maxRecDepth 20000 in
theorem B_160_13 (hT : yLT T) (hR : yLR R) {x1 x2 : Int} (F : ((I 104 2) ≤ x2 → K (some (yi x1)) (N, T, R, I)) ∧ (¬ ((I 104 2) ≤ x2) → ∀ I2, I2 = yU I 102 28 (yshl 1 x2) → (yW l zSS D cy zFk z d 193 0 0 (fun r h' => ∃ r4 I3, r = some (yi r4) ∧ h' = (N, T, R, I3) ∧ ((r4 = 0 → yW l zSS D cy zFk z d 158 0 0 (fun r h' => ∃ I6, r = none ∧ h' = (N, T, R, I6) ∧ (yW l zSS D cy zFk z (d + 1) 160 bc bs K 0 0 13 [(0, yr (some 102)), (1, yi (yor x1 (yshl 1 x2))), (2, yi (yadd x2 1))] [] (N, T, R, I6))) 0 0 0 [(0, yr (some 102))] [] (N, T, R, I3)) ∧ (¬ (r4 = 0) → yW l zSS D cy zFk z d 158 0 0 (fun r h' => ∃ I7, r = none ∧ h' = (N, T, R, I7) ∧ (yW l zSS D cy zFk z (d + 1) 160 bc bs K 0 0 13 [(0, yr (some 102)), (1, yi (yor x1 0)), (2, yi (yadd x2 1))] [] (N, T, R, I7))) 0 0 0 [(0, yr (some 102))] [] (N, T, R, I3)))) 0 0 0 [(0, yr (some 102))] [] (N, T, R, I2)))) :
    yW l zSS D cy zFk z (d + 1) 160 bc bs K 0 0 13 [(0, yr (some 102)), (1, yi x1), (2, yi x2)] [] (N, T, R, I) := by
  refine e_10 (f_160 (pc := 13) (e := (13, 10, 2, 0, 0, 0, 0, 14)) rfl) rfl ?_
  refine e_12 (f_160 (pc := 14) (e := (14, 12, 0, 0, 0, 0, 0, 15)) rfl) rfl ?_
  refine e_90r zA (f_160 (pc := 15) (e := (15, 90, 11, 6, 3, 33, 1159, 18)) rfl) rfl (hT 102 rfl) rfl rfl (hR 102 6 rfl) ?_
  refine e_0 (f_160 (pc := 18) (e := (18, 0, 2, 0, 0, 0, 0, 19)) rfl) (v := 2) rfl ?_
  refine e_110 (f_160 (pc := 19) (e := (19, 110, 0, 0, 0, 0, 0, 20)) rfl) rfl (hT 104 rfl) (by decide) (by decide) ?_
  refine e_73 (f_160 (pc := 20) (e := (20, 73, 57, 0, 0, 0, 0, 23)) rfl) (fun c1 => ?_) (fun c1 => ?_)
  · replace F := F.1 c1
    refine e_10 (f_160 (pc := 57) (e := (57, 10, 1, 0, 0, 0, 0, 58)) rfl) rfl ?_
    exact e_120 (f_160 (pc := 58) (e := (58, 120, 0, 0, 0, 0, 0, 0)) rfl) F
  · replace F := F.2 c1
    refine e_12 (f_160 (pc := 23) (e := (23, 12, 0, 0, 0, 0, 0, 24)) rfl) rfl ?_
    refine e_0 (f_160 (pc := 24) (e := (24, 0, 1, 0, 0, 0, 0, 25)) rfl) (v := 1) rfl ?_
    refine e_10 (f_160 (pc := 25) (e := (25, 10, 2, 0, 0, 0, 0, 26)) rfl) rfl ?_
    refine e_38 (f_160 (pc := 26) (e := (26, 38, 0, 0, 0, 0, 0, 27)) rfl) ?_
    refine e_91 zA (f_160 (pc := 27) (e := (27, 91, 11, 28, 0, 301, 1232, 30)) rfl) rfl (hT 102 rfl) rfl rfl trivial ?_
    replace F := F _ rfl
    refine e_10 (f_160 (pc := 30) (e := (30, 10, 1, 0, 0, 0, 0, 31)) rfl) rfl ?_
    refine e_12 (f_160 (pc := 31) (e := (31, 12, 0, 0, 0, 0, 0, 32)) rfl) rfl ?_
    refine e_130 (f_160 (pc := 32) (e := (32, 130, 193, 0, 11, 389, 1235, 35)) rfl) zA (as := [yr (some 102)]) (rest := [yi x1]) rfl rfl rfl rfl (Nat.le_of_ble_eq_true rfl) (Nat.le_of_ble_eq_true rfl) ⟨_, _, _, rfl, (hT 102 rfl)⟩ (mc := 0) (ms := 0) (Nat.zero_le _) (Nat.zero_le _) ?_
    refine e_K ?_ F
    rintro r h' ⟨r4, I3, rfl, rfl, F⟩
    refine e_60 (f_160 (pc := 35) (e := (35, 60, 42, 0, 0, 0, 0, 38)) rfl) (fun c5 => ?_) (fun c5 => ?_)
    · replace F := F.1 c5
      refine e_0 (f_160 (pc := 42) (e := (42, 0, 1, 0, 0, 0, 0, 43)) rfl) (v := 1) rfl ?_
      refine e_10 (f_160 (pc := 43) (e := (43, 10, 2, 0, 0, 0, 0, 44)) rfl) rfl ?_
      refine e_38 (f_160 (pc := 44) (e := (44, 38, 0, 0, 0, 0, 0, 45)) rfl) ?_
      refine e_36 (f_160 (pc := 45) (e := (45, 36, 0, 0, 0, 0, 0, 46)) rfl) ?_
      refine e_20 (f_160 (pc := 46) (e := (46, 20, 1, 0, 0, 0, 0, 47)) rfl) ?_
      refine e_12 (f_160 (pc := 47) (e := (47, 12, 0, 0, 0, 0, 0, 48)) rfl) rfl ?_
      refine e_130 (f_160 (pc := 48) (e := (48, 130, 158, 0, 11, 383, 1236, 51)) rfl) zA (as := [yr (some 102)]) (rest := []) rfl rfl rfl rfl (Nat.le_of_ble_eq_true rfl) (Nat.le_of_ble_eq_true rfl) ⟨_, _, _, rfl, (hT 102 rfl)⟩ (mc := 0) (ms := 0) (Nat.zero_le _) (Nat.zero_le _) ?_
      refine e_K ?_ F
      rintro r h' ⟨I6, rfl, rfl, F⟩
      refine e_26 (f_160 (pc := 51) (e := (51, 26, 2, 1, 0, 0, 0, 54)) rfl) (w := 1) rfl rfl ?_
      refine e_80 (f_160 (pc := 54) (e := (54, 80, 13, 0, 0, 0, 0, 57)) rfl) ?_
      refine e_lo [0, 1, 2] rfl ?_
      exact F
    · replace F := F.2 c5
      refine e_0 (f_160 (pc := 38) (e := (38, 0, 0, 0, 0, 0, 0, 39)) rfl) (v := 0) rfl ?_
      refine e_80 (f_160 (pc := 39) (e := (39, 80, 45, 0, 0, 0, 0, 42)) rfl) ?_
      refine e_36 (f_160 (pc := 45) (e := (45, 36, 0, 0, 0, 0, 0, 46)) rfl) ?_
      refine e_20 (f_160 (pc := 46) (e := (46, 20, 1, 0, 0, 0, 0, 47)) rfl) ?_
      refine e_12 (f_160 (pc := 47) (e := (47, 12, 0, 0, 0, 0, 0, 48)) rfl) rfl ?_
      refine e_130 (f_160 (pc := 48) (e := (48, 130, 158, 0, 11, 383, 1236, 51)) rfl) zA (as := [yr (some 102)]) (rest := []) rfl rfl rfl rfl (Nat.le_of_ble_eq_true rfl) (Nat.le_of_ble_eq_true rfl) ⟨_, _, _, rfl, (hT 102 rfl)⟩ (mc := 0) (ms := 0) (Nat.zero_le _) (Nat.zero_le _) ?_
      refine e_K ?_ F
      rintro r h' ⟨I7, rfl, rfl, F⟩
      refine e_26 (f_160 (pc := 51) (e := (51, 26, 2, 1, 0, 0, 0, 54)) rfl) (w := 1) rfl rfl ?_
      refine e_80 (f_160 (pc := 54) (e := (54, 80, 13, 0, 0, 0, 0, 57)) rfl) ?_
      refine e_lo [0, 1, 2] rfl ?_
      exact F

/-! begins()V -/
set_option maxRecDepth 20000 in
theorem B_161_0 (hT : yLT T) (hR : yLR R) (F : ∀ I1, I1 = yU I 104 458 (ynar 1 0) → (∀ I2, I2 = yU I1 104 459 (ynar 1 0) → (∀ I3, I3 = yU I2 104 460 (ynar 1 0) → (∀ I4, I4 = yU I3 104 461 (ynar 1 0) → (yW l zSS D cy zFk z d 161 bc bs K 0 0 38 [(0, yr (some 102)), (1, yi 0)] [] (N, T, R, I4)))))) :
    yW l zSS D cy zFk z d 161 bc bs K 0 0 0 [(0, yr (some 102))] [] (N, T, R, I) := by
  refine e_12 (f_161 (pc := 0) (e := (0, 12, 0, 0, 0, 0, 0, 1)) rfl) rfl ?_
  refine e_90r zA (f_161 (pc := 1) (e := (1, 90, 11, 6, 3, 33, 1159, 4)) rfl) rfl (hT 102 rfl) rfl rfl (hR 102 6 rfl) ?_
  refine e_2 (f_161 (pc := 4) (e := (4, 2, 458, 0, 0, 0, 0, 7)) rfl) (v := 458) rfl ?_
  refine e_0 (f_161 (pc := 7) (e := (7, 0, 0, 0, 0, 0, 0, 8)) rfl) (v := 0) rfl ?_
  refine e_111 (f_161 (pc := 8) (e := (8, 111, 0, 0, 0, 0, 0, 9)) rfl) rfl (hT 104 rfl) (by decide) (by decide) ?_
  replace F := F _ rfl
  refine e_12 (f_161 (pc := 9) (e := (9, 12, 0, 0, 0, 0, 0, 10)) rfl) rfl ?_
  refine e_90r zA (f_161 (pc := 10) (e := (10, 90, 11, 6, 3, 33, 1159, 13)) rfl) rfl (hT 102 rfl) rfl rfl (hR 102 6 rfl) ?_
  refine e_2 (f_161 (pc := 13) (e := (13, 2, 459, 0, 0, 0, 0, 16)) rfl) (v := 459) rfl ?_
  refine e_0 (f_161 (pc := 16) (e := (16, 0, 0, 0, 0, 0, 0, 17)) rfl) (v := 0) rfl ?_
  refine e_111 (f_161 (pc := 17) (e := (17, 111, 0, 0, 0, 0, 0, 18)) rfl) rfl (hT 104 rfl) (by decide) (by decide) ?_
  replace F := F _ rfl
  refine e_12 (f_161 (pc := 18) (e := (18, 12, 0, 0, 0, 0, 0, 19)) rfl) rfl ?_
  refine e_90r zA (f_161 (pc := 19) (e := (19, 90, 11, 6, 3, 33, 1159, 22)) rfl) rfl (hT 102 rfl) rfl rfl (hR 102 6 rfl) ?_
  refine e_2 (f_161 (pc := 22) (e := (22, 2, 460, 0, 0, 0, 0, 25)) rfl) (v := 460) rfl ?_
  refine e_0 (f_161 (pc := 25) (e := (25, 0, 0, 0, 0, 0, 0, 26)) rfl) (v := 0) rfl ?_
  refine e_111 (f_161 (pc := 26) (e := (26, 111, 0, 0, 0, 0, 0, 27)) rfl) rfl (hT 104 rfl) (by decide) (by decide) ?_
  replace F := F _ rfl
  refine e_12 (f_161 (pc := 27) (e := (27, 12, 0, 0, 0, 0, 0, 28)) rfl) rfl ?_
  refine e_90r zA (f_161 (pc := 28) (e := (28, 90, 11, 6, 3, 33, 1159, 31)) rfl) rfl (hT 102 rfl) rfl rfl (hR 102 6 rfl) ?_
  refine e_2 (f_161 (pc := 31) (e := (31, 2, 461, 0, 0, 0, 0, 34)) rfl) (v := 461) rfl ?_
  refine e_0 (f_161 (pc := 34) (e := (34, 0, 0, 0, 0, 0, 0, 35)) rfl) (v := 0) rfl ?_
  refine e_111 (f_161 (pc := 35) (e := (35, 111, 0, 0, 0, 0, 0, 36)) rfl) rfl (hT 104 rfl) (by decide) (by decide) ?_
  replace F := F _ rfl
  refine e_0 (f_161 (pc := 36) (e := (36, 0, 0, 0, 0, 0, 0, 37)) rfl) (v := 0) rfl ?_
  refine e_20 (f_161 (pc := 37) (e := (37, 20, 1, 0, 0, 0, 0, 38)) rfl) ?_
  refine e_lo [0, 1] rfl ?_
  exact F
set_option maxRecDepth 20000 in
theorem B_161_38 (hT : yLT T) (hR : yLR R) {x1 : Int} (F : (8 ≤ x1 → K none (N, T, R, I)) ∧ (¬ (8 ≤ x1) → 0 ≤ (yadd 470 x1) ∧ (yadd 470 x1) < 1188 ∧ (∀ I4, I4 = yU I 104 ((yadd 470 x1).toNat) (ynar 1 (-1)) → (0 ≤ (yadd 478 x1) ∧ (yadd 478 x1) < 1188 ∧ (∀ I7, I7 = yU I4 104 ((yadd 478 x1).toNat) (ynar 1 0) → (0 ≤ (yadd 486 x1) ∧ (yadd 486 x1) < 1188 ∧ (∀ I10, I10 = yU I7 104 ((yadd 486 x1).toNat) (ynar 1 (-1)) → (0 ≤ (yadd 494 x1) ∧ (yadd 494 x1) < 1188 ∧ (∀ I13, I13 = yU I10 104 ((yadd 494 x1).toNat) (ynar 1 0) → (0 ≤ (yadd 502 x1) ∧ (yadd 502 x1) < 1188 ∧ (∀ I16, I16 = yU I13 104 ((yadd 502 x1).toNat) (ynar 1 0) → (0 ≤ (yadd 510 x1) ∧ (yadd 510 x1) < 1188 ∧ (∀ I19, I19 = yU I16 104 ((yadd 510 x1).toNat) (ynar 1 (-1)) → (0 ≤ (yadd 518 x1) ∧ (yadd 518 x1) < 1188 ∧ (∀ I22, I22 = yU I19 104 ((yadd 518 x1).toNat) (ynar 1 0) → (yW l zSS D cy zFk z d 161 bc bs K 0 0 38 [(0, yr (some 102)), (1, yi (yadd x1 1))] [] (N, T, R, I22))))))))))))))))) :
    yW l zSS D cy zFk z d 161 bc bs K 0 0 38 [(0, yr (some 102)), (1, yi x1)] [] (N, T, R, I) := by
  refine e_10 (f_161 (pc := 38) (e := (38, 10, 1, 0, 0, 0, 0, 39)) rfl) rfl ?_
  refine e_1 (f_161 (pc := 39) (e := (39, 1, 8, 0, 0, 0, 0, 41)) rfl) (v := 8) rfl ?_
  refine e_73 (f_161 (pc := 41) (e := (41, 73, 127, 0, 0, 0, 0, 44)) rfl) (fun c1 => ?_) (fun c1 => ?_)
  · replace F := F.1 c1
    exact e_122 (f_161 (pc := 127) (e := (127, 122, 0, 0, 0, 0, 0, 0)) rfl) F
  · replace F := F.2 c1
    refine e_12 (f_161 (pc := 44) (e := (44, 12, 0, 0, 0, 0, 0, 45)) rfl) rfl ?_
    refine e_90r zA (f_161 (pc := 45) (e := (45, 90, 11, 6, 3, 33, 1159, 48)) rfl) rfl (hT 102 rfl) rfl rfl (hR 102 6 rfl) ?_
    refine e_2 (f_161 (pc := 48) (e := (48, 2, 470, 0, 0, 0, 0, 51)) rfl) (v := 470) rfl ?_
    refine e_10 (f_161 (pc := 51) (e := (51, 10, 1, 0, 0, 0, 0, 52)) rfl) rfl ?_
    refine e_30 (f_161 (pc := 52) (e := (52, 30, 0, 0, 0, 0, 0, 53)) rfl) ?_
    refine e_0 (f_161 (pc := 53) (e := (53, 0, 4294967295, 0, 0, 0, 0, 54)) rfl) (v := (-1)) rfl ?_
    obtain ⟨b2, b3, F⟩ := F
    refine e_111 (f_161 (pc := 54) (e := (54, 111, 0, 0, 0, 0, 0, 55)) rfl) rfl (hT 104 rfl) b2 b3 ?_
    replace F := F _ rfl
    refine e_12 (f_161 (pc := 55) (e := (55, 12, 0, 0, 0, 0, 0, 56)) rfl) rfl ?_
    refine e_90r zA (f_161 (pc := 56) (e := (56, 90, 11, 6, 3, 33, 1159, 59)) rfl) rfl (hT 102 rfl) rfl rfl (hR 102 6 rfl) ?_
    refine e_2 (f_161 (pc := 59) (e := (59, 2, 478, 0, 0, 0, 0, 62)) rfl) (v := 478) rfl ?_
    refine e_10 (f_161 (pc := 62) (e := (62, 10, 1, 0, 0, 0, 0, 63)) rfl) rfl ?_
    refine e_30 (f_161 (pc := 63) (e := (63, 30, 0, 0, 0, 0, 0, 64)) rfl) ?_
    refine e_0 (f_161 (pc := 64) (e := (64, 0, 0, 0, 0, 0, 0, 65)) rfl) (v := 0) rfl ?_
    obtain ⟨b5, b6, F⟩ := F
    refine e_111 (f_161 (pc := 65) (e := (65, 111, 0, 0, 0, 0, 0, 66)) rfl) rfl (hT 104 rfl) b5 b6 ?_
    replace F := F _ rfl
    refine e_12 (f_161 (pc := 66) (e := (66, 12, 0, 0, 0, 0, 0, 67)) rfl) rfl ?_
    refine e_90r zA (f_161 (pc := 67) (e := (67, 90, 11, 6, 3, 33, 1159, 70)) rfl) rfl (hT 102 rfl) rfl rfl (hR 102 6 rfl) ?_
    refine e_2 (f_161 (pc := 70) (e := (70, 2, 486, 0, 0, 0, 0, 73)) rfl) (v := 486) rfl ?_
    refine e_10 (f_161 (pc := 73) (e := (73, 10, 1, 0, 0, 0, 0, 74)) rfl) rfl ?_
    refine e_30 (f_161 (pc := 74) (e := (74, 30, 0, 0, 0, 0, 0, 75)) rfl) ?_
    refine e_0 (f_161 (pc := 75) (e := (75, 0, 4294967295, 0, 0, 0, 0, 76)) rfl) (v := (-1)) rfl ?_
    obtain ⟨b8, b9, F⟩ := F
    refine e_111 (f_161 (pc := 76) (e := (76, 111, 0, 0, 0, 0, 0, 77)) rfl) rfl (hT 104 rfl) b8 b9 ?_
    replace F := F _ rfl
    refine e_12 (f_161 (pc := 77) (e := (77, 12, 0, 0, 0, 0, 0, 78)) rfl) rfl ?_
    refine e_90r zA (f_161 (pc := 78) (e := (78, 90, 11, 6, 3, 33, 1159, 81)) rfl) rfl (hT 102 rfl) rfl rfl (hR 102 6 rfl) ?_
    refine e_2 (f_161 (pc := 81) (e := (81, 2, 494, 0, 0, 0, 0, 84)) rfl) (v := 494) rfl ?_
    refine e_10 (f_161 (pc := 84) (e := (84, 10, 1, 0, 0, 0, 0, 85)) rfl) rfl ?_
    refine e_30 (f_161 (pc := 85) (e := (85, 30, 0, 0, 0, 0, 0, 86)) rfl) ?_
    refine e_0 (f_161 (pc := 86) (e := (86, 0, 0, 0, 0, 0, 0, 87)) rfl) (v := 0) rfl ?_
    obtain ⟨b11, b12, F⟩ := F
    refine e_111 (f_161 (pc := 87) (e := (87, 111, 0, 0, 0, 0, 0, 88)) rfl) rfl (hT 104 rfl) b11 b12 ?_
    replace F := F _ rfl
    refine e_12 (f_161 (pc := 88) (e := (88, 12, 0, 0, 0, 0, 0, 89)) rfl) rfl ?_
    refine e_90r zA (f_161 (pc := 89) (e := (89, 90, 11, 6, 3, 33, 1159, 92)) rfl) rfl (hT 102 rfl) rfl rfl (hR 102 6 rfl) ?_
    refine e_2 (f_161 (pc := 92) (e := (92, 2, 502, 0, 0, 0, 0, 95)) rfl) (v := 502) rfl ?_
    refine e_10 (f_161 (pc := 95) (e := (95, 10, 1, 0, 0, 0, 0, 96)) rfl) rfl ?_
    refine e_30 (f_161 (pc := 96) (e := (96, 30, 0, 0, 0, 0, 0, 97)) rfl) ?_
    refine e_0 (f_161 (pc := 97) (e := (97, 0, 0, 0, 0, 0, 0, 98)) rfl) (v := 0) rfl ?_
    obtain ⟨b14, b15, F⟩ := F
    refine e_111 (f_161 (pc := 98) (e := (98, 111, 0, 0, 0, 0, 0, 99)) rfl) rfl (hT 104 rfl) b14 b15 ?_
    replace F := F _ rfl
    refine e_12 (f_161 (pc := 99) (e := (99, 12, 0, 0, 0, 0, 0, 100)) rfl) rfl ?_
    refine e_90r zA (f_161 (pc := 100) (e := (100, 90, 11, 6, 3, 33, 1159, 103)) rfl) rfl (hT 102 rfl) rfl rfl (hR 102 6 rfl) ?_
    refine e_2 (f_161 (pc := 103) (e := (103, 2, 510, 0, 0, 0, 0, 106)) rfl) (v := 510) rfl ?_
    refine e_10 (f_161 (pc := 106) (e := (106, 10, 1, 0, 0, 0, 0, 107)) rfl) rfl ?_
    refine e_30 (f_161 (pc := 107) (e := (107, 30, 0, 0, 0, 0, 0, 108)) rfl) ?_
    refine e_0 (f_161 (pc := 108) (e := (108, 0, 4294967295, 0, 0, 0, 0, 109)) rfl) (v := (-1)) rfl ?_
    obtain ⟨b17, b18, F⟩ := F
    refine e_111 (f_161 (pc := 109) (e := (109, 111, 0, 0, 0, 0, 0, 110)) rfl) rfl (hT 104 rfl) b17 b18 ?_
    replace F := F _ rfl
    refine e_12 (f_161 (pc := 110) (e := (110, 12, 0, 0, 0, 0, 0, 111)) rfl) rfl ?_
    refine e_90r zA (f_161 (pc := 111) (e := (111, 90, 11, 6, 3, 33, 1159, 114)) rfl) rfl (hT 102 rfl) rfl rfl (hR 102 6 rfl) ?_
    refine e_2 (f_161 (pc := 114) (e := (114, 2, 518, 0, 0, 0, 0, 117)) rfl) (v := 518) rfl ?_
    refine e_10 (f_161 (pc := 117) (e := (117, 10, 1, 0, 0, 0, 0, 118)) rfl) rfl ?_
    refine e_30 (f_161 (pc := 118) (e := (118, 30, 0, 0, 0, 0, 0, 119)) rfl) ?_
    refine e_0 (f_161 (pc := 119) (e := (119, 0, 0, 0, 0, 0, 0, 120)) rfl) (v := 0) rfl ?_
    obtain ⟨b20, b21, F⟩ := F
    refine e_111 (f_161 (pc := 120) (e := (120, 111, 0, 0, 0, 0, 0, 121)) rfl) rfl (hT 104 rfl) b20 b21 ?_
    replace F := F _ rfl
    refine e_26 (f_161 (pc := 121) (e := (121, 26, 1, 1, 0, 0, 0, 124)) rfl) (w := 1) rfl rfl ?_
    refine e_80 (f_161 (pc := 124) (e := (124, 80, 38, 0, 0, 0, 0, 127)) rfl) ?_
    refine e_lo [0, 1] rfl ?_
    exact F

/-! behind()Z -/
set_option maxRecDepth 20000 in
theorem B_162_0 (hT : yLT T) (hR : yLR R) (F : yW l zSS D cy zFk z d 217 0 0 (fun r h' => ∃ I1, r = none ∧ h' = (N, T, R, I1) ∧ (yW l zSS D cy zFk z d 199 0 0 (fun r h' => ∃ r3 I2, r = some (yi r3) ∧ h' = (N, T, R, I2) ∧ ((r3 ≠ 0 → yW l zSS D cy zFk z (d + 1) 162 bc bs K 0 0 24 [(0, yr (some 102))] [] (N, T, R, I2)) ∧ (¬ (r3 ≠ 0) → yW l zSS D cy zFk z d 199 0 0 (fun r h' => ∃ r6 I5, r = some (yi r6) ∧ h' = (N, T, R, I5) ∧ ((r6 = 0 → yW l zSS D cy zFk z d 200 0 0 (fun r h' => ∃ I8, r = none ∧ h' = (N, T, R, I8) ∧ (yW l zSS D cy zFk z d 196 0 0 (fun r h' => ∃ r10 I9, r = some (yi r10) ∧ h' = (N, T, R, I9) ∧ ((r10 = 0 → yW l zSS D cy zFk z (d + 1) 162 bc bs K 0 0 114 [(0, yr (some 102))] [] (N, T, R, I9)) ∧ (¬ (r10 = 0) → ((I9 102 50) ≠ 0 → ∀ I13, I13 = yU I9 102 50 (ysub (I9 102 50) 1) → (∀ I14, I14 = yU I13 102 51 (ysub (I13 102 51) 1) → (yW l zSS D cy zFk z d 182 0 0 (fun r h' => ∃ I15, r = none ∧ h' = (N, T, R, I15) ∧ (K (some (yi 1)) (N, T, R, I15))) 0 0 0 [(0, yr (some 102))] [] (N, T, R, I14)))) ∧ (¬ ((I9 102 50) ≠ 0) → yW l zSS D cy zFk z (d + 1) 162 bc bs K 0 0 114 [(0, yr (some 102))] [] (N, T, R, I9))))) 0 0 0 [(0, yr (some 102)), (1, yi 41)] [] (N, T, R, I8))) 0 0 0 [(0, yr (some 102)), (1, yi 22)] [] (N, T, R, I5)) ∧ (¬ (r6 = 0) → yW l zSS D cy zFk z (d + 1) 162 bc bs K 0 0 24 [(0, yr (some 102))] [] (N, T, R, I5)))) 0 0 0 [(0, yr (some 102)), (1, yj 28530)] [] (N, T, R, I2)))) 0 0 0 [(0, yr (some 102)), (1, yj 6385252)] [] (N, T, R, I1))) 0 0 0 [(0, yr (some 102))] [] (N, T, R, I)) :
    yW l zSS D cy zFk z (d + 1) 162 bc bs K 0 0 0 [(0, yr (some 102))] [] (N, T, R, I) := by
  refine e_12 (f_162 (pc := 0) (e := (0, 12, 0, 0, 0, 0, 0, 1)) rfl) rfl ?_
  refine e_130 (f_162 (pc := 1) (e := (1, 130, 217, 0, 11, 435, 1237, 4)) rfl) zA (as := [yr (some 102)]) (rest := []) rfl rfl rfl rfl (Nat.le_of_ble_eq_true rfl) (Nat.le_of_ble_eq_true rfl) ⟨_, _, _, rfl, (hT 102 rfl)⟩ (mc := 0) (ms := 0) (Nat.zero_le _) (Nat.zero_le _) ?_
  refine e_K ?_ F
  rintro r h' ⟨I1, rfl, rfl, F⟩
  refine e_12 (f_162 (pc := 4) (e := (4, 12, 0, 0, 0, 0, 0, 5)) rfl) rfl ?_
  refine e_5 (f_162 (pc := 5) (e := (5, 5, 6385252, 0, 0, 137, 1199, 8)) rfl) (v := 6385252) rfl ?_
  refine e_130 (f_162 (pc := 8) (e := (8, 130, 199, 0, 11, 204, 1238, 11)) rfl) zA (as := [yr (some 102), yj 6385252]) (rest := []) rfl rfl rfl rfl (Nat.le_of_ble_eq_true rfl) (Nat.le_of_ble_eq_true rfl) ⟨_, _, _, rfl, (hT 102 rfl)⟩ (mc := 0) (ms := 0) (Nat.zero_le _) (Nat.zero_le _) ?_
  refine e_K ?_ F
  rintro r h' ⟨r3, I2, rfl, rfl, F⟩
  refine e_61 (f_162 (pc := 11) (e := (11, 61, 24, 0, 0, 0, 0, 14)) rfl) (fun c4 => ?_) (fun c4 => ?_)
  · replace F := F.1 c4
    refine e_lo [0] rfl ?_
    exact F
  · replace F := F.2 c4
    refine e_12 (f_162 (pc := 14) (e := (14, 12, 0, 0, 0, 0, 0, 15)) rfl) rfl ?_
    refine e_5 (f_162 (pc := 15) (e := (15, 5, 28530, 0, 0, 135, 1198, 18)) rfl) (v := 28530) rfl ?_
    refine e_130 (f_162 (pc := 18) (e := (18, 130, 199, 0, 11, 204, 1238, 21)) rfl) zA (as := [yr (some 102), yj 28530]) (rest := []) rfl rfl rfl rfl (Nat.le_of_ble_eq_true rfl) (Nat.le_of_ble_eq_true rfl) ⟨_, _, _, rfl, (hT 102 rfl)⟩ (mc := 0) (ms := 0) (Nat.zero_le _) (Nat.zero_le _) ?_
    refine e_K ?_ F
    rintro r h' ⟨r6, I5, rfl, rfl, F⟩
    refine e_60 (f_162 (pc := 21) (e := (21, 60, 92, 0, 0, 0, 0, 24)) rfl) (fun c7 => ?_) (fun c7 => ?_)
    · replace F := F.1 c7
      refine e_12 (f_162 (pc := 92) (e := (92, 12, 0, 0, 0, 0, 0, 93)) rfl) rfl ?_
      refine e_1 (f_162 (pc := 93) (e := (93, 1, 22, 0, 0, 0, 0, 95)) rfl) (v := 22) rfl ?_
      refine e_130 (f_162 (pc := 95) (e := (95, 130, 200, 0, 11, 438, 1239, 98)) rfl) zA (as := [yr (some 102), yi 22]) (rest := []) rfl rfl rfl rfl (Nat.le_of_ble_eq_true rfl) (Nat.le_of_ble_eq_true rfl) ⟨_, _, _, rfl, (hT 102 rfl)⟩ (mc := 0) (ms := 0) (Nat.zero_le _) (Nat.zero_le _) ?_
      refine e_K ?_ F
      rintro r h' ⟨I8, rfl, rfl, F⟩
      refine e_12 (f_162 (pc := 98) (e := (98, 12, 0, 0, 0, 0, 0, 99)) rfl) rfl ?_
      refine e_1 (f_162 (pc := 99) (e := (99, 1, 41, 0, 0, 0, 0, 101)) rfl) (v := 41) rfl ?_
      refine e_130 (f_162 (pc := 101) (e := (101, 130, 196, 0, 11, 184, 1242, 104)) rfl) zA (as := [yr (some 102), yi 41]) (rest := []) rfl rfl rfl rfl (Nat.le_of_ble_eq_true rfl) (Nat.le_of_ble_eq_true rfl) ⟨_, _, _, rfl, (hT 102 rfl)⟩ (mc := 0) (ms := 0) (Nat.zero_le _) (Nat.zero_le _) ?_
      refine e_K ?_ F
      rintro r h' ⟨r10, I9, rfl, rfl, F⟩
      refine e_60 (f_162 (pc := 104) (e := (104, 60, 114, 0, 0, 0, 0, 107)) rfl) (fun c11 => ?_) (fun c11 => ?_)
      · replace F := F.1 c11
        refine e_lo [0] rfl ?_
        exact F
      · replace F := F.2 c11
        refine e_12 (f_162 (pc := 107) (e := (107, 12, 0, 0, 0, 0, 0, 108)) rfl) rfl ?_
        refine e_90 zA (f_162 (pc := 108) (e := (108, 90, 11, 50, 0, 417, 1240, 111)) rfl) rfl (hT 102 rfl) rfl rfl ?_
        refine e_61 (f_162 (pc := 111) (e := (111, 61, 120, 0, 0, 0, 0, 114)) rfl) (fun c12 => ?_) (fun c12 => ?_)
        · replace F := F.1 c12
          refine e_12 (f_162 (pc := 120) (e := (120, 12, 0, 0, 0, 0, 0, 121)) rfl) rfl ?_
          refine e_50 (f_162 (pc := 121) (e := (121, 50, 0, 0, 0, 0, 0, 122)) rfl) rfl ?_
          refine e_90 zA (f_162 (pc := 122) (e := (122, 90, 11, 50, 0, 417, 1240, 125)) rfl) rfl (hT 102 rfl) rfl rfl ?_
          refine e_0 (f_162 (pc := 125) (e := (125, 0, 1, 0, 0, 0, 0, 126)) rfl) (v := 1) rfl ?_
          refine e_31 (f_162 (pc := 126) (e := (126, 31, 0, 0, 0, 0, 0, 127)) rfl) ?_
          refine e_91 zA (f_162 (pc := 127) (e := (127, 91, 11, 50, 0, 417, 1240, 130)) rfl) rfl (hT 102 rfl) rfl rfl trivial ?_
          replace F := F _ rfl
          refine e_12 (f_162 (pc := 130) (e := (130, 12, 0, 0, 0, 0, 0, 131)) rfl) rfl ?_
          refine e_50 (f_162 (pc := 131) (e := (131, 50, 0, 0, 0, 0, 0, 132)) rfl) rfl ?_
          refine e_90 zA (f_162 (pc := 132) (e := (132, 90, 11, 51, 0, 423, 1244, 135)) rfl) rfl (hT 102 rfl) rfl rfl ?_
          refine e_0 (f_162 (pc := 135) (e := (135, 0, 1, 0, 0, 0, 0, 136)) rfl) (v := 1) rfl ?_
          refine e_31 (f_162 (pc := 136) (e := (136, 31, 0, 0, 0, 0, 0, 137)) rfl) ?_
          refine e_91 zA (f_162 (pc := 137) (e := (137, 91, 11, 51, 0, 423, 1244, 140)) rfl) rfl (hT 102 rfl) rfl rfl trivial ?_
          replace F := F _ rfl
          refine e_12 (f_162 (pc := 140) (e := (140, 12, 0, 0, 0, 0, 0, 141)) rfl) rfl ?_
          refine e_130 (f_162 (pc := 141) (e := (141, 130, 182, 0, 11, 190, 1224, 144)) rfl) zA (as := [yr (some 102)]) (rest := []) rfl rfl rfl rfl (Nat.le_of_ble_eq_true rfl) (Nat.le_of_ble_eq_true rfl) ⟨_, _, _, rfl, (hT 102 rfl)⟩ (mc := 0) (ms := 0) (Nat.zero_le _) (Nat.zero_le _) ?_
          refine e_K ?_ F
          rintro r h' ⟨I15, rfl, rfl, F⟩
          refine e_0 (f_162 (pc := 144) (e := (144, 0, 1, 0, 0, 0, 0, 145)) rfl) (v := 1) rfl ?_
          exact e_121 (f_162 (pc := 145) (e := (145, 121, 0, 0, 0, 0, 0, 0)) rfl) (.inr rfl) F
        · replace F := F.2 c12
          refine e_lo [0] rfl ?_
          exact F
    · replace F := F.2 c7
      refine e_lo [0] rfl ?_
      exact F
set_option maxRecDepth 20000 in
theorem B_162_24 (hT : yLT T) (hR : yLR R) (F : yW l zSS D cy zFk z d 199 0 0 (fun r h' => ∃ r2 I1, r = some (yi r2) ∧ h' = (N, T, R, I1) ∧ ((r2 = 0 → yW l zSS D cy zFk z (d + 1) 162 bc bs K 0 0 42 [(0, yr (some 102))] [yi 22, yr (some 102)] (N, T, R, I1)) ∧ (¬ (r2 = 0) → yW l zSS D cy zFk z (d + 1) 162 bc bs K 0 0 42 [(0, yr (some 102))] [yi 21, yr (some 102)] (N, T, R, I1)))) 0 0 0 [(0, yr (some 102)), (1, yj 6385252)] [] (N, T, R, I)) :
    yW l zSS D cy zFk z (d + 1) 162 bc bs K 0 0 24 [(0, yr (some 102))] [] (N, T, R, I) := by
  refine e_12 (f_162 (pc := 24) (e := (24, 12, 0, 0, 0, 0, 0, 25)) rfl) rfl ?_
  refine e_12 (f_162 (pc := 25) (e := (25, 12, 0, 0, 0, 0, 0, 26)) rfl) rfl ?_
  refine e_5 (f_162 (pc := 26) (e := (26, 5, 6385252, 0, 0, 137, 1199, 29)) rfl) (v := 6385252) rfl ?_
  refine e_130 (f_162 (pc := 29) (e := (29, 130, 199, 0, 11, 204, 1238, 32)) rfl) zA (as := [yr (some 102), yj 6385252]) (rest := [yr (some 102)]) rfl rfl rfl rfl (Nat.le_of_ble_eq_true rfl) (Nat.le_of_ble_eq_true rfl) ⟨_, _, _, rfl, (hT 102 rfl)⟩ (mc := 0) (ms := 0) (Nat.zero_le _) (Nat.zero_le _) ?_
  refine e_K ?_ F
  rintro r h' ⟨r2, I1, rfl, rfl, F⟩
  refine e_60 (f_162 (pc := 32) (e := (32, 60, 40, 0, 0, 0, 0, 35)) rfl) (fun c3 => ?_) (fun c3 => ?_)
  · replace F := F.1 c3
    refine e_1 (f_162 (pc := 40) (e := (40, 1, 22, 0, 0, 0, 0, 42)) rfl) (v := 22) rfl ?_
    refine e_lo [0] rfl ?_
    exact F
  · replace F := F.2 c3
    refine e_1 (f_162 (pc := 35) (e := (35, 1, 21, 0, 0, 0, 0, 37)) rfl) (v := 21) rfl ?_
    refine e_80 (f_162 (pc := 37) (e := (37, 80, 42, 0, 0, 0, 0, 40)) rfl) ?_
    refine e_lo [0] rfl ?_
    exact F
set_option maxRecDepth 20000 in
theorem B_162_42 (hT : yLT T) (hR : yLR R) {t0 : Int} (F : yW l zSS D cy zFk z d 200 0 0 (fun r h' => ∃ I1, r = none ∧ h' = (N, T, R, I1) ∧ (yW l zSS D cy zFk z d 199 0 0 (fun r h' => ∃ r3 I2, r = some (yi r3) ∧ h' = (N, T, R, I2) ∧ ((r3 = 0 → yW l zSS D cy zFk z (d + 1) 162 bc bs K 0 0 70 [(0, yr (some 102))] [yi 22, yi (I1 102 50), yr (some 121)] (N, T, R, I2)) ∧ (¬ (r3 = 0) → yW l zSS D cy zFk z (d + 1) 162 bc bs K 0 0 70 [(0, yr (some 102))] [yi 21, yi (I1 102 50), yr (some 121)] (N, T, R, I2)))) 0 0 0 [(0, yr (some 102)), (1, yj 6385252)] [] (N, T, R, I1))) 0 0 0 [(0, yr (some 102)), (1, yi t0)] [] (N, T, R, I)) :
    yW l zSS D cy zFk z (d + 1) 162 bc bs K 0 0 42 [(0, yr (some 102))] [yi t0, yr (some 102)] (N, T, R, I) := by
  refine e_130 (f_162 (pc := 42) (e := (42, 130, 200, 0, 11, 438, 1239, 45)) rfl) zA (as := [yr (some 102), yi t0]) (rest := []) rfl rfl rfl rfl (Nat.le_of_ble_eq_true rfl) (Nat.le_of_ble_eq_true rfl) ⟨_, _, _, rfl, (hT 102 rfl)⟩ (mc := 0) (ms := 0) (Nat.zero_le _) (Nat.zero_le _) ?_
  refine e_K ?_ F
  rintro r h' ⟨I1, rfl, rfl, F⟩
  refine e_12 (f_162 (pc := 45) (e := (45, 12, 0, 0, 0, 0, 0, 46)) rfl) rfl ?_
  refine e_90r zA (f_162 (pc := 46) (e := (46, 90, 11, 47, 3, 87, 1177, 49)) rfl) rfl (hT 102 rfl) rfl rfl (hR 102 47 rfl) ?_
  refine e_12 (f_162 (pc := 49) (e := (49, 12, 0, 0, 0, 0, 0, 50)) rfl) rfl ?_
  refine e_90 zA (f_162 (pc := 50) (e := (50, 90, 11, 50, 0, 417, 1240, 53)) rfl) rfl (hT 102 rfl) rfl rfl ?_
  refine e_12 (f_162 (pc := 53) (e := (53, 12, 0, 0, 0, 0, 0, 54)) rfl) rfl ?_
  refine e_5 (f_162 (pc := 54) (e := (54, 5, 6385252, 0, 0, 137, 1199, 57)) rfl) (v := 6385252) rfl ?_
  refine e_130 (f_162 (pc := 57) (e := (57, 130, 199, 0, 11, 204, 1238, 60)) rfl) zA (as := [yr (some 102), yj 6385252]) (rest := [yi _, yr (some 121)]) rfl rfl rfl rfl (Nat.le_of_ble_eq_true rfl) (Nat.le_of_ble_eq_true rfl) ⟨_, _, _, rfl, (hT 102 rfl)⟩ (mc := 0) (ms := 0) (Nat.zero_le _) (Nat.zero_le _) ?_
  refine e_K ?_ F
  rintro r h' ⟨r3, I2, rfl, rfl, F⟩
  refine e_60 (f_162 (pc := 60) (e := (60, 60, 68, 0, 0, 0, 0, 63)) rfl) (fun c4 => ?_) (fun c4 => ?_)
  · replace F := F.1 c4
    refine e_1 (f_162 (pc := 68) (e := (68, 1, 22, 0, 0, 0, 0, 70)) rfl) (v := 22) rfl ?_
    refine e_lo [0] rfl ?_
    exact F
  · replace F := F.2 c4
    refine e_1 (f_162 (pc := 63) (e := (63, 1, 21, 0, 0, 0, 0, 65)) rfl) (v := 21) rfl ?_
    refine e_80 (f_162 (pc := 65) (e := (65, 80, 70, 0, 0, 0, 0, 68)) rfl) ?_
    refine e_lo [0] rfl ?_
    exact F
set_option maxRecDepth 20000 in
theorem B_162_70 (hT : yLT T) (hR : yLR R) {t0 t1 : Int} (F : 0 ≤ t1 ∧ t1 < 45 ∧ (∀ I3, I3 = yU I 121 t1.toNat (ynar 1 t0) → (∀ I4, I4 = yU I3 102 50 (yadd (I3 102 50) 1) → (∀ I5, I5 = yU I4 102 52 0 → (yW l zSS D cy zFk z d 182 0 0 (fun r h' => ∃ I6, r = none ∧ h' = (N, T, R, I6) ∧ (K (some (yi 1)) (N, T, R, I6))) 0 0 0 [(0, yr (some 102))] [] (N, T, R, I5)))))) :
    yW l zSS D cy zFk z (d + 1) 162 bc bs K 0 0 70 [(0, yr (some 102))] [yi t0, yi t1, yr (some 121)] (N, T, R, I) := by
  obtain ⟨b1, b2, F⟩ := F
  refine e_111 (f_162 (pc := 70) (e := (70, 111, 0, 0, 0, 0, 0, 71)) rfl) rfl (hT 121 rfl) b1 b2 ?_
  replace F := F _ rfl
  refine e_12 (f_162 (pc := 71) (e := (71, 12, 0, 0, 0, 0, 0, 72)) rfl) rfl ?_
  refine e_50 (f_162 (pc := 72) (e := (72, 50, 0, 0, 0, 0, 0, 73)) rfl) rfl ?_
  refine e_90 zA (f_162 (pc := 73) (e := (73, 90, 11, 50, 0, 417, 1240, 76)) rfl) rfl (hT 102 rfl) rfl rfl ?_
  refine e_0 (f_162 (pc := 76) (e := (76, 0, 1, 0, 0, 0, 0, 77)) rfl) (v := 1) rfl ?_
  refine e_30 (f_162 (pc := 77) (e := (77, 30, 0, 0, 0, 0, 0, 78)) rfl) ?_
  refine e_91 zA (f_162 (pc := 78) (e := (78, 91, 11, 50, 0, 417, 1240, 81)) rfl) rfl (hT 102 rfl) rfl rfl trivial ?_
  replace F := F _ rfl
  refine e_12 (f_162 (pc := 81) (e := (81, 12, 0, 0, 0, 0, 0, 82)) rfl) rfl ?_
  refine e_0 (f_162 (pc := 82) (e := (82, 0, 0, 0, 0, 0, 0, 83)) rfl) (v := 0) rfl ?_
  refine e_91 zA (f_162 (pc := 83) (e := (83, 91, 11, 52, 2, 432, 1241, 86)) rfl) rfl (hT 102 rfl) rfl rfl (.inl rfl) ?_
  replace F := F _ rfl
  refine e_12 (f_162 (pc := 86) (e := (86, 12, 0, 0, 0, 0, 0, 87)) rfl) rfl ?_
  refine e_130 (f_162 (pc := 87) (e := (87, 130, 182, 0, 11, 190, 1224, 90)) rfl) zA (as := [yr (some 102)]) (rest := []) rfl rfl rfl rfl (Nat.le_of_ble_eq_true rfl) (Nat.le_of_ble_eq_true rfl) ⟨_, _, _, rfl, (hT 102 rfl)⟩ (mc := 0) (ms := 0) (Nat.zero_le _) (Nat.zero_le _) ?_
  refine e_K ?_ F
  rintro r h' ⟨I6, rfl, rfl, F⟩
  refine e_0 (f_162 (pc := 90) (e := (90, 0, 1, 0, 0, 0, 0, 91)) rfl) (v := 1) rfl ?_
  exact e_121 (f_162 (pc := 91) (e := (91, 121, 0, 0, 0, 0, 0, 92)) rfl) (.inr rfl) F
set_option maxRecDepth 20000 in
theorem B_162_114 (hT : yLT T) (hR : yLR R) (F : yW l zSS D cy zFk z d 159 0 0 (fun r h' => ∃ r2 I1, r = some (yi r2) ∧ h' = (N, T, R, I1) ∧ ((r2 = 0 ∨ r2 = 1) ∧ K (some (yi r2)) (N, T, R, I1))) 0 0 0 [(0, yr (some 102)), (1, yi 1)] [] (N, T, R, I)) :
    yW l zSS D cy zFk z (d + 1) 162 bc bs K 0 0 114 [(0, yr (some 102))] [] (N, T, R, I) := by
  refine e_12 (f_162 (pc := 114) (e := (114, 12, 0, 0, 0, 0, 0, 115)) rfl) rfl ?_
  refine e_0 (f_162 (pc := 115) (e := (115, 0, 1, 0, 0, 0, 0, 116)) rfl) (v := 1) rfl ?_
  refine e_130 (f_162 (pc := 116) (e := (116, 130, 159, 0, 11, 187, 1243, 119)) rfl) zA (as := [yr (some 102), yi 1]) (rest := []) rfl rfl rfl rfl (Nat.le_of_ble_eq_true rfl) (Nat.le_of_ble_eq_true rfl) ⟨_, _, _, rfl, (hT 102 rfl)⟩ (mc := 0) (ms := 0) (Nat.zero_le _) (Nat.zero_le _) ?_
  refine e_K ?_ F
  rintro r h' ⟨r2, I1, rfl, rfl, F⟩
  exact e_121 (f_162 (pc := 119) (e := (119, 121, 0, 0, 0, 0, 0, 120)) rfl) F.1 F.2

/-! besideOf(II)I -/
set_option maxRecDepth 20000 in
theorem B_163_0 (hT : yLT T) (hR : yLR R) {x1 x2 : Int} (F : (x2 ≠ 1 → (x2 ≠ 3 → yW l zSS D cy zFk z d 163 bc bs K 0 0 23 [(0, yr (some 102)), (1, yi x1), (2, yi x2)] [yi 0, yi (yrem x1 10)] (N, T, R, I)) ∧ (¬ (x2 ≠ 3) → yW l zSS D cy zFk z d 163 bc bs K 0 0 23 [(0, yr (some 102)), (1, yi x1), (2, yi x2)] [yi (-1), yi (yrem x1 10)] (N, T, R, I))) ∧ (¬ (x2 ≠ 1) → yW l zSS D cy zFk z d 163 bc bs K 0 0 23 [(0, yr (some 102)), (1, yi x1), (2, yi x2)] [yi 1, yi (yrem x1 10)] (N, T, R, I))) :
    yW l zSS D cy zFk z d 163 bc bs K 0 0 0 [(0, yr (some 102)), (1, yi x1), (2, yi x2)] [] (N, T, R, I) := by
  refine e_10 (f_163 (pc := 0) (e := (0, 10, 1, 0, 0, 0, 0, 1)) rfl) rfl ?_
  refine e_1 (f_163 (pc := 1) (e := (1, 1, 10, 0, 0, 0, 0, 3)) rfl) (v := 10) rfl ?_
  refine e_34 (f_163 (pc := 3) (e := (3, 34, 0, 0, 0, 0, 0, 4)) rfl) (by decide) ?_
  refine e_10 (f_163 (pc := 4) (e := (4, 10, 2, 0, 0, 0, 0, 5)) rfl) rfl ?_
  refine e_0 (f_163 (pc := 5) (e := (5, 0, 1, 0, 0, 0, 0, 6)) rfl) (v := 1) rfl ?_
  refine e_71 (f_163 (pc := 6) (e := (6, 71, 13, 0, 0, 0, 0, 9)) rfl) (fun c1 => ?_) (fun c1 => ?_)
  · replace F := F.1 c1
    refine e_10 (f_163 (pc := 13) (e := (13, 10, 2, 0, 0, 0, 0, 14)) rfl) rfl ?_
    refine e_0 (f_163 (pc := 14) (e := (14, 0, 3, 0, 0, 0, 0, 15)) rfl) (v := 3) rfl ?_
    refine e_71 (f_163 (pc := 15) (e := (15, 71, 22, 0, 0, 0, 0, 18)) rfl) (fun c2 => ?_) (fun c2 => ?_)
    · replace F := F.1 c2
      refine e_0 (f_163 (pc := 22) (e := (22, 0, 0, 0, 0, 0, 0, 23)) rfl) (v := 0) rfl ?_
      refine e_lo [0, 1, 2] rfl ?_
      exact F
    · replace F := F.2 c2
      refine e_0 (f_163 (pc := 18) (e := (18, 0, 4294967295, 0, 0, 0, 0, 19)) rfl) (v := (-1)) rfl ?_
      refine e_80 (f_163 (pc := 19) (e := (19, 80, 23, 0, 0, 0, 0, 22)) rfl) ?_
      refine e_lo [0, 1, 2] rfl ?_
      exact F
  · replace F := F.2 c1
    refine e_0 (f_163 (pc := 9) (e := (9, 0, 1, 0, 0, 0, 0, 10)) rfl) (v := 1) rfl ?_
    refine e_80 (f_163 (pc := 10) (e := (10, 80, 23, 0, 0, 0, 0, 13)) rfl) ?_
    refine e_lo [0, 1, 2] rfl ?_
    exact F
set_option maxRecDepth 20000 in
theorem B_163_23 (hT : yLT T) (hR : yLR R) {x1 x2 t0 t1 : Int} (F : (x2 ≠ 2 → (x2 ≠ 0 → yW l zSS D cy zFk z d 163 bc bs K 0 0 47 [(0, yr (some 102)), (3, yi (yadd t1 t0))] [yi 0, yi (ydiv x1 10)] (N, T, R, I)) ∧ (¬ (x2 ≠ 0) → yW l zSS D cy zFk z d 163 bc bs K 0 0 47 [(0, yr (some 102)), (3, yi (yadd t1 t0))] [yi (-1), yi (ydiv x1 10)] (N, T, R, I))) ∧ (¬ (x2 ≠ 2) → yW l zSS D cy zFk z d 163 bc bs K 0 0 47 [(0, yr (some 102)), (3, yi (yadd t1 t0))] [yi 1, yi (ydiv x1 10)] (N, T, R, I))) :
    yW l zSS D cy zFk z d 163 bc bs K 0 0 23 [(0, yr (some 102)), (1, yi x1), (2, yi x2)] [yi t0, yi t1] (N, T, R, I) := by
  refine e_30 (f_163 (pc := 23) (e := (23, 30, 0, 0, 0, 0, 0, 24)) rfl) ?_
  refine e_20 (f_163 (pc := 24) (e := (24, 20, 3, 0, 0, 0, 0, 25)) rfl) ?_
  refine e_10 (f_163 (pc := 25) (e := (25, 10, 1, 0, 0, 0, 0, 26)) rfl) rfl ?_
  refine e_1 (f_163 (pc := 26) (e := (26, 1, 10, 0, 0, 0, 0, 28)) rfl) (v := 10) rfl ?_
  refine e_33 (f_163 (pc := 28) (e := (28, 33, 0, 0, 0, 0, 0, 29)) rfl) (by decide) ?_
  refine e_10 (f_163 (pc := 29) (e := (29, 10, 2, 0, 0, 0, 0, 30)) rfl) rfl ?_
  refine e_0 (f_163 (pc := 30) (e := (30, 0, 2, 0, 0, 0, 0, 31)) rfl) (v := 2) rfl ?_
  refine e_71 (f_163 (pc := 31) (e := (31, 71, 38, 0, 0, 0, 0, 34)) rfl) (fun c1 => ?_) (fun c1 => ?_)
  · replace F := F.1 c1
    refine e_10 (f_163 (pc := 38) (e := (38, 10, 2, 0, 0, 0, 0, 39)) rfl) rfl ?_
    refine e_61 (f_163 (pc := 39) (e := (39, 61, 46, 0, 0, 0, 0, 42)) rfl) (fun c2 => ?_) (fun c2 => ?_)
    · replace F := F.1 c2
      refine e_0 (f_163 (pc := 46) (e := (46, 0, 0, 0, 0, 0, 0, 47)) rfl) (v := 0) rfl ?_
      refine e_lo [0, 3] rfl ?_
      exact F
    · replace F := F.2 c2
      refine e_0 (f_163 (pc := 42) (e := (42, 0, 4294967295, 0, 0, 0, 0, 43)) rfl) (v := (-1)) rfl ?_
      refine e_80 (f_163 (pc := 43) (e := (43, 80, 47, 0, 0, 0, 0, 46)) rfl) ?_
      refine e_lo [0, 3] rfl ?_
      exact F
  · replace F := F.2 c1
    refine e_0 (f_163 (pc := 34) (e := (34, 0, 1, 0, 0, 0, 0, 35)) rfl) (v := 1) rfl ?_
    refine e_80 (f_163 (pc := 35) (e := (35, 80, 47, 0, 0, 0, 0, 38)) rfl) ?_
    refine e_lo [0, 3] rfl ?_
    exact F
set_option maxRecDepth 20000 in
theorem B_163_47 (hT : yLT T) (hR : yLR R) {x3 t0 t1 : Int} (F : yW l zSS D cy zFk z d 191 0 0 (fun r h' => ∃ r2 I1, r = some (yi r2) ∧ h' = (N, T, R, I1) ∧ ((r2 = 0 → yW l zSS D cy zFk z (d + 1) 163 bc bs K 0 0 93 [] [] (N, T, R, I1)) ∧ (¬ (r2 = 0) → yW l zSS D cy zFk z d 191 0 0 (fun r h' => ∃ r5 I4, r = some (yi r5) ∧ h' = (N, T, R, I4) ∧ ((r5 = 0 → yW l zSS D cy zFk z (d + 1) 163 bc bs K 0 0 93 [] [] (N, T, R, I4)) ∧ (¬ (r5 = 0) → yW l zSS D cy zFk z (d + 1) 163 bc bs K 0 0 94 [] [yi (yadd (ymul 10 (yadd t1 t0)) x3)] (N, T, R, I4)))) 0 0 0 [(0, yi (yadd t1 t0)), (1, yi 0), (2, yi (ysub (I1 104 1) 1))] [] (N, T, R, I1)))) 0 0 0 [(0, yi x3), (1, yi 0), (2, yi (ysub (I 104 0) 1))] [] (N, T, R, I)) :
    yW l zSS D cy zFk z (d + 1) 163 bc bs K 0 0 47 [(0, yr (some 102)), (3, yi x3)] [yi t0, yi t1] (N, T, R, I) := by
  refine e_30 (f_163 (pc := 47) (e := (47, 30, 0, 0, 0, 0, 0, 48)) rfl) ?_
  refine e_21 (f_163 (pc := 48) (e := (48, 21, 4, 0, 0, 0, 0, 50)) rfl) ?_
  refine e_10 (f_163 (pc := 50) (e := (50, 10, 3, 0, 0, 0, 0, 51)) rfl) rfl ?_
  refine e_0 (f_163 (pc := 51) (e := (51, 0, 0, 0, 0, 0, 0, 52)) rfl) (v := 0) rfl ?_
  refine e_12 (f_163 (pc := 52) (e := (52, 12, 0, 0, 0, 0, 0, 53)) rfl) rfl ?_
  refine e_90r zA (f_163 (pc := 53) (e := (53, 90, 11, 6, 3, 33, 1159, 56)) rfl) rfl (hT 102 rfl) rfl rfl (hR 102 6 rfl) ?_
  refine e_0 (f_163 (pc := 56) (e := (56, 0, 0, 0, 0, 0, 0, 57)) rfl) (v := 0) rfl ?_
  refine e_110 (f_163 (pc := 57) (e := (57, 110, 0, 0, 0, 0, 0, 58)) rfl) rfl (hT 104 rfl) (by decide) (by decide) ?_
  refine e_0 (f_163 (pc := 58) (e := (58, 0, 1, 0, 0, 0, 0, 59)) rfl) (v := 1) rfl ?_
  refine e_31 (f_163 (pc := 59) (e := (59, 31, 0, 0, 0, 0, 0, 60)) rfl) ?_
  refine e_132 (f_163 (pc := 60) (e := (60, 132, 191, 2, 11, 193, 1245, 63)) rfl) zA (as := [yi x3, yi 0, yi _]) (rest := []) rfl rfl rfl rfl (Nat.le_of_ble_eq_true rfl) (Nat.le_of_ble_eq_true rfl) (mc := 0) (ms := 0) (Nat.zero_le _) (Nat.zero_le _) ?_
  refine e_K ?_ F
  rintro r h' ⟨r2, I1, rfl, rfl, F⟩
  refine e_60 (f_163 (pc := 63) (e := (63, 60, 93, 0, 0, 0, 0, 66)) rfl) (fun c3 => ?_) (fun c3 => ?_)
  · replace F := F.1 c3
    refine e_lo [] rfl ?_
    exact F
  · replace F := F.2 c3
    refine e_11 (f_163 (pc := 66) (e := (66, 11, 4, 0, 0, 0, 0, 68)) rfl) rfl ?_
    refine e_0 (f_163 (pc := 68) (e := (68, 0, 0, 0, 0, 0, 0, 69)) rfl) (v := 0) rfl ?_
    refine e_12 (f_163 (pc := 69) (e := (69, 12, 0, 0, 0, 0, 0, 70)) rfl) rfl ?_
    refine e_90r zA (f_163 (pc := 70) (e := (70, 90, 11, 6, 3, 33, 1159, 73)) rfl) rfl (hT 102 rfl) rfl rfl (hR 102 6 rfl) ?_
    refine e_0 (f_163 (pc := 73) (e := (73, 0, 1, 0, 0, 0, 0, 74)) rfl) (v := 1) rfl ?_
    refine e_110 (f_163 (pc := 74) (e := (74, 110, 0, 0, 0, 0, 0, 75)) rfl) rfl (hT 104 rfl) (by decide) (by decide) ?_
    refine e_0 (f_163 (pc := 75) (e := (75, 0, 1, 0, 0, 0, 0, 76)) rfl) (v := 1) rfl ?_
    refine e_31 (f_163 (pc := 76) (e := (76, 31, 0, 0, 0, 0, 0, 77)) rfl) ?_
    refine e_132 (f_163 (pc := 77) (e := (77, 132, 191, 2, 11, 193, 1245, 80)) rfl) zA (as := [yi _, yi 0, yi _]) (rest := []) rfl rfl rfl rfl (Nat.le_of_ble_eq_true rfl) (Nat.le_of_ble_eq_true rfl) (mc := 0) (ms := 0) (Nat.zero_le _) (Nat.zero_le _) ?_
    refine e_K ?_ F
    rintro r h' ⟨r5, I4, rfl, rfl, F⟩
    refine e_60 (f_163 (pc := 80) (e := (80, 60, 93, 0, 0, 0, 0, 83)) rfl) (fun c6 => ?_) (fun c6 => ?_)
    · replace F := F.1 c6
      refine e_lo [] rfl ?_
      exact F
    · replace F := F.2 c6
      refine e_1 (f_163 (pc := 83) (e := (83, 1, 10, 0, 0, 0, 0, 85)) rfl) (v := 10) rfl ?_
      refine e_11 (f_163 (pc := 85) (e := (85, 11, 4, 0, 0, 0, 0, 87)) rfl) rfl ?_
      refine e_32 (f_163 (pc := 87) (e := (87, 32, 0, 0, 0, 0, 0, 88)) rfl) ?_
      refine e_10 (f_163 (pc := 88) (e := (88, 10, 3, 0, 0, 0, 0, 89)) rfl) rfl ?_
      refine e_30 (f_163 (pc := 89) (e := (89, 30, 0, 0, 0, 0, 0, 90)) rfl) ?_
      refine e_80 (f_163 (pc := 90) (e := (90, 80, 94, 0, 0, 0, 0, 93)) rfl) ?_
      refine e_lo [] rfl ?_
      exact F
set_option maxRecDepth 20000 in
theorem B_163_93 (hT : yLT T) (hR : yLR R) (F : yW l zSS D cy zFk z d 163 bc bs K 0 0 94 [] [yi (-1)] (N, T, R, I)) :
    yW l zSS D cy zFk z d 163 bc bs K 0 0 93 [] [] (N, T, R, I) := by
  refine e_0 (f_163 (pc := 93) (e := (93, 0, 4294967295, 0, 0, 0, 0, 94)) rfl) (v := (-1)) rfl ?_
  refine e_lo [] rfl ?_
  exact F
set_option maxRecDepth 20000 in
theorem B_163_94 (hT : yLT T) (hR : yLR R) {t0 : Int} (F : K (some (yi t0)) (N, T, R, I)) :
    yW l zSS D cy zFk z d 163 bc bs K 0 0 94 [] [yi t0] (N, T, R, I) := by
  exact e_120 (f_163 (pc := 94) (e := (94, 120, 0, 0, 0, 0, 0, 0)) rfl) F

/-! bitOf(II)Z -/
set_option maxRecDepth 20000 in
theorem B_164_0 (hT : yLT T) (hR : yLR R) {x0 x1 : Int} (F : ((yand (yshr x0 x1) 1) ≠ 1 → K (some (yi 0)) (N, T, R, I)) ∧ (¬ ((yand (yshr x0 x1) 1) ≠ 1) → K (some (yi 1)) (N, T, R, I))) :
    yW l zSS D cy zFk z d 164 bc bs K 0 0 0 [(0, yi x0), (1, yi x1)] [] (N, T, R, I) := by
  refine e_10 (f_164 (pc := 0) (e := (0, 10, 0, 0, 0, 0, 0, 1)) rfl) rfl ?_
  refine e_10 (f_164 (pc := 1) (e := (1, 10, 1, 0, 0, 0, 0, 2)) rfl) rfl ?_
  refine e_39 (f_164 (pc := 2) (e := (2, 39, 0, 0, 0, 0, 0, 3)) rfl) ?_
  refine e_0 (f_164 (pc := 3) (e := (3, 0, 1, 0, 0, 0, 0, 4)) rfl) (v := 1) rfl ?_
  refine e_35 (f_164 (pc := 4) (e := (4, 35, 0, 0, 0, 0, 0, 5)) rfl) ?_
  refine e_0 (f_164 (pc := 5) (e := (5, 0, 1, 0, 0, 0, 0, 6)) rfl) (v := 1) rfl ?_
  refine e_71 (f_164 (pc := 6) (e := (6, 71, 13, 0, 0, 0, 0, 9)) rfl) (fun c1 => ?_) (fun c1 => ?_)
  · replace F := F.1 c1
    refine e_0 (f_164 (pc := 13) (e := (13, 0, 0, 0, 0, 0, 0, 14)) rfl) (v := 0) rfl ?_
    exact e_121 (f_164 (pc := 14) (e := (14, 121, 0, 0, 0, 0, 0, 0)) rfl) (.inl rfl) F
  · replace F := F.2 c1
    refine e_0 (f_164 (pc := 9) (e := (9, 0, 1, 0, 0, 0, 0, 10)) rfl) (v := 1) rfl ?_
    refine e_80 (f_164 (pc := 10) (e := (10, 80, 14, 0, 0, 0, 0, 13)) rfl) ?_
    exact e_121 (f_164 (pc := 14) (e := (14, 121, 0, 0, 0, 0, 0, 0)) rfl) (.inr rfl) F

/-! cell(II)I -/
set_option maxRecDepth 20000 in
theorem B_165_0 (hT : yLT T) (hR : yLR R) {x1 x2 : Int} (F : yW l zSS D cy zFk z d 187 0 0 (fun r h' => ∃ r2 I1, r = some (yi r2) ∧ h' = (N, T, R, I1) ∧ ((r2 = 0 → yW l zSS D cy zFk z (d + 1) 165 bc bs K 0 0 18 [(0, yr (some 102)), (1, yi x1), (2, yi x2)] [yr (some 102)] (N, T, R, I1)) ∧ (¬ (r2 = 0) → yW l zSS D cy zFk z d 191 0 0 (fun r h' => ∃ r5 I4, r = some (yi r5) ∧ h' = (N, T, R, I4) ∧ ((r5 ≠ 0 → yW l zSS D cy zFk z (d + 1) 165 bc bs K 0 0 23 [(0, yr (some 102)), (1, yi x1), (2, yi x2)] [yi 0, yr (some 102)] (N, T, R, I4)) ∧ (¬ (r5 ≠ 0) → yW l zSS D cy zFk z (d + 1) 165 bc bs K 0 0 18 [(0, yr (some 102)), (1, yi x1), (2, yi x2)] [yr (some 102)] (N, T, R, I4)))) 0 0 0 [(0, yi x2), (1, yi 0), (2, yi 4)] [] (N, T, R, I1)))) 0 0 0 [(0, yr (some 102)), (1, yi x1)] [] (N, T, R, I)) :
    yW l zSS D cy zFk z (d + 1) 165 bc bs K 0 0 0 [(0, yr (some 102)), (1, yi x1), (2, yi x2)] [] (N, T, R, I) := by
  refine e_12 (f_165 (pc := 0) (e := (0, 12, 0, 0, 0, 0, 0, 1)) rfl) rfl ?_
  refine e_12 (f_165 (pc := 1) (e := (1, 12, 0, 0, 0, 0, 0, 2)) rfl) rfl ?_
  refine e_10 (f_165 (pc := 2) (e := (2, 10, 1, 0, 0, 0, 0, 3)) rfl) rfl ?_
  refine e_130 (f_165 (pc := 3) (e := (3, 130, 187, 0, 11, 262, 1246, 6)) rfl) zA (as := [yr (some 102), yi x1]) (rest := [yr (some 102)]) rfl rfl rfl rfl (Nat.le_of_ble_eq_true rfl) (Nat.le_of_ble_eq_true rfl) ⟨_, _, _, rfl, (hT 102 rfl)⟩ (mc := 0) (ms := 0) (Nat.zero_le _) (Nat.zero_le _) ?_
  refine e_K ?_ F
  rintro r h' ⟨r2, I1, rfl, rfl, F⟩
  refine e_60 (f_165 (pc := 6) (e := (6, 60, 18, 0, 0, 0, 0, 9)) rfl) (fun c3 => ?_) (fun c3 => ?_)
  · replace F := F.1 c3
    refine e_lo [0, 1, 2] rfl ?_
    exact F
  · replace F := F.2 c3
    refine e_10 (f_165 (pc := 9) (e := (9, 10, 2, 0, 0, 0, 0, 10)) rfl) rfl ?_
    refine e_0 (f_165 (pc := 10) (e := (10, 0, 0, 0, 0, 0, 0, 11)) rfl) (v := 0) rfl ?_
    refine e_0 (f_165 (pc := 11) (e := (11, 0, 4, 0, 0, 0, 0, 12)) rfl) (v := 4) rfl ?_
    refine e_132 (f_165 (pc := 12) (e := (12, 132, 191, 2, 11, 193, 1245, 15)) rfl) zA (as := [yi x2, yi 0, yi 4]) (rest := [yr (some 102)]) rfl rfl rfl rfl (Nat.le_of_ble_eq_true rfl) (Nat.le_of_ble_eq_true rfl) (mc := 0) (ms := 0) (Nat.zero_le _) (Nat.zero_le _) ?_
    refine e_K ?_ F
    rintro r h' ⟨r5, I4, rfl, rfl, F⟩
    refine e_61 (f_165 (pc := 15) (e := (15, 61, 22, 0, 0, 0, 0, 18)) rfl) (fun c6 => ?_) (fun c6 => ?_)
    · replace F := F.1 c6
      refine e_0 (f_165 (pc := 22) (e := (22, 0, 0, 0, 0, 0, 0, 23)) rfl) (v := 0) rfl ?_
      refine e_lo [0, 1, 2] rfl ?_
      exact F
    · replace F := F.2 c6
      refine e_lo [0, 1, 2] rfl ?_
      exact F
set_option maxRecDepth 20000 in
theorem B_165_18 (hT : yLT T) (hR : yLR R) {x1 x2 : Int} (F : yW l zSS D cy zFk z d 165 bc bs K 0 0 23 [(0, yr (some 102)), (1, yi x1), (2, yi x2)] [yi 1, yr (some 102)] (N, T, R, I)) :
    yW l zSS D cy zFk z d 165 bc bs K 0 0 18 [(0, yr (some 102)), (1, yi x1), (2, yi x2)] [yr (some 102)] (N, T, R, I) := by
  refine e_0 (f_165 (pc := 18) (e := (18, 0, 1, 0, 0, 0, 0, 19)) rfl) (v := 1) rfl ?_
  refine e_80 (f_165 (pc := 19) (e := (19, 80, 23, 0, 0, 0, 0, 22)) rfl) ?_
  refine e_lo [0, 1, 2] rfl ?_
  exact F
set_option maxRecDepth 20000 in
theorem B_165_23 (hT : yLT T) (hR : yLR R) {x1 x2 t0 : Int} (F : yW l zSS D cy zFk z d 247 0 0 (fun r h' => ∃ r2 I1, r = some (yi r2) ∧ h' = (N, T, R, I1) ∧ ((r2 = 0 → (x2 = 0 → 0 ≤ (yadd 10 x1) ∧ (yadd 10 x1) < 1188 ∧ (K (some (yi (I1 104 (yadd 10 x1).toNat))) (N, T, R, I1))) ∧ (¬ (x2 = 0) → (x2 = 1 → 0 ≤ (yadd 110 x1) ∧ (yadd 110 x1) < 1188 ∧ (K (some (yi (I1 104 (yadd 110 x1).toNat))) (N, T, R, I1))) ∧ (¬ (x2 = 1) → (x2 = 2 → 0 ≤ (yadd 210 x1) ∧ (yadd 210 x1) < 1188 ∧ (K (some (yi (I1 104 (yadd 210 x1).toNat))) (N, T, R, I1))) ∧ (¬ (x2 = 2) → (x2 = 3 → 0 ≤ (yadd 526 x1) ∧ (yadd 526 x1) < 1188 ∧ (K (some (yi (ysub (I1 104 (yadd 526 x1).toNat) 1))) (N, T, R, I1))) ∧ (¬ (x2 = 3) → yW l zSS D cy zFk z d 168 0 0 (fun r h' => ∃ r17 I16, r = some (yi r17) ∧ h' = (N, T, R, I16) ∧ (K (some (yi r17)) (N, T, R, I16))) 0 0 0 [(0, yr (some 102)), (1, yi x1)] [] (N, T, R, I1)))))) ∧ (¬ (r2 = 0) → K (some (yi 0)) (N, T, R, I1)))) 0 0 0 [(0, yr (some 102)), (1, yi t0)] [] (N, T, R, I)) :
    yW l zSS D cy zFk z (d + 1) 165 bc bs K 0 0 23 [(0, yr (some 102)), (1, yi x1), (2, yi x2)] [yi t0, yr (some 102)] (N, T, R, I) := by
  refine e_130 (f_165 (pc := 23) (e := (23, 130, 247, 0, 11, 272, 1247, 26)) rfl) zA (as := [yr (some 102), yi t0]) (rest := []) rfl rfl rfl rfl (Nat.le_of_ble_eq_true rfl) (Nat.le_of_ble_eq_true rfl) ⟨_, _, _, rfl, (hT 102 rfl)⟩ (mc := 0) (ms := 0) (Nat.zero_le _) (Nat.zero_le _) ?_
  refine e_K ?_ F
  rintro r h' ⟨r2, I1, rfl, rfl, F⟩
  refine e_60 (f_165 (pc := 26) (e := (26, 60, 31, 0, 0, 0, 0, 29)) rfl) (fun c3 => ?_) (fun c3 => ?_)
  · replace F := F.1 c3
    refine e_10 (f_165 (pc := 31) (e := (31, 10, 2, 0, 0, 0, 0, 32)) rfl) rfl ?_
    refine e_83 (f_165 (pc := 32) (e := (32, 83, 2147483648, 4, 10, 0, 0, 108)) rfl) (v := x2) (low := 0) rfl ?_
    by_cases c4 : x2 = 0
    · replace F := F.1 c4
      rw [show ySw 0 (yTg zGG 10) 108 x2 = 64 from by rw [c4]; rfl]
      refine e_12 (f_165 (pc := 64) (e := (64, 12, 0, 0, 0, 0, 0, 65)) rfl) rfl ?_
      refine e_90r zA (f_165 (pc := 65) (e := (65, 90, 11, 6, 3, 33, 1159, 68)) rfl) rfl (hT 102 rfl) rfl rfl (hR 102 6 rfl) ?_
      refine e_1 (f_165 (pc := 68) (e := (68, 1, 10, 0, 0, 0, 0, 70)) rfl) (v := 10) rfl ?_
      refine e_10 (f_165 (pc := 70) (e := (70, 10, 1, 0, 0, 0, 0, 71)) rfl) rfl ?_
      refine e_30 (f_165 (pc := 71) (e := (71, 30, 0, 0, 0, 0, 0, 72)) rfl) ?_
      obtain ⟨b5, b6, F⟩ := F
      refine e_110 (f_165 (pc := 72) (e := (72, 110, 0, 0, 0, 0, 0, 73)) rfl) rfl (hT 104 rfl) b5 b6 ?_
      exact e_120 (f_165 (pc := 73) (e := (73, 120, 0, 0, 0, 0, 0, 74)) rfl) F
    · replace F := F.2 c4
      by_cases c7 : x2 = 1
      · replace F := F.1 c7
        rw [show ySw 0 (yTg zGG 10) 108 x2 = 74 from by rw [c7]; rfl]
        refine e_12 (f_165 (pc := 74) (e := (74, 12, 0, 0, 0, 0, 0, 75)) rfl) rfl ?_
        refine e_90r zA (f_165 (pc := 75) (e := (75, 90, 11, 6, 3, 33, 1159, 78)) rfl) rfl (hT 102 rfl) rfl rfl (hR 102 6 rfl) ?_
        refine e_1 (f_165 (pc := 78) (e := (78, 1, 110, 0, 0, 0, 0, 80)) rfl) (v := 110) rfl ?_
        refine e_10 (f_165 (pc := 80) (e := (80, 10, 1, 0, 0, 0, 0, 81)) rfl) rfl ?_
        refine e_30 (f_165 (pc := 81) (e := (81, 30, 0, 0, 0, 0, 0, 82)) rfl) ?_
        obtain ⟨b8, b9, F⟩ := F
        refine e_110 (f_165 (pc := 82) (e := (82, 110, 0, 0, 0, 0, 0, 83)) rfl) rfl (hT 104 rfl) b8 b9 ?_
        exact e_120 (f_165 (pc := 83) (e := (83, 120, 0, 0, 0, 0, 0, 84)) rfl) F
      · replace F := F.2 c7
        by_cases c10 : x2 = 2
        · replace F := F.1 c10
          rw [show ySw 0 (yTg zGG 10) 108 x2 = 84 from by rw [c10]; rfl]
          refine e_12 (f_165 (pc := 84) (e := (84, 12, 0, 0, 0, 0, 0, 85)) rfl) rfl ?_
          refine e_90r zA (f_165 (pc := 85) (e := (85, 90, 11, 6, 3, 33, 1159, 88)) rfl) rfl (hT 102 rfl) rfl rfl (hR 102 6 rfl) ?_
          refine e_2 (f_165 (pc := 88) (e := (88, 2, 210, 0, 0, 0, 0, 91)) rfl) (v := 210) rfl ?_
          refine e_10 (f_165 (pc := 91) (e := (91, 10, 1, 0, 0, 0, 0, 92)) rfl) rfl ?_
          refine e_30 (f_165 (pc := 92) (e := (92, 30, 0, 0, 0, 0, 0, 93)) rfl) ?_
          obtain ⟨b11, b12, F⟩ := F
          refine e_110 (f_165 (pc := 93) (e := (93, 110, 0, 0, 0, 0, 0, 94)) rfl) rfl (hT 104 rfl) b11 b12 ?_
          exact e_120 (f_165 (pc := 94) (e := (94, 120, 0, 0, 0, 0, 0, 95)) rfl) F
        · replace F := F.2 c10
          by_cases c13 : x2 = 3
          · replace F := F.1 c13
            rw [show ySw 0 (yTg zGG 10) 108 x2 = 95 from by rw [c13]; rfl]
            refine e_12 (f_165 (pc := 95) (e := (95, 12, 0, 0, 0, 0, 0, 96)) rfl) rfl ?_
            refine e_90r zA (f_165 (pc := 96) (e := (96, 90, 11, 6, 3, 33, 1159, 99)) rfl) rfl (hT 102 rfl) rfl rfl (hR 102 6 rfl) ?_
            refine e_2 (f_165 (pc := 99) (e := (99, 2, 526, 0, 0, 0, 0, 102)) rfl) (v := 526) rfl ?_
            refine e_10 (f_165 (pc := 102) (e := (102, 10, 1, 0, 0, 0, 0, 103)) rfl) rfl ?_
            refine e_30 (f_165 (pc := 103) (e := (103, 30, 0, 0, 0, 0, 0, 104)) rfl) ?_
            obtain ⟨b14, b15, F⟩ := F
            refine e_110 (f_165 (pc := 104) (e := (104, 110, 0, 0, 0, 0, 0, 105)) rfl) rfl (hT 104 rfl) b14 b15 ?_
            refine e_0 (f_165 (pc := 105) (e := (105, 0, 1, 0, 0, 0, 0, 106)) rfl) (v := 1) rfl ?_
            refine e_31 (f_165 (pc := 106) (e := (106, 31, 0, 0, 0, 0, 0, 107)) rfl) ?_
            exact e_120 (f_165 (pc := 107) (e := (107, 120, 0, 0, 0, 0, 0, 108)) rfl) F
          · replace F := F.2 c13
            rw [show ySw 0 (yTg zGG 10) 108 x2 = 108 from ySw_out (n := 4) rfl (by omega)]
            refine e_12 (f_165 (pc := 108) (e := (108, 12, 0, 0, 0, 0, 0, 109)) rfl) rfl ?_
            refine e_10 (f_165 (pc := 109) (e := (109, 10, 1, 0, 0, 0, 0, 110)) rfl) rfl ?_
            refine e_130 (f_165 (pc := 110) (e := (110, 130, 168, 0, 11, 265, 1248, 113)) rfl) zA (as := [yr (some 102), yi x1]) (rest := []) rfl rfl rfl rfl (Nat.le_of_ble_eq_true rfl) (Nat.le_of_ble_eq_true rfl) ⟨_, _, _, rfl, (hT 102 rfl)⟩ (mc := 0) (ms := 0) (Nat.zero_le _) (Nat.zero_le _) ?_
            refine e_K ?_ F
            rintro r h' ⟨r17, I16, rfl, rfl, F⟩
            exact e_120 (f_165 (pc := 113) (e := (113, 120, 0, 0, 0, 0, 0, 0)) rfl) F
  · replace F := F.2 c3
    refine e_0 (f_165 (pc := 29) (e := (29, 0, 0, 0, 0, 0, 0, 30)) rfl) (v := 0) rfl ?_
    exact e_120 (f_165 (pc := 30) (e := (30, 120, 0, 0, 0, 0, 0, 31)) rfl) F

/-! cellOf(I)I -/
set_option maxRecDepth 20000 in
theorem B_166_0 (hT : yLT T) (hR : yLR R) {x1 : Int} (F : (x1 ≠ 36 → (I 104 0) ≠ 0 ∧ ((I 104 0) ≠ 0 ∧ (K (some (yi (yadd (ymul (ydiv x1 (I 104 0)) 10) (yrem x1 (I 104 0))))) (N, T, R, I)))) ∧ (¬ (x1 ≠ 36) → K (some (yi (-1))) (N, T, R, I))) :
    yW l zSS D cy zFk z d 166 bc bs K 0 0 0 [(0, yr (some 102)), (1, yi x1)] [] (N, T, R, I) := by
  refine e_10 (f_166 (pc := 0) (e := (0, 10, 1, 0, 0, 0, 0, 1)) rfl) rfl ?_
  refine e_1 (f_166 (pc := 1) (e := (1, 1, 36, 0, 0, 0, 0, 3)) rfl) (v := 36) rfl ?_
  refine e_71 (f_166 (pc := 3) (e := (3, 71, 10, 0, 0, 0, 0, 6)) rfl) (fun c1 => ?_) (fun c1 => ?_)
  · replace F := F.1 c1
    refine e_10 (f_166 (pc := 10) (e := (10, 10, 1, 0, 0, 0, 0, 11)) rfl) rfl ?_
    refine e_12 (f_166 (pc := 11) (e := (11, 12, 0, 0, 0, 0, 0, 12)) rfl) rfl ?_
    refine e_90r zA (f_166 (pc := 12) (e := (12, 90, 11, 6, 3, 33, 1159, 15)) rfl) rfl (hT 102 rfl) rfl rfl (hR 102 6 rfl) ?_
    refine e_0 (f_166 (pc := 15) (e := (15, 0, 0, 0, 0, 0, 0, 16)) rfl) (v := 0) rfl ?_
    refine e_110 (f_166 (pc := 16) (e := (16, 110, 0, 0, 0, 0, 0, 17)) rfl) rfl (hT 104 rfl) (by decide) (by decide) ?_
    obtain ⟨b2, F⟩ := F
    refine e_33 (f_166 (pc := 17) (e := (17, 33, 0, 0, 0, 0, 0, 18)) rfl) b2 ?_
    refine e_1 (f_166 (pc := 18) (e := (18, 1, 10, 0, 0, 0, 0, 20)) rfl) (v := 10) rfl ?_
    refine e_32 (f_166 (pc := 20) (e := (20, 32, 0, 0, 0, 0, 0, 21)) rfl) ?_
    refine e_10 (f_166 (pc := 21) (e := (21, 10, 1, 0, 0, 0, 0, 22)) rfl) rfl ?_
    refine e_12 (f_166 (pc := 22) (e := (22, 12, 0, 0, 0, 0, 0, 23)) rfl) rfl ?_
    refine e_90r zA (f_166 (pc := 23) (e := (23, 90, 11, 6, 3, 33, 1159, 26)) rfl) rfl (hT 102 rfl) rfl rfl (hR 102 6 rfl) ?_
    refine e_0 (f_166 (pc := 26) (e := (26, 0, 0, 0, 0, 0, 0, 27)) rfl) (v := 0) rfl ?_
    refine e_110 (f_166 (pc := 27) (e := (27, 110, 0, 0, 0, 0, 0, 28)) rfl) rfl (hT 104 rfl) (by decide) (by decide) ?_
    obtain ⟨b3, F⟩ := F
    refine e_34 (f_166 (pc := 28) (e := (28, 34, 0, 0, 0, 0, 0, 29)) rfl) b3 ?_
    refine e_30 (f_166 (pc := 29) (e := (29, 30, 0, 0, 0, 0, 0, 30)) rfl) ?_
    exact e_120 (f_166 (pc := 30) (e := (30, 120, 0, 0, 0, 0, 0, 0)) rfl) F
  · replace F := F.2 c1
    refine e_0 (f_166 (pc := 6) (e := (6, 0, 4294967295, 0, 0, 0, 0, 7)) rfl) (v := (-1)) rfl ?_
    refine e_80 (f_166 (pc := 7) (e := (7, 80, 30, 0, 0, 0, 0, 10)) rfl) ?_
    exact e_120 (f_166 (pc := 30) (e := (30, 120, 0, 0, 0, 0, 0, 0)) rfl) F

/-! chair(II)I -/
set_option maxRecDepth 20000 in
theorem B_167_0 (hT : yLT T) (hR : yLR R) {x1 x2 : Int} (F : yW l zSS D cy zFk z d 188 0 0 (fun r h' => ∃ r2 I1, r = some (yi r2) ∧ h' = (N, T, R, I1) ∧ ((r2 = 0 → yW l zSS D cy zFk z (d + 1) 167 bc bs K 0 0 19 [(0, yr (some 102)), (1, yi x1), (2, yi x2)] [yr (some 102)] (N, T, R, I1)) ∧ (¬ (r2 = 0) → yW l zSS D cy zFk z d 191 0 0 (fun r h' => ∃ r5 I4, r = some (yi r5) ∧ h' = (N, T, R, I4) ∧ ((r5 ≠ 0 → yW l zSS D cy zFk z (d + 1) 167 bc bs K 0 0 24 [(0, yr (some 102)), (1, yi x1), (2, yi x2)] [yi 0, yr (some 102)] (N, T, R, I4)) ∧ (¬ (r5 ≠ 0) → yW l zSS D cy zFk z (d + 1) 167 bc bs K 0 0 19 [(0, yr (some 102)), (1, yi x1), (2, yi x2)] [yr (some 102)] (N, T, R, I4)))) 0 0 0 [(0, yi x2), (1, yi 0), (2, yi 9)] [] (N, T, R, I1)))) 0 0 0 [(0, yr (some 102)), (1, yi x1)] [] (N, T, R, I)) :
    yW l zSS D cy zFk z (d + 1) 167 bc bs K 0 0 0 [(0, yr (some 102)), (1, yi x1), (2, yi x2)] [] (N, T, R, I) := by
  refine e_12 (f_167 (pc := 0) (e := (0, 12, 0, 0, 0, 0, 0, 1)) rfl) rfl ?_
  refine e_12 (f_167 (pc := 1) (e := (1, 12, 0, 0, 0, 0, 0, 2)) rfl) rfl ?_
  refine e_10 (f_167 (pc := 2) (e := (2, 10, 1, 0, 0, 0, 0, 3)) rfl) rfl ?_
  refine e_130 (f_167 (pc := 3) (e := (3, 130, 188, 0, 11, 269, 1249, 6)) rfl) zA (as := [yr (some 102), yi x1]) (rest := [yr (some 102)]) rfl rfl rfl rfl (Nat.le_of_ble_eq_true rfl) (Nat.le_of_ble_eq_true rfl) ⟨_, _, _, rfl, (hT 102 rfl)⟩ (mc := 0) (ms := 0) (Nat.zero_le _) (Nat.zero_le _) ?_
  refine e_K ?_ F
  rintro r h' ⟨r2, I1, rfl, rfl, F⟩
  refine e_60 (f_167 (pc := 6) (e := (6, 60, 19, 0, 0, 0, 0, 9)) rfl) (fun c3 => ?_) (fun c3 => ?_)
  · replace F := F.1 c3
    refine e_lo [0, 1, 2] rfl ?_
    exact F
  · replace F := F.2 c3
    refine e_10 (f_167 (pc := 9) (e := (9, 10, 2, 0, 0, 0, 0, 10)) rfl) rfl ?_
    refine e_0 (f_167 (pc := 10) (e := (10, 0, 0, 0, 0, 0, 0, 11)) rfl) (v := 0) rfl ?_
    refine e_1 (f_167 (pc := 11) (e := (11, 1, 9, 0, 0, 0, 0, 13)) rfl) (v := 9) rfl ?_
    refine e_132 (f_167 (pc := 13) (e := (13, 132, 191, 2, 11, 193, 1245, 16)) rfl) zA (as := [yi x2, yi 0, yi 9]) (rest := [yr (some 102)]) rfl rfl rfl rfl (Nat.le_of_ble_eq_true rfl) (Nat.le_of_ble_eq_true rfl) (mc := 0) (ms := 0) (Nat.zero_le _) (Nat.zero_le _) ?_
    refine e_K ?_ F
    rintro r h' ⟨r5, I4, rfl, rfl, F⟩
    refine e_61 (f_167 (pc := 16) (e := (16, 61, 23, 0, 0, 0, 0, 19)) rfl) (fun c6 => ?_) (fun c6 => ?_)
    · replace F := F.1 c6
      refine e_0 (f_167 (pc := 23) (e := (23, 0, 0, 0, 0, 0, 0, 24)) rfl) (v := 0) rfl ?_
      refine e_lo [0, 1, 2] rfl ?_
      exact F
    · replace F := F.2 c6
      refine e_lo [0, 1, 2] rfl ?_
      exact F
set_option maxRecDepth 20000 in
theorem B_167_19 (hT : yLT T) (hR : yLR R) {x1 x2 : Int} (F : yW l zSS D cy zFk z d 167 bc bs K 0 0 24 [(0, yr (some 102)), (1, yi x1), (2, yi x2)] [yi 1, yr (some 102)] (N, T, R, I)) :
    yW l zSS D cy zFk z d 167 bc bs K 0 0 19 [(0, yr (some 102)), (1, yi x1), (2, yi x2)] [yr (some 102)] (N, T, R, I) := by
  refine e_0 (f_167 (pc := 19) (e := (19, 0, 1, 0, 0, 0, 0, 20)) rfl) (v := 1) rfl ?_
  refine e_80 (f_167 (pc := 20) (e := (20, 80, 24, 0, 0, 0, 0, 23)) rfl) ?_
  refine e_lo [0, 1, 2] rfl ?_
  exact F
set_option maxRecDepth 20000 in
theorem B_167_24 (hT : yLT T) (hR : yLR R) {x1 x2 t0 : Int} (F : yW l zSS D cy zFk z d 247 0 0 (fun r h' => ∃ r2 I1, r = some (yi r2) ∧ h' = (N, T, R, I1) ∧ ((r2 = 0 → (x2 = 0 → 0 ≤ (yadd 470 x1) ∧ (yadd 470 x1) < 1188 ∧ (K (some (yi (I1 104 (yadd 470 x1).toNat))) (N, T, R, I1))) ∧ (¬ (x2 = 0) → (x2 = 1 → 0 ≤ (yadd 310 x1) ∧ (yadd 310 x1) < 1188 ∧ (K (some (yi (I1 104 (yadd 310 x1).toNat))) (N, T, R, I1))) ∧ (¬ (x2 = 1) → (x2 = 2 → 0 ≤ (yadd 318 x1) ∧ (yadd 318 x1) < 1188 ∧ (K (some (yi (I1 104 (yadd 318 x1).toNat))) (N, T, R, I1))) ∧ (¬ (x2 = 2) → (x2 = 3 → 0 ≤ (yadd 334 x1) ∧ (yadd 334 x1) < 1188 ∧ (K (some (yi (I1 104 (yadd 334 x1).toNat))) (N, T, R, I1))) ∧ (¬ (x2 = 3) → (x2 = 4 → 0 ≤ (yadd 462 x1) ∧ (yadd 462 x1) < 1188 ∧ (K (some (yi (I1 104 (yadd 462 x1).toNat))) (N, T, R, I1))) ∧ (¬ (x2 = 4) → (x2 = 5 → 0 ≤ (yadd 342 x1) ∧ (yadd 342 x1) < 1188 ∧ (K (some (yi (I1 104 (yadd 342 x1).toNat))) (N, T, R, I1))) ∧ (¬ (x2 = 5) → (x2 = 6 → 0 ≤ (yadd 478 x1) ∧ (yadd 478 x1) < 1188 ∧ (K (some (yi (I1 104 (yadd 478 x1).toNat))) (N, T, R, I1))) ∧ (¬ (x2 = 6) → (x2 = 7 → 0 ≤ (yadd 494 x1) ∧ (yadd 494 x1) < 1188 ∧ (K (some (yi (I1 104 (yadd 494 x1).toNat))) (N, T, R, I1))) ∧ (¬ (x2 = 7) → (x2 = 8 → 0 ≤ (yadd 502 x1) ∧ (yadd 502 x1) < 1188 ∧ (K (some (yi (I1 104 (yadd 502 x1).toNat))) (N, T, R, I1))) ∧ (¬ (x2 = 8) → 0 ≤ (yadd 510 x1) ∧ (yadd 510 x1) < 1188 ∧ (K (some (yi (I1 104 (yadd 510 x1).toNat))) (N, T, R, I1)))))))))))) ∧ (¬ (r2 = 0) → K (some (yi 0)) (N, T, R, I1)))) 0 0 0 [(0, yr (some 102)), (1, yi t0)] [] (N, T, R, I)) :
    yW l zSS D cy zFk z (d + 1) 167 bc bs K 0 0 24 [(0, yr (some 102)), (1, yi x1), (2, yi x2)] [yi t0, yr (some 102)] (N, T, R, I) := by
  refine e_130 (f_167 (pc := 24) (e := (24, 130, 247, 0, 11, 272, 1247, 27)) rfl) zA (as := [yr (some 102), yi t0]) (rest := []) rfl rfl rfl rfl (Nat.le_of_ble_eq_true rfl) (Nat.le_of_ble_eq_true rfl) ⟨_, _, _, rfl, (hT 102 rfl)⟩ (mc := 0) (ms := 0) (Nat.zero_le _) (Nat.zero_le _) ?_
  refine e_K ?_ F
  rintro r h' ⟨r2, I1, rfl, rfl, F⟩
  refine e_60 (f_167 (pc := 27) (e := (27, 60, 32, 0, 0, 0, 0, 30)) rfl) (fun c3 => ?_) (fun c3 => ?_)
  · replace F := F.1 c3
    refine e_10 (f_167 (pc := 32) (e := (32, 10, 2, 0, 0, 0, 0, 33)) rfl) rfl ?_
    refine e_83 (f_167 (pc := 33) (e := (33, 83, 2147483648, 9, 11, 0, 0, 183)) rfl) (v := x2) (low := 0) rfl ?_
    by_cases c4 : x2 = 0
    · replace F := F.1 c4
      rw [show ySw 0 (yTg zGG 11) 183 x2 = 84 from by rw [c4]; rfl]
      refine e_12 (f_167 (pc := 84) (e := (84, 12, 0, 0, 0, 0, 0, 85)) rfl) rfl ?_
      refine e_90r zA (f_167 (pc := 85) (e := (85, 90, 11, 6, 3, 33, 1159, 88)) rfl) rfl (hT 102 rfl) rfl rfl (hR 102 6 rfl) ?_
      refine e_2 (f_167 (pc := 88) (e := (88, 2, 470, 0, 0, 0, 0, 91)) rfl) (v := 470) rfl ?_
      refine e_10 (f_167 (pc := 91) (e := (91, 10, 1, 0, 0, 0, 0, 92)) rfl) rfl ?_
      refine e_30 (f_167 (pc := 92) (e := (92, 30, 0, 0, 0, 0, 0, 93)) rfl) ?_
      obtain ⟨b5, b6, F⟩ := F
      refine e_110 (f_167 (pc := 93) (e := (93, 110, 0, 0, 0, 0, 0, 94)) rfl) rfl (hT 104 rfl) b5 b6 ?_
      exact e_120 (f_167 (pc := 94) (e := (94, 120, 0, 0, 0, 0, 0, 95)) rfl) F
    · replace F := F.2 c4
      by_cases c7 : x2 = 1
      · replace F := F.1 c7
        rw [show ySw 0 (yTg zGG 11) 183 x2 = 95 from by rw [c7]; rfl]
        refine e_12 (f_167 (pc := 95) (e := (95, 12, 0, 0, 0, 0, 0, 96)) rfl) rfl ?_
        refine e_90r zA (f_167 (pc := 96) (e := (96, 90, 11, 6, 3, 33, 1159, 99)) rfl) rfl (hT 102 rfl) rfl rfl (hR 102 6 rfl) ?_
        refine e_2 (f_167 (pc := 99) (e := (99, 2, 310, 0, 0, 0, 0, 102)) rfl) (v := 310) rfl ?_
        refine e_10 (f_167 (pc := 102) (e := (102, 10, 1, 0, 0, 0, 0, 103)) rfl) rfl ?_
        refine e_30 (f_167 (pc := 103) (e := (103, 30, 0, 0, 0, 0, 0, 104)) rfl) ?_
        obtain ⟨b8, b9, F⟩ := F
        refine e_110 (f_167 (pc := 104) (e := (104, 110, 0, 0, 0, 0, 0, 105)) rfl) rfl (hT 104 rfl) b8 b9 ?_
        exact e_120 (f_167 (pc := 105) (e := (105, 120, 0, 0, 0, 0, 0, 106)) rfl) F
      · replace F := F.2 c7
        by_cases c10 : x2 = 2
        · replace F := F.1 c10
          rw [show ySw 0 (yTg zGG 11) 183 x2 = 106 from by rw [c10]; rfl]
          refine e_12 (f_167 (pc := 106) (e := (106, 12, 0, 0, 0, 0, 0, 107)) rfl) rfl ?_
          refine e_90r zA (f_167 (pc := 107) (e := (107, 90, 11, 6, 3, 33, 1159, 110)) rfl) rfl (hT 102 rfl) rfl rfl (hR 102 6 rfl) ?_
          refine e_2 (f_167 (pc := 110) (e := (110, 2, 318, 0, 0, 0, 0, 113)) rfl) (v := 318) rfl ?_
          refine e_10 (f_167 (pc := 113) (e := (113, 10, 1, 0, 0, 0, 0, 114)) rfl) rfl ?_
          refine e_30 (f_167 (pc := 114) (e := (114, 30, 0, 0, 0, 0, 0, 115)) rfl) ?_
          obtain ⟨b11, b12, F⟩ := F
          refine e_110 (f_167 (pc := 115) (e := (115, 110, 0, 0, 0, 0, 0, 116)) rfl) rfl (hT 104 rfl) b11 b12 ?_
          exact e_120 (f_167 (pc := 116) (e := (116, 120, 0, 0, 0, 0, 0, 117)) rfl) F
        · replace F := F.2 c10
          by_cases c13 : x2 = 3
          · replace F := F.1 c13
            rw [show ySw 0 (yTg zGG 11) 183 x2 = 117 from by rw [c13]; rfl]
            refine e_12 (f_167 (pc := 117) (e := (117, 12, 0, 0, 0, 0, 0, 118)) rfl) rfl ?_
            refine e_90r zA (f_167 (pc := 118) (e := (118, 90, 11, 6, 3, 33, 1159, 121)) rfl) rfl (hT 102 rfl) rfl rfl (hR 102 6 rfl) ?_
            refine e_2 (f_167 (pc := 121) (e := (121, 2, 334, 0, 0, 0, 0, 124)) rfl) (v := 334) rfl ?_
            refine e_10 (f_167 (pc := 124) (e := (124, 10, 1, 0, 0, 0, 0, 125)) rfl) rfl ?_
            refine e_30 (f_167 (pc := 125) (e := (125, 30, 0, 0, 0, 0, 0, 126)) rfl) ?_
            obtain ⟨b14, b15, F⟩ := F
            refine e_110 (f_167 (pc := 126) (e := (126, 110, 0, 0, 0, 0, 0, 127)) rfl) rfl (hT 104 rfl) b14 b15 ?_
            exact e_120 (f_167 (pc := 127) (e := (127, 120, 0, 0, 0, 0, 0, 128)) rfl) F
          · replace F := F.2 c13
            by_cases c16 : x2 = 4
            · replace F := F.1 c16
              rw [show ySw 0 (yTg zGG 11) 183 x2 = 128 from by rw [c16]; rfl]
              refine e_12 (f_167 (pc := 128) (e := (128, 12, 0, 0, 0, 0, 0, 129)) rfl) rfl ?_
              refine e_90r zA (f_167 (pc := 129) (e := (129, 90, 11, 6, 3, 33, 1159, 132)) rfl) rfl (hT 102 rfl) rfl rfl (hR 102 6 rfl) ?_
              refine e_2 (f_167 (pc := 132) (e := (132, 2, 462, 0, 0, 0, 0, 135)) rfl) (v := 462) rfl ?_
              refine e_10 (f_167 (pc := 135) (e := (135, 10, 1, 0, 0, 0, 0, 136)) rfl) rfl ?_
              refine e_30 (f_167 (pc := 136) (e := (136, 30, 0, 0, 0, 0, 0, 137)) rfl) ?_
              obtain ⟨b17, b18, F⟩ := F
              refine e_110 (f_167 (pc := 137) (e := (137, 110, 0, 0, 0, 0, 0, 138)) rfl) rfl (hT 104 rfl) b17 b18 ?_
              exact e_120 (f_167 (pc := 138) (e := (138, 120, 0, 0, 0, 0, 0, 139)) rfl) F
            · replace F := F.2 c16
              by_cases c19 : x2 = 5
              · replace F := F.1 c19
                rw [show ySw 0 (yTg zGG 11) 183 x2 = 139 from by rw [c19]; rfl]
                refine e_12 (f_167 (pc := 139) (e := (139, 12, 0, 0, 0, 0, 0, 140)) rfl) rfl ?_
                refine e_90r zA (f_167 (pc := 140) (e := (140, 90, 11, 6, 3, 33, 1159, 143)) rfl) rfl (hT 102 rfl) rfl rfl (hR 102 6 rfl) ?_
                refine e_2 (f_167 (pc := 143) (e := (143, 2, 342, 0, 0, 0, 0, 146)) rfl) (v := 342) rfl ?_
                refine e_10 (f_167 (pc := 146) (e := (146, 10, 1, 0, 0, 0, 0, 147)) rfl) rfl ?_
                refine e_30 (f_167 (pc := 147) (e := (147, 30, 0, 0, 0, 0, 0, 148)) rfl) ?_
                obtain ⟨b20, b21, F⟩ := F
                refine e_110 (f_167 (pc := 148) (e := (148, 110, 0, 0, 0, 0, 0, 149)) rfl) rfl (hT 104 rfl) b20 b21 ?_
                exact e_120 (f_167 (pc := 149) (e := (149, 120, 0, 0, 0, 0, 0, 150)) rfl) F
              · replace F := F.2 c19
                by_cases c22 : x2 = 6
                · replace F := F.1 c22
                  rw [show ySw 0 (yTg zGG 11) 183 x2 = 150 from by rw [c22]; rfl]
                  refine e_12 (f_167 (pc := 150) (e := (150, 12, 0, 0, 0, 0, 0, 151)) rfl) rfl ?_
                  refine e_90r zA (f_167 (pc := 151) (e := (151, 90, 11, 6, 3, 33, 1159, 154)) rfl) rfl (hT 102 rfl) rfl rfl (hR 102 6 rfl) ?_
                  refine e_2 (f_167 (pc := 154) (e := (154, 2, 478, 0, 0, 0, 0, 157)) rfl) (v := 478) rfl ?_
                  refine e_10 (f_167 (pc := 157) (e := (157, 10, 1, 0, 0, 0, 0, 158)) rfl) rfl ?_
                  refine e_30 (f_167 (pc := 158) (e := (158, 30, 0, 0, 0, 0, 0, 159)) rfl) ?_
                  obtain ⟨b23, b24, F⟩ := F
                  refine e_110 (f_167 (pc := 159) (e := (159, 110, 0, 0, 0, 0, 0, 160)) rfl) rfl (hT 104 rfl) b23 b24 ?_
                  exact e_120 (f_167 (pc := 160) (e := (160, 120, 0, 0, 0, 0, 0, 161)) rfl) F
                · replace F := F.2 c22
                  by_cases c25 : x2 = 7
                  · replace F := F.1 c25
                    rw [show ySw 0 (yTg zGG 11) 183 x2 = 161 from by rw [c25]; rfl]
                    refine e_12 (f_167 (pc := 161) (e := (161, 12, 0, 0, 0, 0, 0, 162)) rfl) rfl ?_
                    refine e_90r zA (f_167 (pc := 162) (e := (162, 90, 11, 6, 3, 33, 1159, 165)) rfl) rfl (hT 102 rfl) rfl rfl (hR 102 6 rfl) ?_
                    refine e_2 (f_167 (pc := 165) (e := (165, 2, 494, 0, 0, 0, 0, 168)) rfl) (v := 494) rfl ?_
                    refine e_10 (f_167 (pc := 168) (e := (168, 10, 1, 0, 0, 0, 0, 169)) rfl) rfl ?_
                    refine e_30 (f_167 (pc := 169) (e := (169, 30, 0, 0, 0, 0, 0, 170)) rfl) ?_
                    obtain ⟨b26, b27, F⟩ := F
                    refine e_110 (f_167 (pc := 170) (e := (170, 110, 0, 0, 0, 0, 0, 171)) rfl) rfl (hT 104 rfl) b26 b27 ?_
                    exact e_120 (f_167 (pc := 171) (e := (171, 120, 0, 0, 0, 0, 0, 172)) rfl) F
                  · replace F := F.2 c25
                    by_cases c28 : x2 = 8
                    · replace F := F.1 c28
                      rw [show ySw 0 (yTg zGG 11) 183 x2 = 172 from by rw [c28]; rfl]
                      refine e_12 (f_167 (pc := 172) (e := (172, 12, 0, 0, 0, 0, 0, 173)) rfl) rfl ?_
                      refine e_90r zA (f_167 (pc := 173) (e := (173, 90, 11, 6, 3, 33, 1159, 176)) rfl) rfl (hT 102 rfl) rfl rfl (hR 102 6 rfl) ?_
                      refine e_2 (f_167 (pc := 176) (e := (176, 2, 502, 0, 0, 0, 0, 179)) rfl) (v := 502) rfl ?_
                      refine e_10 (f_167 (pc := 179) (e := (179, 10, 1, 0, 0, 0, 0, 180)) rfl) rfl ?_
                      refine e_30 (f_167 (pc := 180) (e := (180, 30, 0, 0, 0, 0, 0, 181)) rfl) ?_
                      obtain ⟨b29, b30, F⟩ := F
                      refine e_110 (f_167 (pc := 181) (e := (181, 110, 0, 0, 0, 0, 0, 182)) rfl) rfl (hT 104 rfl) b29 b30 ?_
                      exact e_120 (f_167 (pc := 182) (e := (182, 120, 0, 0, 0, 0, 0, 183)) rfl) F
                    · replace F := F.2 c28
                      rw [show ySw 0 (yTg zGG 11) 183 x2 = 183 from ySw_out (n := 9) rfl (by omega)]
                      refine e_12 (f_167 (pc := 183) (e := (183, 12, 0, 0, 0, 0, 0, 184)) rfl) rfl ?_
                      refine e_90r zA (f_167 (pc := 184) (e := (184, 90, 11, 6, 3, 33, 1159, 187)) rfl) rfl (hT 102 rfl) rfl rfl (hR 102 6 rfl) ?_
                      refine e_2 (f_167 (pc := 187) (e := (187, 2, 510, 0, 0, 0, 0, 190)) rfl) (v := 510) rfl ?_
                      refine e_10 (f_167 (pc := 190) (e := (190, 10, 1, 0, 0, 0, 0, 191)) rfl) rfl ?_
                      refine e_30 (f_167 (pc := 191) (e := (191, 30, 0, 0, 0, 0, 0, 192)) rfl) ?_
                      obtain ⟨b31, b32, F⟩ := F
                      refine e_110 (f_167 (pc := 192) (e := (192, 110, 0, 0, 0, 0, 0, 193)) rfl) rfl (hT 104 rfl) b31 b32 ?_
                      exact e_120 (f_167 (pc := 193) (e := (193, 120, 0, 0, 0, 0, 0, 0)) rfl) F
  · replace F := F.2 c3
    refine e_0 (f_167 (pc := 30) (e := (30, 0, 0, 0, 0, 0, 0, 31)) rfl) (v := 0) rfl ?_
    exact e_120 (f_167 (pc := 31) (e := (31, 120, 0, 0, 0, 0, 0, 32)) rfl) F

/-! chairsOn(I)I -/
set_option maxRecDepth 20000 in
theorem B_168_0 (hT : yLT T) (hR : yLR R) {x1 : Int} (F : yW l zSS D cy zFk z d 168 bc bs K 0 0 4 [(0, yr (some 102)), (1, yi x1), (2, yi 0), (3, yi 0)] [] (N, T, R, I)) :
    yW l zSS D cy zFk z d 168 bc bs K 0 0 0 [(0, yr (some 102)), (1, yi x1)] [] (N, T, R, I) := by
  refine e_0 (f_168 (pc := 0) (e := (0, 0, 0, 0, 0, 0, 0, 1)) rfl) (v := 0) rfl ?_
  refine e_20 (f_168 (pc := 1) (e := (1, 20, 2, 0, 0, 0, 0, 2)) rfl) ?_
  refine e_0 (f_168 (pc := 2) (e := (2, 0, 0, 0, 0, 0, 0, 3)) rfl) (v := 0) rfl ?_
  refine e_20 (f_168 (pc := 3) (e := (3, 20, 3, 0, 0, 0, 0, 4)) rfl) ?_
  refine e_lo [0, 1, 2, 3] rfl ?_
  exact F
set_option maxRecDepth 20000 in
theorem B_168_4 (hT : yLT T) (hR : yLR R) {x1 x2 x3 : Int} (F : ((I 104 2) ≤ x3 → K (some (yi x2)) (N, T, R, I)) ∧ (¬ ((I 104 2) ≤ x3) → 0 ≤ (yadd 470 x3) ∧ (yadd 470 x3) < 1188 ∧ (((I 104 (yadd 470 x3).toNat) ≠ x1 → yW l zSS D cy zFk z d 168 bc bs K 0 0 4 [(0, yr (some 102)), (1, yi x1), (2, yi (yadd x2 0)), (3, yi (yadd x3 1))] [] (N, T, R, I)) ∧ (¬ ((I 104 (yadd 470 x3).toNat) ≠ x1) → yW l zSS D cy zFk z d 168 bc bs K 0 0 4 [(0, yr (some 102)), (1, yi x1), (2, yi (yadd x2 1)), (3, yi (yadd x3 1))] [] (N, T, R, I))))) :
    yW l zSS D cy zFk z d 168 bc bs K 0 0 4 [(0, yr (some 102)), (1, yi x1), (2, yi x2), (3, yi x3)] [] (N, T, R, I) := by
  refine e_10 (f_168 (pc := 4) (e := (4, 10, 3, 0, 0, 0, 0, 5)) rfl) rfl ?_
  refine e_12 (f_168 (pc := 5) (e := (5, 12, 0, 0, 0, 0, 0, 6)) rfl) rfl ?_
  refine e_90r zA (f_168 (pc := 6) (e := (6, 90, 11, 6, 3, 33, 1159, 9)) rfl) rfl (hT 102 rfl) rfl rfl (hR 102 6 rfl) ?_
  refine e_0 (f_168 (pc := 9) (e := (9, 0, 2, 0, 0, 0, 0, 10)) rfl) (v := 2) rfl ?_
  refine e_110 (f_168 (pc := 10) (e := (10, 110, 0, 0, 0, 0, 0, 11)) rfl) rfl (hT 104 rfl) (by decide) (by decide) ?_
  refine e_73 (f_168 (pc := 11) (e := (11, 73, 42, 0, 0, 0, 0, 14)) rfl) (fun c1 => ?_) (fun c1 => ?_)
  · replace F := F.1 c1
    refine e_10 (f_168 (pc := 42) (e := (42, 10, 2, 0, 0, 0, 0, 43)) rfl) rfl ?_
    exact e_120 (f_168 (pc := 43) (e := (43, 120, 0, 0, 0, 0, 0, 0)) rfl) F
  · replace F := F.2 c1
    refine e_10 (f_168 (pc := 14) (e := (14, 10, 2, 0, 0, 0, 0, 15)) rfl) rfl ?_
    refine e_12 (f_168 (pc := 15) (e := (15, 12, 0, 0, 0, 0, 0, 16)) rfl) rfl ?_
    refine e_90r zA (f_168 (pc := 16) (e := (16, 90, 11, 6, 3, 33, 1159, 19)) rfl) rfl (hT 102 rfl) rfl rfl (hR 102 6 rfl) ?_
    refine e_2 (f_168 (pc := 19) (e := (19, 2, 470, 0, 0, 0, 0, 22)) rfl) (v := 470) rfl ?_
    refine e_10 (f_168 (pc := 22) (e := (22, 10, 3, 0, 0, 0, 0, 23)) rfl) rfl ?_
    refine e_30 (f_168 (pc := 23) (e := (23, 30, 0, 0, 0, 0, 0, 24)) rfl) ?_
    obtain ⟨b2, b3, F⟩ := F
    refine e_110 (f_168 (pc := 24) (e := (24, 110, 0, 0, 0, 0, 0, 25)) rfl) rfl (hT 104 rfl) b2 b3 ?_
    refine e_10 (f_168 (pc := 25) (e := (25, 10, 1, 0, 0, 0, 0, 26)) rfl) rfl ?_
    refine e_71 (f_168 (pc := 26) (e := (26, 71, 33, 0, 0, 0, 0, 29)) rfl) (fun c4 => ?_) (fun c4 => ?_)
    · replace F := F.1 c4
      refine e_0 (f_168 (pc := 33) (e := (33, 0, 0, 0, 0, 0, 0, 34)) rfl) (v := 0) rfl ?_
      refine e_30 (f_168 (pc := 34) (e := (34, 30, 0, 0, 0, 0, 0, 35)) rfl) ?_
      refine e_20 (f_168 (pc := 35) (e := (35, 20, 2, 0, 0, 0, 0, 36)) rfl) ?_
      refine e_26 (f_168 (pc := 36) (e := (36, 26, 3, 1, 0, 0, 0, 39)) rfl) (w := 1) rfl rfl ?_
      refine e_80 (f_168 (pc := 39) (e := (39, 80, 4, 0, 0, 0, 0, 42)) rfl) ?_
      refine e_lo [0, 1, 2, 3] rfl ?_
      exact F
    · replace F := F.2 c4
      refine e_0 (f_168 (pc := 29) (e := (29, 0, 1, 0, 0, 0, 0, 30)) rfl) (v := 1) rfl ?_
      refine e_80 (f_168 (pc := 30) (e := (30, 80, 34, 0, 0, 0, 0, 33)) rfl) ?_
      refine e_30 (f_168 (pc := 34) (e := (34, 30, 0, 0, 0, 0, 0, 35)) rfl) ?_
      refine e_20 (f_168 (pc := 35) (e := (35, 20, 2, 0, 0, 0, 0, 36)) rfl) ?_
      refine e_26 (f_168 (pc := 36) (e := (36, 26, 3, 1, 0, 0, 0, 39)) rfl) (w := 1) rfl rfl ?_
      refine e_80 (f_168 (pc := 39) (e := (39, 80, 4, 0, 0, 0, 0, 42)) rfl) ?_
      refine e_lo [0, 1, 2, 3] rfl ?_
      exact F

/-! code(III)V -/
set_option maxRecDepth 20000 in
theorem B_169_0 (hT : yLT T) (hR : yLR R) {x1 x2 x3 : Int} (F : 0 ≤ (ymul 3 (I 102 48)) ∧ (ymul 3 (I 102 48)) < 135 ∧ (∀ I3, I3 = yU I 106 ((ymul 3 (I 102 48)).toNat) (ynar 1 x1) → (0 ≤ (yadd (ymul 3 (I3 102 48)) 1) ∧ (yadd (ymul 3 (I3 102 48)) 1) < 135 ∧ (∀ I6, I6 = yU I3 106 ((yadd (ymul 3 (I3 102 48)) 1).toNat) (ynar 1 x2) → (0 ≤ (yadd (ymul 3 (I6 102 48)) 2) ∧ (yadd (ymul 3 (I6 102 48)) 2) < 135 ∧ (∀ I9, I9 = yU I6 106 ((yadd (ymul 3 (I6 102 48)) 2).toNat) (ynar 1 x3) → (∀ I10, I10 = yU I9 102 48 (yadd (I9 102 48) 1) → (K none (N, T, R, I10))))))))) :
    yW l zSS D cy zFk z d 169 bc bs K 0 0 0 [(0, yr (some 102)), (1, yi x1), (2, yi x2), (3, yi x3)] [] (N, T, R, I) := by
  refine e_12 (f_169 (pc := 0) (e := (0, 12, 0, 0, 0, 0, 0, 1)) rfl) rfl ?_
  refine e_90r zA (f_169 (pc := 1) (e := (1, 90, 11, 8, 3, 40, 1161, 4)) rfl) rfl (hT 102 rfl) rfl rfl (hR 102 8 rfl) ?_
  refine e_0 (f_169 (pc := 4) (e := (4, 0, 3, 0, 0, 0, 0, 5)) rfl) (v := 3) rfl ?_
  refine e_12 (f_169 (pc := 5) (e := (5, 12, 0, 0, 0, 0, 0, 6)) rfl) rfl ?_
  refine e_90 zA (f_169 (pc := 6) (e := (6, 90, 11, 48, 0, 414, 1250, 9)) rfl) rfl (hT 102 rfl) rfl rfl ?_
  refine e_32 (f_169 (pc := 9) (e := (9, 32, 0, 0, 0, 0, 0, 10)) rfl) ?_
  refine e_10 (f_169 (pc := 10) (e := (10, 10, 1, 0, 0, 0, 0, 11)) rfl) rfl ?_
  obtain ⟨b1, b2, F⟩ := F
  refine e_111 (f_169 (pc := 11) (e := (11, 111, 0, 0, 0, 0, 0, 12)) rfl) rfl (hT 106 rfl) b1 b2 ?_
  replace F := F _ rfl
  refine e_12 (f_169 (pc := 12) (e := (12, 12, 0, 0, 0, 0, 0, 13)) rfl) rfl ?_
  refine e_90r zA (f_169 (pc := 13) (e := (13, 90, 11, 8, 3, 40, 1161, 16)) rfl) rfl (hT 102 rfl) rfl rfl (hR 102 8 rfl) ?_
  refine e_0 (f_169 (pc := 16) (e := (16, 0, 3, 0, 0, 0, 0, 17)) rfl) (v := 3) rfl ?_
  refine e_12 (f_169 (pc := 17) (e := (17, 12, 0, 0, 0, 0, 0, 18)) rfl) rfl ?_
  refine e_90 zA (f_169 (pc := 18) (e := (18, 90, 11, 48, 0, 414, 1250, 21)) rfl) rfl (hT 102 rfl) rfl rfl ?_
  refine e_32 (f_169 (pc := 21) (e := (21, 32, 0, 0, 0, 0, 0, 22)) rfl) ?_
  refine e_0 (f_169 (pc := 22) (e := (22, 0, 1, 0, 0, 0, 0, 23)) rfl) (v := 1) rfl ?_
  refine e_30 (f_169 (pc := 23) (e := (23, 30, 0, 0, 0, 0, 0, 24)) rfl) ?_
  refine e_10 (f_169 (pc := 24) (e := (24, 10, 2, 0, 0, 0, 0, 25)) rfl) rfl ?_
  obtain ⟨b4, b5, F⟩ := F
  refine e_111 (f_169 (pc := 25) (e := (25, 111, 0, 0, 0, 0, 0, 26)) rfl) rfl (hT 106 rfl) b4 b5 ?_
  replace F := F _ rfl
  refine e_12 (f_169 (pc := 26) (e := (26, 12, 0, 0, 0, 0, 0, 27)) rfl) rfl ?_
  refine e_90r zA (f_169 (pc := 27) (e := (27, 90, 11, 8, 3, 40, 1161, 30)) rfl) rfl (hT 102 rfl) rfl rfl (hR 102 8 rfl) ?_
  refine e_0 (f_169 (pc := 30) (e := (30, 0, 3, 0, 0, 0, 0, 31)) rfl) (v := 3) rfl ?_
  refine e_12 (f_169 (pc := 31) (e := (31, 12, 0, 0, 0, 0, 0, 32)) rfl) rfl ?_
  refine e_90 zA (f_169 (pc := 32) (e := (32, 90, 11, 48, 0, 414, 1250, 35)) rfl) rfl (hT 102 rfl) rfl rfl ?_
  refine e_32 (f_169 (pc := 35) (e := (35, 32, 0, 0, 0, 0, 0, 36)) rfl) ?_
  refine e_0 (f_169 (pc := 36) (e := (36, 0, 2, 0, 0, 0, 0, 37)) rfl) (v := 2) rfl ?_
  refine e_30 (f_169 (pc := 37) (e := (37, 30, 0, 0, 0, 0, 0, 38)) rfl) ?_
  refine e_10 (f_169 (pc := 38) (e := (38, 10, 3, 0, 0, 0, 0, 39)) rfl) rfl ?_
  obtain ⟨b7, b8, F⟩ := F
  refine e_111 (f_169 (pc := 39) (e := (39, 111, 0, 0, 0, 0, 0, 40)) rfl) rfl (hT 106 rfl) b7 b8 ?_
  replace F := F _ rfl
  refine e_12 (f_169 (pc := 40) (e := (40, 12, 0, 0, 0, 0, 0, 41)) rfl) rfl ?_
  refine e_50 (f_169 (pc := 41) (e := (41, 50, 0, 0, 0, 0, 0, 42)) rfl) rfl ?_
  refine e_90 zA (f_169 (pc := 42) (e := (42, 90, 11, 48, 0, 414, 1250, 45)) rfl) rfl (hT 102 rfl) rfl rfl ?_
  refine e_0 (f_169 (pc := 45) (e := (45, 0, 1, 0, 0, 0, 0, 46)) rfl) (v := 1) rfl ?_
  refine e_30 (f_169 (pc := 46) (e := (46, 30, 0, 0, 0, 0, 0, 47)) rfl) ?_
  refine e_91 zA (f_169 (pc := 47) (e := (47, 91, 11, 48, 0, 414, 1250, 50)) rfl) rfl (hT 102 rfl) rfl rfl trivial ?_
  replace F := F _ rfl
  exact e_122 (f_169 (pc := 50) (e := (50, 122, 0, 0, 0, 0, 0, 0)) rfl) F

/-! count(I)I -/
set_option maxRecDepth 20000 in
theorem B_170_0 (hT : yLT T) (hR : yLR R) {x1 : Int} (F : ∀ I1, I1 = yU I 102 0 0 → (yW l zSS D cy zFk z d 170 bc bs K 0 0 9 [(0, yr (some 102)), (1, yi x1), (2, yi 0), (3, yi 0)] [] (N, T, R, I1))) :
    yW l zSS D cy zFk z d 170 bc bs K 0 0 0 [(0, yr (some 102)), (1, yi x1)] [] (N, T, R, I) := by
  refine e_12 (f_170 (pc := 0) (e := (0, 12, 0, 0, 0, 0, 0, 1)) rfl) rfl ?_
  refine e_0 (f_170 (pc := 1) (e := (1, 0, 0, 0, 0, 0, 0, 2)) rfl) (v := 0) rfl ?_
  refine e_91 zA (f_170 (pc := 2) (e := (2, 91, 11, 0, 0, 1, 1216, 5)) rfl) rfl (hT 102 rfl) rfl rfl trivial ?_
  replace F := F _ rfl
  refine e_0 (f_170 (pc := 5) (e := (5, 0, 0, 0, 0, 0, 0, 6)) rfl) (v := 0) rfl ?_
  refine e_20 (f_170 (pc := 6) (e := (6, 20, 2, 0, 0, 0, 0, 7)) rfl) ?_
  refine e_0 (f_170 (pc := 7) (e := (7, 0, 0, 0, 0, 0, 0, 8)) rfl) (v := 0) rfl ?_
  refine e_20 (f_170 (pc := 8) (e := (8, 20, 3, 0, 0, 0, 0, 9)) rfl) ?_
  refine e_lo [0, 1, 2, 3] rfl ?_
  exact F
set_option maxRecDepth 20000 in
theorem B_170_9 (hT : yLT T) (hR : yLR R) {x1 x2 x3 : Int} (F : (100 ≤ x3 → (x1 ≠ 6 → (x1 ≠ 7 → (x1 ≠ 8 → yW l zSS D cy zFk z d 191 0 0 (fun r h' => ∃ r6 I5, r = some (yi r6) ∧ h' = (N, T, R, I5) ∧ ((r6 = 0 → K (some (yi (-1))) (N, T, R, I5)) ∧ (¬ (r6 = 0) → 0 ≤ x1 ∧ x1 < 1188 ∧ (K (some (yi (I5 104 x1.toNat))) (N, T, R, I5))))) 0 0 0 [(0, yi x1), (1, yi 0), (2, yi 5)] [] (N, T, R, I)) ∧ (¬ (x1 ≠ 8) → K (some (yi (I 102 2))) (N, T, R, I))) ∧ (¬ (x1 ≠ 7) → K (some (yi (I 104 926))) (N, T, R, I))) ∧ (¬ (x1 ≠ 6) → K (some (yi x2)) (N, T, R, I))) ∧ (¬ (100 ≤ x3) → 0 ≤ (yadd 526 x3) ∧ (yadd 526 x3) < 1188 ∧ (((I 104 (yadd 526 x3).toNat) ≤ 0 → yW l zSS D cy zFk z (d + 1) 170 bc bs K 0 0 9 [(0, yr (some 102)), (1, yi x1), (2, yi (yadd x2 0)), (3, yi (yadd x3 1))] [] (N, T, R, I)) ∧ (¬ ((I 104 (yadd 526 x3).toNat) ≤ 0) → yW l zSS D cy zFk z (d + 1) 170 bc bs K 0 0 9 [(0, yr (some 102)), (1, yi x1), (2, yi (yadd x2 1)), (3, yi (yadd x3 1))] [] (N, T, R, I))))) :
    yW l zSS D cy zFk z (d + 1) 170 bc bs K 0 0 9 [(0, yr (some 102)), (1, yi x1), (2, yi x2), (3, yi x3)] [] (N, T, R, I) := by
  refine e_10 (f_170 (pc := 9) (e := (9, 10, 3, 0, 0, 0, 0, 10)) rfl) rfl ?_
  refine e_1 (f_170 (pc := 10) (e := (10, 1, 100, 0, 0, 0, 0, 12)) rfl) (v := 100) rfl ?_
  refine e_73 (f_170 (pc := 12) (e := (12, 73, 42, 0, 0, 0, 0, 15)) rfl) (fun c1 => ?_) (fun c1 => ?_)
  · replace F := F.1 c1
    refine e_10 (f_170 (pc := 42) (e := (42, 10, 1, 0, 0, 0, 0, 43)) rfl) rfl ?_
    refine e_1 (f_170 (pc := 43) (e := (43, 1, 6, 0, 0, 0, 0, 45)) rfl) (v := 6) rfl ?_
    refine e_71 (f_170 (pc := 45) (e := (45, 71, 52, 0, 0, 0, 0, 48)) rfl) (fun c2 => ?_) (fun c2 => ?_)
    · replace F := F.1 c2
      refine e_10 (f_170 (pc := 52) (e := (52, 10, 1, 0, 0, 0, 0, 53)) rfl) rfl ?_
      refine e_1 (f_170 (pc := 53) (e := (53, 1, 7, 0, 0, 0, 0, 55)) rfl) (v := 7) rfl ?_
      refine e_71 (f_170 (pc := 55) (e := (55, 71, 69, 0, 0, 0, 0, 58)) rfl) (fun c3 => ?_) (fun c3 => ?_)
      · replace F := F.1 c3
        refine e_10 (f_170 (pc := 69) (e := (69, 10, 1, 0, 0, 0, 0, 70)) rfl) rfl ?_
        refine e_1 (f_170 (pc := 70) (e := (70, 1, 8, 0, 0, 0, 0, 72)) rfl) (v := 8) rfl ?_
        refine e_71 (f_170 (pc := 72) (e := (72, 71, 82, 0, 0, 0, 0, 75)) rfl) (fun c4 => ?_) (fun c4 => ?_)
        · replace F := F.1 c4
          refine e_10 (f_170 (pc := 82) (e := (82, 10, 1, 0, 0, 0, 0, 83)) rfl) rfl ?_
          refine e_0 (f_170 (pc := 83) (e := (83, 0, 0, 0, 0, 0, 0, 84)) rfl) (v := 0) rfl ?_
          refine e_0 (f_170 (pc := 84) (e := (84, 0, 5, 0, 0, 0, 0, 85)) rfl) (v := 5) rfl ?_
          refine e_132 (f_170 (pc := 85) (e := (85, 132, 191, 2, 11, 193, 1245, 88)) rfl) zA (as := [yi x1, yi 0, yi 5]) (rest := []) rfl rfl rfl rfl (Nat.le_of_ble_eq_true rfl) (Nat.le_of_ble_eq_true rfl) (mc := 0) (ms := 0) (Nat.zero_le _) (Nat.zero_le _) ?_
          refine e_K ?_ F
          rintro r h' ⟨r6, I5, rfl, rfl, F⟩
          refine e_60 (f_170 (pc := 88) (e := (88, 60, 100, 0, 0, 0, 0, 91)) rfl) (fun c7 => ?_) (fun c7 => ?_)
          · replace F := F.1 c7
            refine e_0 (f_170 (pc := 100) (e := (100, 0, 4294967295, 0, 0, 0, 0, 101)) rfl) (v := (-1)) rfl ?_
            exact e_120 (f_170 (pc := 101) (e := (101, 120, 0, 0, 0, 0, 0, 0)) rfl) F
          · replace F := F.2 c7
            refine e_12 (f_170 (pc := 91) (e := (91, 12, 0, 0, 0, 0, 0, 92)) rfl) rfl ?_
            refine e_90r zA (f_170 (pc := 92) (e := (92, 90, 11, 6, 3, 33, 1159, 95)) rfl) rfl (hT 102 rfl) rfl rfl (hR 102 6 rfl) ?_
            refine e_10 (f_170 (pc := 95) (e := (95, 10, 1, 0, 0, 0, 0, 96)) rfl) rfl ?_
            obtain ⟨b8, b9, F⟩ := F
            refine e_110 (f_170 (pc := 96) (e := (96, 110, 0, 0, 0, 0, 0, 97)) rfl) rfl (hT 104 rfl) b8 b9 ?_
            refine e_80 (f_170 (pc := 97) (e := (97, 80, 101, 0, 0, 0, 0, 100)) rfl) ?_
            exact e_120 (f_170 (pc := 101) (e := (101, 120, 0, 0, 0, 0, 0, 0)) rfl) F
        · replace F := F.2 c4
          refine e_12 (f_170 (pc := 75) (e := (75, 12, 0, 0, 0, 0, 0, 76)) rfl) rfl ?_
          refine e_90 zA (f_170 (pc := 76) (e := (76, 90, 11, 2, 0, 7, 1251, 79)) rfl) rfl (hT 102 rfl) rfl rfl ?_
          refine e_80 (f_170 (pc := 79) (e := (79, 80, 101, 0, 0, 0, 0, 82)) rfl) ?_
          exact e_120 (f_170 (pc := 101) (e := (101, 120, 0, 0, 0, 0, 0, 0)) rfl) F
      · replace F := F.2 c3
        refine e_12 (f_170 (pc := 58) (e := (58, 12, 0, 0, 0, 0, 0, 59)) rfl) rfl ?_
        refine e_90r zA (f_170 (pc := 59) (e := (59, 90, 11, 6, 3, 33, 1159, 62)) rfl) rfl (hT 102 rfl) rfl rfl (hR 102 6 rfl) ?_
        refine e_2 (f_170 (pc := 62) (e := (62, 2, 926, 0, 0, 0, 0, 65)) rfl) (v := 926) rfl ?_
        refine e_110 (f_170 (pc := 65) (e := (65, 110, 0, 0, 0, 0, 0, 66)) rfl) rfl (hT 104 rfl) (by decide) (by decide) ?_
        refine e_80 (f_170 (pc := 66) (e := (66, 80, 101, 0, 0, 0, 0, 69)) rfl) ?_
        exact e_120 (f_170 (pc := 101) (e := (101, 120, 0, 0, 0, 0, 0, 0)) rfl) F
    · replace F := F.2 c2
      refine e_10 (f_170 (pc := 48) (e := (48, 10, 2, 0, 0, 0, 0, 49)) rfl) rfl ?_
      refine e_80 (f_170 (pc := 49) (e := (49, 80, 101, 0, 0, 0, 0, 52)) rfl) ?_
      exact e_120 (f_170 (pc := 101) (e := (101, 120, 0, 0, 0, 0, 0, 0)) rfl) F
  · replace F := F.2 c1
    refine e_10 (f_170 (pc := 15) (e := (15, 10, 2, 0, 0, 0, 0, 16)) rfl) rfl ?_
    refine e_12 (f_170 (pc := 16) (e := (16, 12, 0, 0, 0, 0, 0, 17)) rfl) rfl ?_
    refine e_90r zA (f_170 (pc := 17) (e := (17, 90, 11, 6, 3, 33, 1159, 20)) rfl) rfl (hT 102 rfl) rfl rfl (hR 102 6 rfl) ?_
    refine e_2 (f_170 (pc := 20) (e := (20, 2, 526, 0, 0, 0, 0, 23)) rfl) (v := 526) rfl ?_
    refine e_10 (f_170 (pc := 23) (e := (23, 10, 3, 0, 0, 0, 0, 24)) rfl) rfl ?_
    refine e_30 (f_170 (pc := 24) (e := (24, 30, 0, 0, 0, 0, 0, 25)) rfl) ?_
    obtain ⟨b10, b11, F⟩ := F
    refine e_110 (f_170 (pc := 25) (e := (25, 110, 0, 0, 0, 0, 0, 26)) rfl) rfl (hT 104 rfl) b10 b11 ?_
    refine e_65 (f_170 (pc := 26) (e := (26, 65, 33, 0, 0, 0, 0, 29)) rfl) (fun c12 => ?_) (fun c12 => ?_)
    · replace F := F.1 c12
      refine e_0 (f_170 (pc := 33) (e := (33, 0, 0, 0, 0, 0, 0, 34)) rfl) (v := 0) rfl ?_
      refine e_30 (f_170 (pc := 34) (e := (34, 30, 0, 0, 0, 0, 0, 35)) rfl) ?_
      refine e_20 (f_170 (pc := 35) (e := (35, 20, 2, 0, 0, 0, 0, 36)) rfl) ?_
      refine e_26 (f_170 (pc := 36) (e := (36, 26, 3, 1, 0, 0, 0, 39)) rfl) (w := 1) rfl rfl ?_
      refine e_80 (f_170 (pc := 39) (e := (39, 80, 9, 0, 0, 0, 0, 42)) rfl) ?_
      refine e_lo [0, 1, 2, 3] rfl ?_
      exact F
    · replace F := F.2 c12
      refine e_0 (f_170 (pc := 29) (e := (29, 0, 1, 0, 0, 0, 0, 30)) rfl) (v := 1) rfl ?_
      refine e_80 (f_170 (pc := 30) (e := (30, 80, 34, 0, 0, 0, 0, 33)) rfl) ?_
      refine e_30 (f_170 (pc := 34) (e := (34, 30, 0, 0, 0, 0, 0, 35)) rfl) ?_
      refine e_20 (f_170 (pc := 35) (e := (35, 20, 2, 0, 0, 0, 0, 36)) rfl) ?_
      refine e_26 (f_170 (pc := 36) (e := (36, 26, 3, 1, 0, 0, 0, 39)) rfl) (w := 1) rfl rfl ?_
      refine e_80 (f_170 (pc := 39) (e := (39, 80, 9, 0, 0, 0, 0, 42)) rfl) ?_
      refine e_lo [0, 1, 2, 3] rfl ?_
      exact F

/-! digit(II)I -/
set_option maxRecDepth 20000 in
theorem B_171_0 (hT : yLT T) (hR : yLR R) {x0 x1 : Int} (F : (x1 ≠ 0 → (x1 ≠ 1 → K (some (yi (ydiv x0 1369))) (N, T, R, I)) ∧ (¬ (x1 ≠ 1) → K (some (yi (yrem (ydiv x0 37) 37))) (N, T, R, I))) ∧ (¬ (x1 ≠ 0) → K (some (yi (yrem x0 37))) (N, T, R, I))) :
    yW l zSS D cy zFk z d 171 bc bs K 0 0 0 [(0, yi x0), (1, yi x1)] [] (N, T, R, I) := by
  refine e_10 (f_171 (pc := 0) (e := (0, 10, 1, 0, 0, 0, 0, 1)) rfl) rfl ?_
  refine e_61 (f_171 (pc := 1) (e := (1, 61, 11, 0, 0, 0, 0, 4)) rfl) (fun c1 => ?_) (fun c1 => ?_)
  · replace F := F.1 c1
    refine e_10 (f_171 (pc := 11) (e := (11, 10, 1, 0, 0, 0, 0, 12)) rfl) rfl ?_
    refine e_0 (f_171 (pc := 12) (e := (12, 0, 1, 0, 0, 0, 0, 13)) rfl) (v := 1) rfl ?_
    refine e_71 (f_171 (pc := 13) (e := (13, 71, 26, 0, 0, 0, 0, 16)) rfl) (fun c2 => ?_) (fun c2 => ?_)
    · replace F := F.1 c2
      refine e_10 (f_171 (pc := 26) (e := (26, 10, 0, 0, 0, 0, 0, 27)) rfl) rfl ?_
      refine e_2 (f_171 (pc := 27) (e := (27, 2, 1369, 0, 0, 0, 0, 30)) rfl) (v := 1369) rfl ?_
      refine e_33 (f_171 (pc := 30) (e := (30, 33, 0, 0, 0, 0, 0, 31)) rfl) (by decide) ?_
      exact e_120 (f_171 (pc := 31) (e := (31, 120, 0, 0, 0, 0, 0, 0)) rfl) F
    · replace F := F.2 c2
      refine e_10 (f_171 (pc := 16) (e := (16, 10, 0, 0, 0, 0, 0, 17)) rfl) rfl ?_
      refine e_1 (f_171 (pc := 17) (e := (17, 1, 37, 0, 0, 0, 0, 19)) rfl) (v := 37) rfl ?_
      refine e_33 (f_171 (pc := 19) (e := (19, 33, 0, 0, 0, 0, 0, 20)) rfl) (by decide) ?_
      refine e_1 (f_171 (pc := 20) (e := (20, 1, 37, 0, 0, 0, 0, 22)) rfl) (v := 37) rfl ?_
      refine e_34 (f_171 (pc := 22) (e := (22, 34, 0, 0, 0, 0, 0, 23)) rfl) (by decide) ?_
      refine e_80 (f_171 (pc := 23) (e := (23, 80, 31, 0, 0, 0, 0, 26)) rfl) ?_
      exact e_120 (f_171 (pc := 31) (e := (31, 120, 0, 0, 0, 0, 0, 0)) rfl) F
  · replace F := F.2 c1
    refine e_10 (f_171 (pc := 4) (e := (4, 10, 0, 0, 0, 0, 0, 5)) rfl) rfl ?_
    refine e_1 (f_171 (pc := 5) (e := (5, 1, 37, 0, 0, 0, 0, 7)) rfl) (v := 37) rfl ?_
    refine e_34 (f_171 (pc := 7) (e := (7, 34, 0, 0, 0, 0, 0, 8)) rfl) (by decide) ?_
    refine e_80 (f_171 (pc := 8) (e := (8, 80, 31, 0, 0, 0, 0, 11)) rfl) ?_
    exact e_120 (f_171 (pc := 31) (e := (31, 120, 0, 0, 0, 0, 0, 0)) rfl) F

/-! dirOfWord()I -/
set_option maxRecDepth 20000 in
theorem B_172_0 (hT : yLT T) (hR : yLR R) (F : yW l zSS D cy zFk z d 199 0 0 (fun r h' => ∃ r2 I1, r = some (yi r2) ∧ h' = (N, T, R, I1) ∧ ((r2 = 0 → yW l zSS D cy zFk z d 199 0 0 (fun r h' => ∃ r5 I4, r = some (yi r5) ∧ h' = (N, T, R, I4) ∧ ((r5 = 0 → yW l zSS D cy zFk z d 199 0 0 (fun r h' => ∃ r8 I7, r = some (yi r8) ∧ h' = (N, T, R, I7) ∧ ((r8 = 0 → yW l zSS D cy zFk z d 199 0 0 (fun r h' => ∃ r11 I10, r = some (yi r11) ∧ h' = (N, T, R, I10) ∧ ((r11 = 0 → K (some (yi (-1))) (N, T, R, I10)) ∧ (¬ (r11 = 0) → K (some (yi 3)) (N, T, R, I10)))) 0 0 0 [(0, yr (some 102)), (1, yj 119)] [] (N, T, R, I7)) ∧ (¬ (r8 = 0) → K (some (yi 2)) (N, T, R, I7)))) 0 0 0 [(0, yr (some 102)), (1, yj 115)] [] (N, T, R, I4)) ∧ (¬ (r5 = 0) → K (some (yi 1)) (N, T, R, I4)))) 0 0 0 [(0, yr (some 102)), (1, yj 101)] [] (N, T, R, I1)) ∧ (¬ (r2 = 0) → K (some (yi 0)) (N, T, R, I1)))) 0 0 0 [(0, yr (some 102)), (1, yj 110)] [] (N, T, R, I)) :
    yW l zSS D cy zFk z (d + 1) 172 bc bs K 0 0 0 [(0, yr (some 102))] [] (N, T, R, I) := by
  refine e_12 (f_172 (pc := 0) (e := (0, 12, 0, 0, 0, 0, 0, 1)) rfl) rfl ?_
  refine e_5 (f_172 (pc := 1) (e := (1, 5, 110, 0, 0, 127, 1194, 4)) rfl) (v := 110) rfl ?_
  refine e_130 (f_172 (pc := 4) (e := (4, 130, 199, 0, 11, 204, 1238, 7)) rfl) zA (as := [yr (some 102), yj 110]) (rest := []) rfl rfl rfl rfl (Nat.le_of_ble_eq_true rfl) (Nat.le_of_ble_eq_true rfl) ⟨_, _, _, rfl, (hT 102 rfl)⟩ (mc := 0) (ms := 0) (Nat.zero_le _) (Nat.zero_le _) ?_
  refine e_K ?_ F
  rintro r h' ⟨r2, I1, rfl, rfl, F⟩
  refine e_60 (f_172 (pc := 7) (e := (7, 60, 14, 0, 0, 0, 0, 10)) rfl) (fun c3 => ?_) (fun c3 => ?_)
  · replace F := F.1 c3
    refine e_12 (f_172 (pc := 14) (e := (14, 12, 0, 0, 0, 0, 0, 15)) rfl) rfl ?_
    refine e_5 (f_172 (pc := 15) (e := (15, 5, 101, 0, 0, 129, 1195, 18)) rfl) (v := 101) rfl ?_
    refine e_130 (f_172 (pc := 18) (e := (18, 130, 199, 0, 11, 204, 1238, 21)) rfl) zA (as := [yr (some 102), yj 101]) (rest := []) rfl rfl rfl rfl (Nat.le_of_ble_eq_true rfl) (Nat.le_of_ble_eq_true rfl) ⟨_, _, _, rfl, (hT 102 rfl)⟩ (mc := 0) (ms := 0) (Nat.zero_le _) (Nat.zero_le _) ?_
    refine e_K ?_ F
    rintro r h' ⟨r5, I4, rfl, rfl, F⟩
    refine e_60 (f_172 (pc := 21) (e := (21, 60, 28, 0, 0, 0, 0, 24)) rfl) (fun c6 => ?_) (fun c6 => ?_)
    · replace F := F.1 c6
      refine e_12 (f_172 (pc := 28) (e := (28, 12, 0, 0, 0, 0, 0, 29)) rfl) rfl ?_
      refine e_5 (f_172 (pc := 29) (e := (29, 5, 115, 0, 0, 131, 1196, 32)) rfl) (v := 115) rfl ?_
      refine e_130 (f_172 (pc := 32) (e := (32, 130, 199, 0, 11, 204, 1238, 35)) rfl) zA (as := [yr (some 102), yj 115]) (rest := []) rfl rfl rfl rfl (Nat.le_of_ble_eq_true rfl) (Nat.le_of_ble_eq_true rfl) ⟨_, _, _, rfl, (hT 102 rfl)⟩ (mc := 0) (ms := 0) (Nat.zero_le _) (Nat.zero_le _) ?_
      refine e_K ?_ F
      rintro r h' ⟨r8, I7, rfl, rfl, F⟩
      refine e_60 (f_172 (pc := 35) (e := (35, 60, 42, 0, 0, 0, 0, 38)) rfl) (fun c9 => ?_) (fun c9 => ?_)
      · replace F := F.1 c9
        refine e_12 (f_172 (pc := 42) (e := (42, 12, 0, 0, 0, 0, 0, 43)) rfl) rfl ?_
        refine e_5 (f_172 (pc := 43) (e := (43, 5, 119, 0, 0, 133, 1197, 46)) rfl) (v := 119) rfl ?_
        refine e_130 (f_172 (pc := 46) (e := (46, 130, 199, 0, 11, 204, 1238, 49)) rfl) zA (as := [yr (some 102), yj 119]) (rest := []) rfl rfl rfl rfl (Nat.le_of_ble_eq_true rfl) (Nat.le_of_ble_eq_true rfl) ⟨_, _, _, rfl, (hT 102 rfl)⟩ (mc := 0) (ms := 0) (Nat.zero_le _) (Nat.zero_le _) ?_
        refine e_K ?_ F
        rintro r h' ⟨r11, I10, rfl, rfl, F⟩
        refine e_60 (f_172 (pc := 49) (e := (49, 60, 56, 0, 0, 0, 0, 52)) rfl) (fun c12 => ?_) (fun c12 => ?_)
        · replace F := F.1 c12
          refine e_0 (f_172 (pc := 56) (e := (56, 0, 4294967295, 0, 0, 0, 0, 57)) rfl) (v := (-1)) rfl ?_
          exact e_120 (f_172 (pc := 57) (e := (57, 120, 0, 0, 0, 0, 0, 0)) rfl) F
        · replace F := F.2 c12
          refine e_0 (f_172 (pc := 52) (e := (52, 0, 3, 0, 0, 0, 0, 53)) rfl) (v := 3) rfl ?_
          refine e_80 (f_172 (pc := 53) (e := (53, 80, 57, 0, 0, 0, 0, 56)) rfl) ?_
          exact e_120 (f_172 (pc := 57) (e := (57, 120, 0, 0, 0, 0, 0, 0)) rfl) F
      · replace F := F.2 c9
        refine e_0 (f_172 (pc := 38) (e := (38, 0, 2, 0, 0, 0, 0, 39)) rfl) (v := 2) rfl ?_
        refine e_80 (f_172 (pc := 39) (e := (39, 80, 57, 0, 0, 0, 0, 42)) rfl) ?_
        exact e_120 (f_172 (pc := 57) (e := (57, 120, 0, 0, 0, 0, 0, 0)) rfl) F
    · replace F := F.2 c6
      refine e_0 (f_172 (pc := 24) (e := (24, 0, 1, 0, 0, 0, 0, 25)) rfl) (v := 1) rfl ?_
      refine e_80 (f_172 (pc := 25) (e := (25, 80, 57, 0, 0, 0, 0, 28)) rfl) ?_
      exact e_120 (f_172 (pc := 57) (e := (57, 120, 0, 0, 0, 0, 0, 0)) rfl) F
  · replace F := F.2 c3
    refine e_0 (f_172 (pc := 10) (e := (10, 0, 0, 0, 0, 0, 0, 11)) rfl) (v := 0) rfl ?_
    refine e_80 (f_172 (pc := 11) (e := (11, 80, 57, 0, 0, 0, 0, 14)) rfl) ?_
    exact e_120 (f_172 (pc := 57) (e := (57, 120, 0, 0, 0, 0, 0, 0)) rfl) F

/-! does(II)I -/
set_option maxRecDepth 20000 in
theorem B_173_0 (hT : yLT T) (hR : yLR R) {x1 x2 : Int} (F : 0 ≤ (yadd 470 x1) ∧ (yadd 470 x1) < 1188 ∧ ((0 ≤ (I 104 (yadd 470 x1).toNat) → 0 ≤ (yadd 470 x1) ∧ (yadd 470 x1) < 1188 ∧ (yW l zSS D cy zFk z d 242 0 0 (fun r h' => ∃ r7 I6, r = some (yi r7) ∧ h' = (N, T, R, I6) ∧ ((0 ≤ r7 → yW l zSS D cy zFk z d 183 0 0 (fun r h' => ∃ r10 I9, r = some (yi r10) ∧ h' = (N, T, R, I9) ∧ ((r10 ≠ 0 → 0 ≤ (yadd 470 x1) ∧ (yadd 470 x1) < 1188 ∧ (0 ≤ (yadd 486 x1) ∧ (yadd 486 x1) < 1188 ∧ (∀ I16, I16 = yU I9 104 ((yadd 486 x1).toNat) (ynar 1 (I9 104 (yadd 470 x1).toNat)) → (0 ≤ (yadd 470 x1) ∧ (yadd 470 x1) < 1188 ∧ (∀ I19, I19 = yU I16 104 ((yadd 470 x1).toNat) (ynar 1 r7) → (0 ≤ (yadd 478 x1) ∧ (yadd 478 x1) < 1188 ∧ (0 ≤ (yadd 478 x1) ∧ (yadd 478 x1) < 1188 ∧ (∀ I24, I24 = yU I19 104 ((yadd 478 x1).toNat) (ynar 1 (yadd (I19 104 (yadd 478 x1).toNat) 1)) → (0 ≤ (yadd 334 x1) ∧ (yadd 334 x1) < 1188 ∧ ((r7 = (I24 104 (yadd 334 x1).toNat) → 0 ≤ (yadd 470 x1) ∧ (yadd 470 x1) < 1188 ∧ (∀ I30, I30 = yU I24 104 ((yadd 470 x1).toNat) (ynar 1 (-1)) → (0 ≤ (yadd 510 x1) ∧ (yadd 510 x1) < 1188 ∧ (∀ I33, I33 = yU I30 104 ((yadd 510 x1).toNat) (ynar 1 (I30 104 458)) → (K (some (yi 0)) (N, T, R, I33)))))) ∧ (¬ (r7 = (I24 104 (yadd 334 x1).toNat)) → K (some (yi 0)) (N, T, R, I24)))))))))))) ∧ (¬ (r10 ≠ 0) → K (some (yi 3)) (N, T, R, I9)))) 0 0 0 [(0, yr (some 102)), (1, yi r7)] [] (N, T, R, I6)) ∧ (¬ (0 ≤ r7) → K (some (yi 2)) (N, T, R, I6)))) 0 0 0 [(0, yr (some 102)), (1, yi (I 104 (yadd 470 x1).toNat)), (2, yi x2)] [] (N, T, R, I))) ∧ (¬ (0 ≤ (I 104 (yadd 470 x1).toNat)) → K (some (yi 1)) (N, T, R, I)))) :
    yW l zSS D cy zFk z (d + 1) 173 bc bs K 0 0 0 [(0, yr (some 102)), (1, yi x1), (2, yi x2)] [] (N, T, R, I) := by
  refine e_12 (f_173 (pc := 0) (e := (0, 12, 0, 0, 0, 0, 0, 1)) rfl) rfl ?_
  refine e_90r zA (f_173 (pc := 1) (e := (1, 90, 11, 6, 3, 33, 1159, 4)) rfl) rfl (hT 102 rfl) rfl rfl (hR 102 6 rfl) ?_
  refine e_2 (f_173 (pc := 4) (e := (4, 2, 470, 0, 0, 0, 0, 7)) rfl) (v := 470) rfl ?_
  refine e_10 (f_173 (pc := 7) (e := (7, 10, 1, 0, 0, 0, 0, 8)) rfl) rfl ?_
  refine e_30 (f_173 (pc := 8) (e := (8, 30, 0, 0, 0, 0, 0, 9)) rfl) ?_
  obtain ⟨b1, b2, F⟩ := F
  refine e_110 (f_173 (pc := 9) (e := (9, 110, 0, 0, 0, 0, 0, 10)) rfl) rfl (hT 104 rfl) b1 b2 ?_
  refine e_63 (f_173 (pc := 10) (e := (10, 63, 15, 0, 0, 0, 0, 13)) rfl) (fun c3 => ?_) (fun c3 => ?_)
  · replace F := F.1 c3
    refine e_12 (f_173 (pc := 15) (e := (15, 12, 0, 0, 0, 0, 0, 16)) rfl) rfl ?_
    refine e_12 (f_173 (pc := 16) (e := (16, 12, 0, 0, 0, 0, 0, 17)) rfl) rfl ?_
    refine e_90r zA (f_173 (pc := 17) (e := (17, 90, 11, 6, 3, 33, 1159, 20)) rfl) rfl (hT 102 rfl) rfl rfl (hR 102 6 rfl) ?_
    refine e_2 (f_173 (pc := 20) (e := (20, 2, 470, 0, 0, 0, 0, 23)) rfl) (v := 470) rfl ?_
    refine e_10 (f_173 (pc := 23) (e := (23, 10, 1, 0, 0, 0, 0, 24)) rfl) rfl ?_
    refine e_30 (f_173 (pc := 24) (e := (24, 30, 0, 0, 0, 0, 0, 25)) rfl) ?_
    obtain ⟨b4, b5, F⟩ := F
    refine e_110 (f_173 (pc := 25) (e := (25, 110, 0, 0, 0, 0, 0, 26)) rfl) rfl (hT 104 rfl) b4 b5 ?_
    refine e_10 (f_173 (pc := 26) (e := (26, 10, 2, 0, 0, 0, 0, 27)) rfl) rfl ?_
    refine e_130 (f_173 (pc := 27) (e := (27, 130, 242, 0, 11, 282, 1252, 30)) rfl) zA (as := [yr (some 102), yi _, yi x2]) (rest := []) rfl rfl rfl rfl (Nat.le_of_ble_eq_true rfl) (Nat.le_of_ble_eq_true rfl) ⟨_, _, _, rfl, (hT 102 rfl)⟩ (mc := 0) (ms := 0) (Nat.zero_le _) (Nat.zero_le _) ?_
    refine e_K ?_ F
    rintro r h' ⟨r7, I6, rfl, rfl, F⟩
    refine e_20 (f_173 (pc := 30) (e := (30, 20, 3, 0, 0, 0, 0, 31)) rfl) ?_
    refine e_10 (f_173 (pc := 31) (e := (31, 10, 3, 0, 0, 0, 0, 32)) rfl) rfl ?_
    refine e_63 (f_173 (pc := 32) (e := (32, 63, 37, 0, 0, 0, 0, 35)) rfl) (fun c8 => ?_) (fun c8 => ?_)
    · replace F := F.1 c8
      refine e_12 (f_173 (pc := 37) (e := (37, 12, 0, 0, 0, 0, 0, 38)) rfl) rfl ?_
      refine e_10 (f_173 (pc := 38) (e := (38, 10, 3, 0, 0, 0, 0, 39)) rfl) rfl ?_
      refine e_130 (f_173 (pc := 39) (e := (39, 130, 183, 0, 11, 304, 1213, 42)) rfl) zA (as := [yr (some 102), yi r7]) (rest := []) rfl rfl rfl rfl (Nat.le_of_ble_eq_true rfl) (Nat.le_of_ble_eq_true rfl) ⟨_, _, _, rfl, (hT 102 rfl)⟩ (mc := 0) (ms := 0) (Nat.zero_le _) (Nat.zero_le _) ?_
      refine e_K ?_ F
      rintro r h' ⟨r10, I9, rfl, rfl, F⟩
      refine e_61 (f_173 (pc := 42) (e := (42, 61, 47, 0, 0, 0, 0, 45)) rfl) (fun c11 => ?_) (fun c11 => ?_)
      · replace F := F.1 c11
        refine e_12 (f_173 (pc := 47) (e := (47, 12, 0, 0, 0, 0, 0, 48)) rfl) rfl ?_
        refine e_90r zA (f_173 (pc := 48) (e := (48, 90, 11, 6, 3, 33, 1159, 51)) rfl) rfl (hT 102 rfl) rfl rfl (hR 102 6 rfl) ?_
        refine e_2 (f_173 (pc := 51) (e := (51, 2, 486, 0, 0, 0, 0, 54)) rfl) (v := 486) rfl ?_
        refine e_10 (f_173 (pc := 54) (e := (54, 10, 1, 0, 0, 0, 0, 55)) rfl) rfl ?_
        refine e_30 (f_173 (pc := 55) (e := (55, 30, 0, 0, 0, 0, 0, 56)) rfl) ?_
        refine e_12 (f_173 (pc := 56) (e := (56, 12, 0, 0, 0, 0, 0, 57)) rfl) rfl ?_
        refine e_90r zA (f_173 (pc := 57) (e := (57, 90, 11, 6, 3, 33, 1159, 60)) rfl) rfl (hT 102 rfl) rfl rfl (hR 102 6 rfl) ?_
        refine e_2 (f_173 (pc := 60) (e := (60, 2, 470, 0, 0, 0, 0, 63)) rfl) (v := 470) rfl ?_
        refine e_10 (f_173 (pc := 63) (e := (63, 10, 1, 0, 0, 0, 0, 64)) rfl) rfl ?_
        refine e_30 (f_173 (pc := 64) (e := (64, 30, 0, 0, 0, 0, 0, 65)) rfl) ?_
        obtain ⟨b12, b13, F⟩ := F
        refine e_110 (f_173 (pc := 65) (e := (65, 110, 0, 0, 0, 0, 0, 66)) rfl) rfl (hT 104 rfl) b12 b13 ?_
        obtain ⟨b14, b15, F⟩ := F
        refine e_111 (f_173 (pc := 66) (e := (66, 111, 0, 0, 0, 0, 0, 67)) rfl) rfl (hT 104 rfl) b14 b15 ?_
        replace F := F _ rfl
        refine e_12 (f_173 (pc := 67) (e := (67, 12, 0, 0, 0, 0, 0, 68)) rfl) rfl ?_
        refine e_90r zA (f_173 (pc := 68) (e := (68, 90, 11, 6, 3, 33, 1159, 71)) rfl) rfl (hT 102 rfl) rfl rfl (hR 102 6 rfl) ?_
        refine e_2 (f_173 (pc := 71) (e := (71, 2, 470, 0, 0, 0, 0, 74)) rfl) (v := 470) rfl ?_
        refine e_10 (f_173 (pc := 74) (e := (74, 10, 1, 0, 0, 0, 0, 75)) rfl) rfl ?_
        refine e_30 (f_173 (pc := 75) (e := (75, 30, 0, 0, 0, 0, 0, 76)) rfl) ?_
        refine e_10 (f_173 (pc := 76) (e := (76, 10, 3, 0, 0, 0, 0, 77)) rfl) rfl ?_
        obtain ⟨b17, b18, F⟩ := F
        refine e_111 (f_173 (pc := 77) (e := (77, 111, 0, 0, 0, 0, 0, 78)) rfl) rfl (hT 104 rfl) b17 b18 ?_
        replace F := F _ rfl
        refine e_12 (f_173 (pc := 78) (e := (78, 12, 0, 0, 0, 0, 0, 79)) rfl) rfl ?_
        refine e_90r zA (f_173 (pc := 79) (e := (79, 90, 11, 6, 3, 33, 1159, 82)) rfl) rfl (hT 102 rfl) rfl rfl (hR 102 6 rfl) ?_
        refine e_2 (f_173 (pc := 82) (e := (82, 2, 478, 0, 0, 0, 0, 85)) rfl) (v := 478) rfl ?_
        refine e_10 (f_173 (pc := 85) (e := (85, 10, 1, 0, 0, 0, 0, 86)) rfl) rfl ?_
        refine e_30 (f_173 (pc := 86) (e := (86, 30, 0, 0, 0, 0, 0, 87)) rfl) ?_
        refine e_51 (f_173 (pc := 87) (e := (87, 51, 0, 0, 0, 0, 0, 88)) rfl) rfl rfl ?_
        obtain ⟨b20, b21, F⟩ := F
        refine e_110 (f_173 (pc := 88) (e := (88, 110, 0, 0, 0, 0, 0, 89)) rfl) rfl (hT 104 rfl) b20 b21 ?_
        refine e_0 (f_173 (pc := 89) (e := (89, 0, 1, 0, 0, 0, 0, 90)) rfl) (v := 1) rfl ?_
        refine e_30 (f_173 (pc := 90) (e := (90, 30, 0, 0, 0, 0, 0, 91)) rfl) ?_
        obtain ⟨b22, b23, F⟩ := F
        refine e_111 (f_173 (pc := 91) (e := (91, 111, 0, 0, 0, 0, 0, 92)) rfl) rfl (hT 104 rfl) b22 b23 ?_
        replace F := F _ rfl
        refine e_10 (f_173 (pc := 92) (e := (92, 10, 3, 0, 0, 0, 0, 93)) rfl) rfl ?_
        refine e_12 (f_173 (pc := 93) (e := (93, 12, 0, 0, 0, 0, 0, 94)) rfl) rfl ?_
        refine e_90r zA (f_173 (pc := 94) (e := (94, 90, 11, 6, 3, 33, 1159, 97)) rfl) rfl (hT 102 rfl) rfl rfl (hR 102 6 rfl) ?_
        refine e_2 (f_173 (pc := 97) (e := (97, 2, 334, 0, 0, 0, 0, 100)) rfl) (v := 334) rfl ?_
        refine e_10 (f_173 (pc := 100) (e := (100, 10, 1, 0, 0, 0, 0, 101)) rfl) rfl ?_
        refine e_30 (f_173 (pc := 101) (e := (101, 30, 0, 0, 0, 0, 0, 102)) rfl) ?_
        obtain ⟨b25, b26, F⟩ := F
        refine e_110 (f_173 (pc := 102) (e := (102, 110, 0, 0, 0, 0, 0, 103)) rfl) rfl (hT 104 rfl) b25 b26 ?_
        refine e_70 (f_173 (pc := 103) (e := (103, 70, 108, 0, 0, 0, 0, 106)) rfl) (fun c27 => ?_) (fun c27 => ?_)
        · replace F := F.1 c27
          refine e_12 (f_173 (pc := 108) (e := (108, 12, 0, 0, 0, 0, 0, 109)) rfl) rfl ?_
          refine e_90r zA (f_173 (pc := 109) (e := (109, 90, 11, 6, 3, 33, 1159, 112)) rfl) rfl (hT 102 rfl) rfl rfl (hR 102 6 rfl) ?_
          refine e_2 (f_173 (pc := 112) (e := (112, 2, 470, 0, 0, 0, 0, 115)) rfl) (v := 470) rfl ?_
          refine e_10 (f_173 (pc := 115) (e := (115, 10, 1, 0, 0, 0, 0, 116)) rfl) rfl ?_
          refine e_30 (f_173 (pc := 116) (e := (116, 30, 0, 0, 0, 0, 0, 117)) rfl) ?_
          refine e_0 (f_173 (pc := 117) (e := (117, 0, 4294967295, 0, 0, 0, 0, 118)) rfl) (v := (-1)) rfl ?_
          obtain ⟨b28, b29, F⟩ := F
          refine e_111 (f_173 (pc := 118) (e := (118, 111, 0, 0, 0, 0, 0, 119)) rfl) rfl (hT 104 rfl) b28 b29 ?_
          replace F := F _ rfl
          refine e_12 (f_173 (pc := 119) (e := (119, 12, 0, 0, 0, 0, 0, 120)) rfl) rfl ?_
          refine e_90r zA (f_173 (pc := 120) (e := (120, 90, 11, 6, 3, 33, 1159, 123)) rfl) rfl (hT 102 rfl) rfl rfl (hR 102 6 rfl) ?_
          refine e_2 (f_173 (pc := 123) (e := (123, 2, 510, 0, 0, 0, 0, 126)) rfl) (v := 510) rfl ?_
          refine e_10 (f_173 (pc := 126) (e := (126, 10, 1, 0, 0, 0, 0, 127)) rfl) rfl ?_
          refine e_30 (f_173 (pc := 127) (e := (127, 30, 0, 0, 0, 0, 0, 128)) rfl) ?_
          refine e_12 (f_173 (pc := 128) (e := (128, 12, 0, 0, 0, 0, 0, 129)) rfl) rfl ?_
          refine e_90r zA (f_173 (pc := 129) (e := (129, 90, 11, 6, 3, 33, 1159, 132)) rfl) rfl (hT 102 rfl) rfl rfl (hR 102 6 rfl) ?_
          refine e_2 (f_173 (pc := 132) (e := (132, 2, 458, 0, 0, 0, 0, 135)) rfl) (v := 458) rfl ?_
          refine e_110 (f_173 (pc := 135) (e := (135, 110, 0, 0, 0, 0, 0, 136)) rfl) rfl (hT 104 rfl) (by decide) (by decide) ?_
          obtain ⟨b31, b32, F⟩ := F
          refine e_111 (f_173 (pc := 136) (e := (136, 111, 0, 0, 0, 0, 0, 137)) rfl) rfl (hT 104 rfl) b31 b32 ?_
          replace F := F _ rfl
          refine e_0 (f_173 (pc := 137) (e := (137, 0, 0, 0, 0, 0, 0, 138)) rfl) (v := 0) rfl ?_
          exact e_120 (f_173 (pc := 138) (e := (138, 120, 0, 0, 0, 0, 0, 0)) rfl) F
        · replace F := F.2 c27
          refine e_0 (f_173 (pc := 106) (e := (106, 0, 0, 0, 0, 0, 0, 107)) rfl) (v := 0) rfl ?_
          exact e_120 (f_173 (pc := 107) (e := (107, 120, 0, 0, 0, 0, 0, 108)) rfl) F
      · replace F := F.2 c11
        refine e_0 (f_173 (pc := 45) (e := (45, 0, 3, 0, 0, 0, 0, 46)) rfl) (v := 3) rfl ?_
        exact e_120 (f_173 (pc := 46) (e := (46, 120, 0, 0, 0, 0, 0, 47)) rfl) F
    · replace F := F.2 c8
      refine e_0 (f_173 (pc := 35) (e := (35, 0, 2, 0, 0, 0, 0, 36)) rfl) (v := 2) rfl ?_
      exact e_120 (f_173 (pc := 36) (e := (36, 120, 0, 0, 0, 0, 0, 37)) rfl) F
  · replace F := F.2 c3
    refine e_0 (f_173 (pc := 13) (e := (13, 0, 1, 0, 0, 0, 0, 14)) rfl) (v := 1) rfl ?_
    exact e_120 (f_173 (pc := 14) (e := (14, 120, 0, 0, 0, 0, 0, 15)) rfl) F

/-! drawn(I)Z -/
set_option maxRecDepth 20000 in
theorem B_175_0 (hT : yLT T) (hR : yLR R) {x1 : Int} (F : ∀ I1, I1 = yU I 102 0 0 → (((I1 104 2) ≠ 0 → yW l zSS D cy zFk z d 203 0 0 (fun r h' => ∃ I3, r = none ∧ h' = (N, T, R, I3) ∧ (yW l zSS D cy zFk z d 239 0 0 (fun r h' => ∃ I4, r = none ∧ h' = (N, T, R, I4) ∧ (yW l zSS D cy zFk z d 161 0 0 (fun r h' => ∃ I5, r = none ∧ h' = (N, T, R, I5) ∧ (K (some (yi 1)) (N, T, R, I5))) 0 0 0 [(0, yr (some 102))] [] (N, T, R, I4))) 0 0 0 [(0, yr (some 102)), (1, yi x1)] [] (N, T, R, I3))) 0 0 0 [(0, yr (some 102))] [] (N, T, R, I1)) ∧ (¬ ((I1 104 2) ≠ 0) → K (some (yi 0)) (N, T, R, I1)))) :
    yW l zSS D cy zFk z (d + 1) 175 bc bs K 0 0 0 [(0, yr (some 102)), (1, yi x1)] [] (N, T, R, I) := by
  refine e_12 (f_175 (pc := 0) (e := (0, 12, 0, 0, 0, 0, 0, 1)) rfl) rfl ?_
  refine e_0 (f_175 (pc := 1) (e := (1, 0, 0, 0, 0, 0, 0, 2)) rfl) (v := 0) rfl ?_
  refine e_91 zA (f_175 (pc := 2) (e := (2, 91, 11, 0, 0, 1, 1216, 5)) rfl) rfl (hT 102 rfl) rfl rfl trivial ?_
  replace F := F _ rfl
  refine e_12 (f_175 (pc := 5) (e := (5, 12, 0, 0, 0, 0, 0, 6)) rfl) rfl ?_
  refine e_90r zA (f_175 (pc := 6) (e := (6, 90, 11, 6, 3, 33, 1159, 9)) rfl) rfl (hT 102 rfl) rfl rfl (hR 102 6 rfl) ?_
  refine e_0 (f_175 (pc := 9) (e := (9, 0, 2, 0, 0, 0, 0, 10)) rfl) (v := 2) rfl ?_
  refine e_110 (f_175 (pc := 10) (e := (10, 110, 0, 0, 0, 0, 0, 11)) rfl) rfl (hT 104 rfl) (by decide) (by decide) ?_
  refine e_61 (f_175 (pc := 11) (e := (11, 61, 16, 0, 0, 0, 0, 14)) rfl) (fun c2 => ?_) (fun c2 => ?_)
  · replace F := F.1 c2
    refine e_12 (f_175 (pc := 16) (e := (16, 12, 0, 0, 0, 0, 0, 17)) rfl) rfl ?_
    refine e_130 (f_175 (pc := 17) (e := (17, 130, 203, 0, 11, 342, 1255, 20)) rfl) zA (as := [yr (some 102)]) (rest := []) rfl rfl rfl rfl (Nat.le_of_ble_eq_true rfl) (Nat.le_of_ble_eq_true rfl) ⟨_, _, _, rfl, (hT 102 rfl)⟩ (mc := 0) (ms := 0) (Nat.zero_le _) (Nat.zero_le _) ?_
    refine e_K ?_ F
    rintro r h' ⟨I3, rfl, rfl, F⟩
    refine e_12 (f_175 (pc := 20) (e := (20, 12, 0, 0, 0, 0, 0, 21)) rfl) rfl ?_
    refine e_10 (f_175 (pc := 21) (e := (21, 10, 1, 0, 0, 0, 0, 22)) rfl) rfl ?_
    refine e_130 (f_175 (pc := 22) (e := (22, 130, 239, 0, 11, 402, 1256, 25)) rfl) zA (as := [yr (some 102), yi x1]) (rest := []) rfl rfl rfl rfl (Nat.le_of_ble_eq_true rfl) (Nat.le_of_ble_eq_true rfl) ⟨_, _, _, rfl, (hT 102 rfl)⟩ (mc := 0) (ms := 0) (Nat.zero_le _) (Nat.zero_le _) ?_
    refine e_K ?_ F
    rintro r h' ⟨I4, rfl, rfl, F⟩
    refine e_12 (f_175 (pc := 25) (e := (25, 12, 0, 0, 0, 0, 0, 26)) rfl) rfl ?_
    refine e_130 (f_175 (pc := 26) (e := (26, 130, 161, 0, 11, 256, 1229, 29)) rfl) zA (as := [yr (some 102)]) (rest := []) rfl rfl rfl rfl (Nat.le_of_ble_eq_true rfl) (Nat.le_of_ble_eq_true rfl) ⟨_, _, _, rfl, (hT 102 rfl)⟩ (mc := 0) (ms := 0) (Nat.zero_le _) (Nat.zero_le _) ?_
    refine e_K ?_ F
    rintro r h' ⟨I5, rfl, rfl, F⟩
    refine e_0 (f_175 (pc := 29) (e := (29, 0, 1, 0, 0, 0, 0, 30)) rfl) (v := 1) rfl ?_
    exact e_121 (f_175 (pc := 30) (e := (30, 121, 0, 0, 0, 0, 0, 0)) rfl) (.inr rfl) F
  · replace F := F.2 c2
    refine e_0 (f_175 (pc := 14) (e := (14, 0, 0, 0, 0, 0, 0, 15)) rfl) (v := 0) rfl ?_
    exact e_121 (f_175 (pc := 15) (e := (15, 121, 0, 0, 0, 0, 0, 16)) rfl) (.inl rfl) F

/-! end(I)Z -/
set_option maxRecDepth 20000 in
theorem B_176_0 (hT : yLT T) (hR : yLR R) {x1 : Int} (F : ∀ I1, I1 = yU I 102 0 0 → ((x1 < 0 → K (some (yi 0)) (N, T, R, I1)) ∧ (¬ (x1 < 0) → (x1 ≤ (I1 102 2) → ∀ I4, I4 = yU I1 102 2 x1 → (K (some (yi 1)) (N, T, R, I4))) ∧ (¬ (x1 ≤ (I1 102 2)) → K (some (yi 0)) (N, T, R, I1))))) :
    yW l zSS D cy zFk z d 176 bc bs K 0 0 0 [(0, yr (some 102)), (1, yi x1)] [] (N, T, R, I) := by
  refine e_12 (f_176 (pc := 0) (e := (0, 12, 0, 0, 0, 0, 0, 1)) rfl) rfl ?_
  refine e_0 (f_176 (pc := 1) (e := (1, 0, 0, 0, 0, 0, 0, 2)) rfl) (v := 0) rfl ?_
  refine e_91 zA (f_176 (pc := 2) (e := (2, 91, 11, 0, 0, 1, 1216, 5)) rfl) rfl (hT 102 rfl) rfl rfl trivial ?_
  replace F := F _ rfl
  refine e_10 (f_176 (pc := 5) (e := (5, 10, 1, 0, 0, 0, 0, 6)) rfl) rfl ?_
  refine e_62 (f_176 (pc := 6) (e := (6, 62, 17, 0, 0, 0, 0, 9)) rfl) (fun c2 => ?_) (fun c2 => ?_)
  · replace F := F.1 c2
    refine e_0 (f_176 (pc := 17) (e := (17, 0, 0, 0, 0, 0, 0, 18)) rfl) (v := 0) rfl ?_
    exact e_121 (f_176 (pc := 18) (e := (18, 121, 0, 0, 0, 0, 0, 19)) rfl) (.inl rfl) F
  · replace F := F.2 c2
    refine e_10 (f_176 (pc := 9) (e := (9, 10, 1, 0, 0, 0, 0, 10)) rfl) rfl ?_
    refine e_12 (f_176 (pc := 10) (e := (10, 12, 0, 0, 0, 0, 0, 11)) rfl) rfl ?_
    refine e_90 zA (f_176 (pc := 11) (e := (11, 90, 11, 2, 0, 7, 1251, 14)) rfl) rfl (hT 102 rfl) rfl rfl ?_
    refine e_75 (f_176 (pc := 14) (e := (14, 75, 19, 0, 0, 0, 0, 17)) rfl) (fun c3 => ?_) (fun c3 => ?_)
    · replace F := F.1 c3
      refine e_12 (f_176 (pc := 19) (e := (19, 12, 0, 0, 0, 0, 0, 20)) rfl) rfl ?_
      refine e_10 (f_176 (pc := 20) (e := (20, 10, 1, 0, 0, 0, 0, 21)) rfl) rfl ?_
      refine e_91 zA (f_176 (pc := 21) (e := (21, 91, 11, 2, 0, 7, 1251, 24)) rfl) rfl (hT 102 rfl) rfl rfl trivial ?_
      replace F := F _ rfl
      refine e_0 (f_176 (pc := 24) (e := (24, 0, 1, 0, 0, 0, 0, 25)) rfl) (v := 1) rfl ?_
      exact e_121 (f_176 (pc := 25) (e := (25, 121, 0, 0, 0, 0, 0, 0)) rfl) (.inr rfl) F
    · replace F := F.2 c3
      refine e_0 (f_176 (pc := 17) (e := (17, 0, 0, 0, 0, 0, 0, 18)) rfl) (v := 0) rfl ?_
      exact e_121 (f_176 (pc := 18) (e := (18, 121, 0, 0, 0, 0, 0, 19)) rfl) (.inl rfl) F

/-! fails(I)I -/
set_option maxRecDepth 20000 in
theorem B_177_0 (hT : yLT T) (hR : yLR R) {x1 : Int} (F : yW l zSS D cy zFk z d 159 0 0 (fun r h' => ∃ r2 I1, r = some (yi r2) ∧ h' = (N, T, R, I1) ∧ (K (some (yi (ysub (-1) (I1 102 16)))) (N, T, R, I1))) 0 0 0 [(0, yr (some 102)), (1, yi x1)] [] (N, T, R, I)) :
    yW l zSS D cy zFk z (d + 1) 177 bc bs K 0 0 0 [(0, yr (some 102)), (1, yi x1)] [] (N, T, R, I) := by
  refine e_12 (f_177 (pc := 0) (e := (0, 12, 0, 0, 0, 0, 0, 1)) rfl) rfl ?_
  refine e_10 (f_177 (pc := 1) (e := (1, 10, 1, 0, 0, 0, 0, 2)) rfl) rfl ?_
  refine e_130 (f_177 (pc := 2) (e := (2, 130, 159, 0, 11, 187, 1243, 5)) rfl) zA (as := [yr (some 102), yi x1]) (rest := []) rfl rfl rfl rfl (Nat.le_of_ble_eq_true rfl) (Nat.le_of_ble_eq_true rfl) ⟨_, _, _, rfl, (hT 102 rfl)⟩ (mc := 0) (ms := 0) (Nat.zero_le _) (Nat.zero_le _) ?_
  refine e_K ?_ F
  rintro r h' ⟨r2, I1, rfl, rfl, F⟩
  refine e_52 (f_177 (pc := 5) (e := (5, 52, 0, 0, 0, 0, 0, 6)) rfl) rfl ?_
  refine e_0 (f_177 (pc := 6) (e := (6, 0, 4294967295, 0, 0, 0, 0, 7)) rfl) (v := (-1)) rfl ?_
  refine e_12 (f_177 (pc := 7) (e := (7, 12, 0, 0, 0, 0, 0, 8)) rfl) rfl ?_
  refine e_90 zA (f_177 (pc := 8) (e := (8, 90, 11, 16, 0, 181, 1228, 11)) rfl) rfl (hT 102 rfl) rfl rfl ?_
  refine e_31 (f_177 (pc := 11) (e := (11, 31, 0, 0, 0, 0, 0, 12)) rfl) ?_
  exact e_120 (f_177 (pc := 12) (e := (12, 120, 0, 0, 0, 0, 0, 0)) rfl) F

/-! fault()I -/
set_option maxRecDepth 20000 in
theorem B_178_0 (hT : yLT T) (hR : yLR R) (F : ∀ I1, I1 = yU I 102 0 0 → (K (some (yi (I1 102 15))) (N, T, R, I1))) :
    yW l zSS D cy zFk z d 178 bc bs K 0 0 0 [(0, yr (some 102))] [] (N, T, R, I) := by
  refine e_12 (f_178 (pc := 0) (e := (0, 12, 0, 0, 0, 0, 0, 1)) rfl) rfl ?_
  refine e_0 (f_178 (pc := 1) (e := (1, 0, 0, 0, 0, 0, 0, 2)) rfl) (v := 0) rfl ?_
  refine e_91 zA (f_178 (pc := 2) (e := (2, 91, 11, 0, 0, 1, 1216, 5)) rfl) rfl (hT 102 rfl) rfl rfl trivial ?_
  replace F := F _ rfl
  refine e_12 (f_178 (pc := 5) (e := (5, 12, 0, 0, 0, 0, 0, 6)) rfl) rfl ?_
  refine e_90 zA (f_178 (pc := 6) (e := (6, 90, 11, 15, 0, 178, 1218, 9)) rfl) rfl (hT 102 rfl) rfl rfl ?_
  exact e_120 (f_178 (pc := 9) (e := (9, 120, 0, 0, 0, 0, 0, 0)) rfl) F

/-! feed(IIIII)I -/
set_option maxRecDepth 20000 in
theorem B_179_0 (hT : yLT T) (hR : yLR R) {x1 x2 x3 x4 x5 : Int} (F : ∀ I1, I1 = yU I 102 0 0 → (((yadd (I1 102 2) 20) ≤ 940 → yW l zSS D cy zFk z d 181 0 0 (fun r h' => ∃ I3, r = none ∧ h' = (N, T, R, I3) ∧ (yW l zSS D cy zFk z d 181 0 0 (fun r h' => ∃ I4, r = none ∧ h' = (N, T, R, I4) ∧ (yW l zSS D cy zFk z d 181 0 0 (fun r h' => ∃ I5, r = none ∧ h' = (N, T, R, I5) ∧ (yW l zSS D cy zFk z d 181 0 0 (fun r h' => ∃ I6, r = none ∧ h' = (N, T, R, I6) ∧ (yW l zSS D cy zFk z d 181 0 0 (fun r h' => ∃ I7, r = none ∧ h' = (N, T, R, I7) ∧ (K (some (yi (I7 102 2))) (N, T, R, I7))) 0 0 0 [(0, yr (some 102)), (1, yi x5)] [] (N, T, R, I6))) 0 0 0 [(0, yr (some 102)), (1, yi x4)] [] (N, T, R, I5))) 0 0 0 [(0, yr (some 102)), (1, yi x3)] [] (N, T, R, I4))) 0 0 0 [(0, yr (some 102)), (1, yi x2)] [] (N, T, R, I3))) 0 0 0 [(0, yr (some 102)), (1, yi x1)] [] (N, T, R, I1)) ∧ (¬ ((yadd (I1 102 2) 20) ≤ 940) → K (some (yi (-1))) (N, T, R, I1)))) :
    yW l zSS D cy zFk z (d + 1) 179 bc bs K 0 0 0 [(0, yr (some 102)), (1, yi x1), (2, yi x2), (3, yi x3), (4, yi x4), (5, yi x5)] [] (N, T, R, I) := by
  refine e_12 (f_179 (pc := 0) (e := (0, 12, 0, 0, 0, 0, 0, 1)) rfl) rfl ?_
  refine e_0 (f_179 (pc := 1) (e := (1, 0, 0, 0, 0, 0, 0, 2)) rfl) (v := 0) rfl ?_
  refine e_91 zA (f_179 (pc := 2) (e := (2, 91, 11, 0, 0, 1, 1216, 5)) rfl) rfl (hT 102 rfl) rfl rfl trivial ?_
  replace F := F _ rfl
  refine e_12 (f_179 (pc := 5) (e := (5, 12, 0, 0, 0, 0, 0, 6)) rfl) rfl ?_
  refine e_90 zA (f_179 (pc := 6) (e := (6, 90, 11, 2, 0, 7, 1251, 9)) rfl) rfl (hT 102 rfl) rfl rfl ?_
  refine e_1 (f_179 (pc := 9) (e := (9, 1, 20, 0, 0, 0, 0, 11)) rfl) (v := 20) rfl ?_
  refine e_30 (f_179 (pc := 11) (e := (11, 30, 0, 0, 0, 0, 0, 12)) rfl) ?_
  refine e_2 (f_179 (pc := 12) (e := (12, 2, 940, 0, 0, 0, 0, 15)) rfl) (v := 940) rfl ?_
  refine e_75 (f_179 (pc := 15) (e := (15, 75, 20, 0, 0, 0, 0, 18)) rfl) (fun c2 => ?_) (fun c2 => ?_)
  · replace F := F.1 c2
    refine e_12 (f_179 (pc := 20) (e := (20, 12, 0, 0, 0, 0, 0, 21)) rfl) rfl ?_
    refine e_10 (f_179 (pc := 21) (e := (21, 10, 1, 0, 0, 0, 0, 22)) rfl) rfl ?_
    refine e_130 (f_179 (pc := 22) (e := (22, 130, 181, 0, 11, 10, 1257, 25)) rfl) zA (as := [yr (some 102), yi x1]) (rest := []) rfl rfl rfl rfl (Nat.le_of_ble_eq_true rfl) (Nat.le_of_ble_eq_true rfl) ⟨_, _, _, rfl, (hT 102 rfl)⟩ (mc := 0) (ms := 0) (Nat.zero_le _) (Nat.zero_le _) ?_
    refine e_K ?_ F
    rintro r h' ⟨I3, rfl, rfl, F⟩
    refine e_12 (f_179 (pc := 25) (e := (25, 12, 0, 0, 0, 0, 0, 26)) rfl) rfl ?_
    refine e_10 (f_179 (pc := 26) (e := (26, 10, 2, 0, 0, 0, 0, 27)) rfl) rfl ?_
    refine e_130 (f_179 (pc := 27) (e := (27, 130, 181, 0, 11, 10, 1257, 30)) rfl) zA (as := [yr (some 102), yi x2]) (rest := []) rfl rfl rfl rfl (Nat.le_of_ble_eq_true rfl) (Nat.le_of_ble_eq_true rfl) ⟨_, _, _, rfl, (hT 102 rfl)⟩ (mc := 0) (ms := 0) (Nat.zero_le _) (Nat.zero_le _) ?_
    refine e_K ?_ F
    rintro r h' ⟨I4, rfl, rfl, F⟩
    refine e_12 (f_179 (pc := 30) (e := (30, 12, 0, 0, 0, 0, 0, 31)) rfl) rfl ?_
    refine e_10 (f_179 (pc := 31) (e := (31, 10, 3, 0, 0, 0, 0, 32)) rfl) rfl ?_
    refine e_130 (f_179 (pc := 32) (e := (32, 130, 181, 0, 11, 10, 1257, 35)) rfl) zA (as := [yr (some 102), yi x3]) (rest := []) rfl rfl rfl rfl (Nat.le_of_ble_eq_true rfl) (Nat.le_of_ble_eq_true rfl) ⟨_, _, _, rfl, (hT 102 rfl)⟩ (mc := 0) (ms := 0) (Nat.zero_le _) (Nat.zero_le _) ?_
    refine e_K ?_ F
    rintro r h' ⟨I5, rfl, rfl, F⟩
    refine e_12 (f_179 (pc := 35) (e := (35, 12, 0, 0, 0, 0, 0, 36)) rfl) rfl ?_
    refine e_11 (f_179 (pc := 36) (e := (36, 11, 4, 0, 0, 0, 0, 38)) rfl) rfl ?_
    refine e_130 (f_179 (pc := 38) (e := (38, 130, 181, 0, 11, 10, 1257, 41)) rfl) zA (as := [yr (some 102), yi x4]) (rest := []) rfl rfl rfl rfl (Nat.le_of_ble_eq_true rfl) (Nat.le_of_ble_eq_true rfl) ⟨_, _, _, rfl, (hT 102 rfl)⟩ (mc := 0) (ms := 0) (Nat.zero_le _) (Nat.zero_le _) ?_
    refine e_K ?_ F
    rintro r h' ⟨I6, rfl, rfl, F⟩
    refine e_12 (f_179 (pc := 41) (e := (41, 12, 0, 0, 0, 0, 0, 42)) rfl) rfl ?_
    refine e_11 (f_179 (pc := 42) (e := (42, 11, 5, 0, 0, 0, 0, 44)) rfl) rfl ?_
    refine e_130 (f_179 (pc := 44) (e := (44, 130, 181, 0, 11, 10, 1257, 47)) rfl) zA (as := [yr (some 102), yi x5]) (rest := []) rfl rfl rfl rfl (Nat.le_of_ble_eq_true rfl) (Nat.le_of_ble_eq_true rfl) ⟨_, _, _, rfl, (hT 102 rfl)⟩ (mc := 0) (ms := 0) (Nat.zero_le _) (Nat.zero_le _) ?_
    refine e_K ?_ F
    rintro r h' ⟨I7, rfl, rfl, F⟩
    refine e_12 (f_179 (pc := 47) (e := (47, 12, 0, 0, 0, 0, 0, 48)) rfl) rfl ?_
    refine e_90 zA (f_179 (pc := 48) (e := (48, 90, 11, 2, 0, 7, 1251, 51)) rfl) rfl (hT 102 rfl) rfl rfl ?_
    exact e_120 (f_179 (pc := 51) (e := (51, 120, 0, 0, 0, 0, 0, 0)) rfl) F
  · replace F := F.2 c2
    refine e_0 (f_179 (pc := 18) (e := (18, 0, 4294967295, 0, 0, 0, 0, 19)) rfl) (v := (-1)) rfl ?_
    exact e_120 (f_179 (pc := 19) (e := (19, 120, 0, 0, 0, 0, 0, 20)) rfl) F

/-! find(II)I -/
set_option maxRecDepth 20000 in
theorem B_180_0 (hT : yLT T) (hR : yLR R) {x1 x2 : Int} (F : yW l zSS D cy zFk z d 180 bc bs K 0 0 2 [(0, yr (some 102)), (1, yi x1), (2, yi x2), (3, yi 0)] [] (N, T, R, I)) :
    yW l zSS D cy zFk z d 180 bc bs K 0 0 0 [(0, yr (some 102)), (1, yi x1), (2, yi x2)] [] (N, T, R, I) := by
  refine e_0 (f_180 (pc := 0) (e := (0, 0, 0, 0, 0, 0, 0, 1)) rfl) (v := 0) rfl ?_
  refine e_20 (f_180 (pc := 1) (e := (1, 20, 3, 0, 0, 0, 0, 2)) rfl) ?_
  refine e_lo [0, 1, 2, 3] rfl ?_
  exact F
set_option maxRecDepth 20000 in
theorem B_180_2 (hT : yLT T) (hR : yLR R) {x1 x2 x3 : Int} (F : (x2 ≤ x3 → K (some (yi (-1))) (N, T, R, I)) ∧ (¬ (x2 ≤ x3) → 0 ≤ (yadd x1 x3) ∧ (yadd x1 x3) < 16 ∧ (((ylcmp (I 107 (yadd x1 x3).toNat) (I 102 17)) ≠ 0 → yW l zSS D cy zFk z d 180 bc bs K 0 0 2 [(0, yr (some 102)), (1, yi x1), (2, yi x2), (3, yi (yadd x3 1))] [] (N, T, R, I)) ∧ (¬ ((ylcmp (I 107 (yadd x1 x3).toNat) (I 102 17)) ≠ 0) → K (some (yi x3)) (N, T, R, I))))) :
    yW l zSS D cy zFk z d 180 bc bs K 0 0 2 [(0, yr (some 102)), (1, yi x1), (2, yi x2), (3, yi x3)] [] (N, T, R, I) := by
  refine e_10 (f_180 (pc := 2) (e := (2, 10, 3, 0, 0, 0, 0, 3)) rfl) rfl ?_
  refine e_10 (f_180 (pc := 3) (e := (3, 10, 2, 0, 0, 0, 0, 4)) rfl) rfl ?_
  refine e_73 (f_180 (pc := 4) (e := (4, 73, 31, 0, 0, 0, 0, 7)) rfl) (fun c1 => ?_) (fun c1 => ?_)
  · replace F := F.1 c1
    refine e_0 (f_180 (pc := 31) (e := (31, 0, 4294967295, 0, 0, 0, 0, 32)) rfl) (v := (-1)) rfl ?_
    exact e_120 (f_180 (pc := 32) (e := (32, 120, 0, 0, 0, 0, 0, 0)) rfl) F
  · replace F := F.2 c1
    refine e_12 (f_180 (pc := 7) (e := (7, 12, 0, 0, 0, 0, 0, 8)) rfl) rfl ?_
    refine e_90r zA (f_180 (pc := 8) (e := (8, 90, 11, 9, 3, 43, 1162, 11)) rfl) rfl (hT 102 rfl) rfl rfl (hR 102 9 rfl) ?_
    refine e_10 (f_180 (pc := 11) (e := (11, 10, 1, 0, 0, 0, 0, 12)) rfl) rfl ?_
    refine e_10 (f_180 (pc := 12) (e := (12, 10, 3, 0, 0, 0, 0, 13)) rfl) rfl ?_
    refine e_30 (f_180 (pc := 13) (e := (13, 30, 0, 0, 0, 0, 0, 14)) rfl) ?_
    obtain ⟨b2, b3, F⟩ := F
    refine e_114 (f_180 (pc := 14) (e := (14, 114, 0, 0, 0, 0, 0, 15)) rfl) rfl (hT 107 rfl) b2 b3 ?_
    refine e_12 (f_180 (pc := 15) (e := (15, 12, 0, 0, 0, 0, 0, 16)) rfl) rfl ?_
    refine e_90 zA (f_180 (pc := 16) (e := (16, 90, 11, 17, 1, 174, 1258, 19)) rfl) rfl (hT 102 rfl) rfl rfl ?_
    refine e_55 (f_180 (pc := 19) (e := (19, 55, 0, 0, 0, 0, 0, 20)) rfl) ?_
    refine e_61 (f_180 (pc := 20) (e := (20, 61, 25, 0, 0, 0, 0, 23)) rfl) (fun c4 => ?_) (fun c4 => ?_)
    · replace F := F.1 c4
      refine e_26 (f_180 (pc := 25) (e := (25, 26, 3, 1, 0, 0, 0, 28)) rfl) (w := 1) rfl rfl ?_
      refine e_80 (f_180 (pc := 28) (e := (28, 80, 2, 0, 0, 0, 0, 31)) rfl) ?_
      refine e_lo [0, 1, 2, 3] rfl ?_
      exact F
    · replace F := F.2 c4
      refine e_10 (f_180 (pc := 23) (e := (23, 10, 3, 0, 0, 0, 0, 24)) rfl) rfl ?_
      exact e_120 (f_180 (pc := 24) (e := (24, 120, 0, 0, 0, 0, 0, 25)) rfl) F

/-! four(I)V -/
set_option maxRecDepth 20000 in
theorem B_181_0 (hT : yLT T) (hR : yLR R) {x1 : Int} (F : yW l zSS D cy zFk z d 181 bc bs K 0 0 3 [(0, yr (some 102)), (1, yi x1), (2, yi 24)] [] (N, T, R, I)) :
    yW l zSS D cy zFk z d 181 bc bs K 0 0 0 [(0, yr (some 102)), (1, yi x1)] [] (N, T, R, I) := by
  refine e_1 (f_181 (pc := 0) (e := (0, 1, 24, 0, 0, 0, 0, 2)) rfl) (v := 24) rfl ?_
  refine e_20 (f_181 (pc := 2) (e := (2, 20, 2, 0, 0, 0, 0, 3)) rfl) ?_
  refine e_lo [0, 1, 2] rfl ?_
  exact F
set_option maxRecDepth 20000 in
theorem B_181_3 (hT : yLT T) (hR : yLR R) {x1 x2 : Int} (F : (x2 < 0 → K none (N, T, R, I)) ∧ (¬ (x2 < 0) → 0 ≤ (I 102 2) ∧ (I 102 2) < 940 ∧ (∀ I4, I4 = yU I 103 ((I 102 2).toNat) (ynar 0 (yi2b (yshr x1 x2))) → (∀ I5, I5 = yU I4 102 2 (yadd (I4 102 2) 1) → (yW l zSS D cy zFk z d 181 bc bs K 0 0 3 [(0, yr (some 102)), (1, yi x1), (2, yi (yadd x2 (-8)))] [] (N, T, R, I5)))))) :
    yW l zSS D cy zFk z d 181 bc bs K 0 0 3 [(0, yr (some 102)), (1, yi x1), (2, yi x2)] [] (N, T, R, I) := by
  refine e_10 (f_181 (pc := 3) (e := (3, 10, 2, 0, 0, 0, 0, 4)) rfl) rfl ?_
  refine e_62 (f_181 (pc := 4) (e := (4, 62, 36, 0, 0, 0, 0, 7)) rfl) (fun c1 => ?_) (fun c1 => ?_)
  · replace F := F.1 c1
    exact e_122 (f_181 (pc := 36) (e := (36, 122, 0, 0, 0, 0, 0, 0)) rfl) F
  · replace F := F.2 c1
    refine e_12 (f_181 (pc := 7) (e := (7, 12, 0, 0, 0, 0, 0, 8)) rfl) rfl ?_
    refine e_90r zA (f_181 (pc := 8) (e := (8, 90, 11, 1, 3, 14, 1158, 11)) rfl) rfl (hT 102 rfl) rfl rfl (hR 102 1 rfl) ?_
    refine e_12 (f_181 (pc := 11) (e := (11, 12, 0, 0, 0, 0, 0, 12)) rfl) rfl ?_
    refine e_90 zA (f_181 (pc := 12) (e := (12, 90, 11, 2, 0, 7, 1251, 15)) rfl) rfl (hT 102 rfl) rfl rfl ?_
    refine e_10 (f_181 (pc := 15) (e := (15, 10, 1, 0, 0, 0, 0, 16)) rfl) rfl ?_
    refine e_10 (f_181 (pc := 16) (e := (16, 10, 2, 0, 0, 0, 0, 17)) rfl) rfl ?_
    refine e_39 (f_181 (pc := 17) (e := (17, 39, 0, 0, 0, 0, 0, 18)) rfl) ?_
    refine e_40 (f_181 (pc := 18) (e := (18, 40, 0, 0, 0, 0, 0, 19)) rfl) ?_
    obtain ⟨b2, b3, F⟩ := F
    refine e_113 (f_181 (pc := 19) (e := (19, 113, 0, 0, 0, 0, 0, 20)) rfl) rfl (hT 103 rfl) b2 b3 (.inl rfl) ?_
    replace F := F _ rfl
    refine e_12 (f_181 (pc := 20) (e := (20, 12, 0, 0, 0, 0, 0, 21)) rfl) rfl ?_
    refine e_50 (f_181 (pc := 21) (e := (21, 50, 0, 0, 0, 0, 0, 22)) rfl) rfl ?_
    refine e_90 zA (f_181 (pc := 22) (e := (22, 90, 11, 2, 0, 7, 1251, 25)) rfl) rfl (hT 102 rfl) rfl rfl ?_
    refine e_0 (f_181 (pc := 25) (e := (25, 0, 1, 0, 0, 0, 0, 26)) rfl) (v := 1) rfl ?_
    refine e_30 (f_181 (pc := 26) (e := (26, 30, 0, 0, 0, 0, 0, 27)) rfl) ?_
    refine e_91 zA (f_181 (pc := 27) (e := (27, 91, 11, 2, 0, 7, 1251, 30)) rfl) rfl (hT 102 rfl) rfl rfl trivial ?_
    replace F := F _ rfl
    refine e_26 (f_181 (pc := 30) (e := (30, 26, 2, 4294967288, 0, 0, 0, 33)) rfl) (w := (-8)) rfl rfl ?_
    refine e_80 (f_181 (pc := 33) (e := (33, 80, 3, 0, 0, 0, 0, 36)) rfl) ?_
    refine e_lo [0, 1, 2] rfl ?_
    exact F
end Sy
