/-! BLOCKS of the reference, printed by wip/whole/y/gen73.py (1) -/
section Sy
variable {l : Launch} {D : va_G} {cy : Nat → ClassId} {z d bc bs N : Nat} {T : Nat → Nat × Nat} {R : Nat → Nat → Option Nat} {I : Nat → Nat → Int} {K : yKo}
/-! go()V -/
set_option maxRecDepth 20000 in
theorem B_182_0 (hT : yLT T) (hR : yLR R) (F : yW l zSS D cy zFk z d 225 0 0 (fun r h' => ∃ r2 I1, r = some (yi r2) ∧ h' = (N, T, R, I1) ∧ ((r2 = 32 → yW l zSS D cy zFk z (d + 1) 182 bc bs K 0 0 18 [(0, yr (some 102))] [] (N, T, R, I1)) ∧ (¬ (r2 = 32) → yW l zSS D cy zFk z d 225 0 0 (fun r h' => ∃ r5 I4, r = some (yi r5) ∧ h' = (N, T, R, I4) ∧ ((r5 ≠ 10 → ∀ I7, I7 = yU I4 102 12 (I4 102 4) → (∀ I8, I8 = yU I7 102 13 0 → (((I8 102 3) ≤ (I8 102 5) → yW l zSS D cy zFk z (d + 1) 182 bc bs K 0 0 80 [(0, yr (some 102))] [] (N, T, R, I8)) ∧ (¬ ((I8 102 3) ≤ (I8 102 5)) → ((I8 102 4) < (I8 102 5) → yW l zSS D cy zFk z (d + 1) 182 bc bs K 0 0 80 [(0, yr (some 102))] [] (N, T, R, I8)) ∧ (¬ ((I8 102 4) < (I8 102 5)) → ∀ I11, I11 = yU I8 102 12 (I8 102 5) → (∀ I12, I12 = yU I11 102 11 4 → (K none (N, T, R, I12)))))))) ∧ (¬ (r5 ≠ 10) → yW l zSS D cy zFk z (d + 1) 182 bc bs K 0 0 18 [(0, yr (some 102))] [] (N, T, R, I4)))) 0 0 0 [(0, yr (some 102))] [] (N, T, R, I1)))) 0 0 0 [(0, yr (some 102))] [] (N, T, R, I)) :
    yW l zSS D cy zFk z (d + 1) 182 bc bs K 0 0 0 [(0, yr (some 102))] [] (N, T, R, I) := by
  refine e_12 (f_182 (pc := 0) (e := (0, 12, 0, 0, 0, 0, 0, 1)) rfl) rfl ?_
  refine e_130 (f_182 (pc := 1) (e := (1, 130, 225, 0, 11, 151, 1259, 4)) rfl) zA (as := [yr (some 102)]) (rest := []) rfl rfl rfl rfl (Nat.le_of_ble_eq_true rfl) (Nat.le_of_ble_eq_true rfl) ⟨_, _, _, rfl, (hT 102 rfl)⟩ (mc := 0) (ms := 0) (Nat.zero_le _) (Nat.zero_le _) ?_
  refine e_K ?_ F
  rintro r h' ⟨r2, I1, rfl, rfl, F⟩
  refine e_1 (f_182 (pc := 4) (e := (4, 1, 32, 0, 0, 0, 0, 6)) rfl) (v := 32) rfl ?_
  refine e_70 (f_182 (pc := 6) (e := (6, 70, 18, 0, 0, 0, 0, 9)) rfl) (fun c3 => ?_) (fun c3 => ?_)
  · replace F := F.1 c3
    refine e_lo [0] rfl ?_
    exact F
  · replace F := F.2 c3
    refine e_12 (f_182 (pc := 9) (e := (9, 12, 0, 0, 0, 0, 0, 10)) rfl) rfl ?_
    refine e_130 (f_182 (pc := 10) (e := (10, 130, 225, 0, 11, 151, 1259, 13)) rfl) zA (as := [yr (some 102)]) (rest := []) rfl rfl rfl rfl (Nat.le_of_ble_eq_true rfl) (Nat.le_of_ble_eq_true rfl) ⟨_, _, _, rfl, (hT 102 rfl)⟩ (mc := 0) (ms := 0) (Nat.zero_le _) (Nat.zero_le _) ?_
    refine e_K ?_ F
    rintro r h' ⟨r5, I4, rfl, rfl, F⟩
    refine e_1 (f_182 (pc := 13) (e := (13, 1, 10, 0, 0, 0, 0, 15)) rfl) (v := 10) rfl ?_
    refine e_71 (f_182 (pc := 15) (e := (15, 71, 31, 0, 0, 0, 0, 18)) rfl) (fun c6 => ?_) (fun c6 => ?_)
    · replace F := F.1 c6
      refine e_12 (f_182 (pc := 31) (e := (31, 12, 0, 0, 0, 0, 0, 32)) rfl) rfl ?_
      refine e_12 (f_182 (pc := 32) (e := (32, 12, 0, 0, 0, 0, 0, 33)) rfl) rfl ?_
      refine e_90 zA (f_182 (pc := 33) (e := (33, 90, 11, 4, 0, 21, 1260, 36)) rfl) rfl (hT 102 rfl) rfl rfl ?_
      refine e_91 zA (f_182 (pc := 36) (e := (36, 91, 11, 12, 0, 155, 1233, 39)) rfl) rfl (hT 102 rfl) rfl rfl trivial ?_
      replace F := F _ rfl
      refine e_12 (f_182 (pc := 39) (e := (39, 12, 0, 0, 0, 0, 0, 40)) rfl) rfl ?_
      refine e_0 (f_182 (pc := 40) (e := (40, 0, 0, 0, 0, 0, 0, 41)) rfl) (v := 0) rfl ?_
      refine e_91 zA (f_182 (pc := 41) (e := (41, 91, 11, 13, 0, 158, 1261, 44)) rfl) rfl (hT 102 rfl) rfl rfl trivial ?_
      replace F := F _ rfl
      refine e_12 (f_182 (pc := 44) (e := (44, 12, 0, 0, 0, 0, 0, 45)) rfl) rfl ?_
      refine e_90 zA (f_182 (pc := 45) (e := (45, 90, 11, 3, 0, 18, 1262, 48)) rfl) rfl (hT 102 rfl) rfl rfl ?_
      refine e_12 (f_182 (pc := 48) (e := (48, 12, 0, 0, 0, 0, 0, 49)) rfl) rfl ?_
      refine e_90 zA (f_182 (pc := 49) (e := (49, 90, 11, 5, 0, 24, 1263, 52)) rfl) rfl (hT 102 rfl) rfl rfl ?_
      refine e_75 (f_182 (pc := 52) (e := (52, 75, 80, 0, 0, 0, 0, 55)) rfl) (fun c9 => ?_) (fun c9 => ?_)
      · replace F := F.1 c9
        refine e_lo [0] rfl ?_
        exact F
      · replace F := F.2 c9
        refine e_12 (f_182 (pc := 55) (e := (55, 12, 0, 0, 0, 0, 0, 56)) rfl) rfl ?_
        refine e_90 zA (f_182 (pc := 56) (e := (56, 90, 11, 4, 0, 21, 1260, 59)) rfl) rfl (hT 102 rfl) rfl rfl ?_
        refine e_12 (f_182 (pc := 59) (e := (59, 12, 0, 0, 0, 0, 0, 60)) rfl) rfl ?_
        refine e_90 zA (f_182 (pc := 60) (e := (60, 90, 11, 5, 0, 24, 1263, 63)) rfl) rfl (hT 102 rfl) rfl rfl ?_
        refine e_72 (f_182 (pc := 63) (e := (63, 72, 80, 0, 0, 0, 0, 66)) rfl) (fun c10 => ?_) (fun c10 => ?_)
        · replace F := F.1 c10
          refine e_lo [0] rfl ?_
          exact F
        · replace F := F.2 c10
          refine e_12 (f_182 (pc := 66) (e := (66, 12, 0, 0, 0, 0, 0, 67)) rfl) rfl ?_
          refine e_12 (f_182 (pc := 67) (e := (67, 12, 0, 0, 0, 0, 0, 68)) rfl) rfl ?_
          refine e_90 zA (f_182 (pc := 68) (e := (68, 90, 11, 5, 0, 24, 1263, 71)) rfl) rfl (hT 102 rfl) rfl rfl ?_
          refine e_91 zA (f_182 (pc := 71) (e := (71, 91, 11, 12, 0, 155, 1233, 74)) rfl) rfl (hT 102 rfl) rfl rfl trivial ?_
          replace F := F _ rfl
          refine e_12 (f_182 (pc := 74) (e := (74, 12, 0, 0, 0, 0, 0, 75)) rfl) rfl ?_
          refine e_0 (f_182 (pc := 75) (e := (75, 0, 4, 0, 0, 0, 0, 76)) rfl) (v := 4) rfl ?_
          refine e_91 zA (f_182 (pc := 76) (e := (76, 91, 11, 11, 0, 161, 1225, 79)) rfl) rfl (hT 102 rfl) rfl rfl trivial ?_
          replace F := F _ rfl
          exact e_122 (f_182 (pc := 79) (e := (79, 122, 0, 0, 0, 0, 0, 80)) rfl) F
    · replace F := F.2 c6
      refine e_lo [0] rfl ?_
      exact F
set_option maxRecDepth 20000 in
theorem B_182_18 (hT : yLT T) (hR : yLR R) (F : ∀ I1, I1 = yU I 102 4 (yadd (I 102 4) 1) → (yW l zSS D cy zFk z d 182 bc bs K 0 0 0 [(0, yr (some 102))] [] (N, T, R, I1))) :
    yW l zSS D cy zFk z d 182 bc bs K 0 0 18 [(0, yr (some 102))] [] (N, T, R, I) := by
  refine e_12 (f_182 (pc := 18) (e := (18, 12, 0, 0, 0, 0, 0, 19)) rfl) rfl ?_
  refine e_50 (f_182 (pc := 19) (e := (19, 50, 0, 0, 0, 0, 0, 20)) rfl) rfl ?_
  refine e_90 zA (f_182 (pc := 20) (e := (20, 90, 11, 4, 0, 21, 1260, 23)) rfl) rfl (hT 102 rfl) rfl rfl ?_
  refine e_0 (f_182 (pc := 23) (e := (23, 0, 1, 0, 0, 0, 0, 24)) rfl) (v := 1) rfl ?_
  refine e_30 (f_182 (pc := 24) (e := (24, 30, 0, 0, 0, 0, 0, 25)) rfl) ?_
  refine e_91 zA (f_182 (pc := 25) (e := (25, 91, 11, 4, 0, 21, 1260, 28)) rfl) rfl (hT 102 rfl) rfl rfl trivial ?_
  replace F := F _ rfl
  refine e_80 (f_182 (pc := 28) (e := (28, 80, 0, 0, 0, 0, 0, 31)) rfl) ?_
  refine e_lo [0] rfl ?_
  exact F
set_option maxRecDepth 20000 in
theorem B_182_80 (hT : yLT T) (hR : yLR R) (F : yW l zSS D cy zFk z d 225 0 0 (fun r h' => ∃ r2 I1, r = some (yi r2) ∧ h' = (N, T, R, I1) ∧ ((0 ≤ r2 → yW l zSS D cy zFk z d 197 0 0 (fun r h' => ∃ r5 I4, r = some (yi r5) ∧ h' = (N, T, R, I4) ∧ ((r5 ≠ 0 → yW l zSS D cy zFk z (d + 1) 182 bc bs K 0 0 164 [(0, yr (some 102)), (1, yi r2)] [] (N, T, R, I4)) ∧ (¬ (r5 ≠ 0) → yW l zSS D cy zFk z d 189 0 0 (fun r h' => ∃ r8 I7, r = some (yi r8) ∧ h' = (N, T, R, I7) ∧ ((r8 ≠ 0 → yW l zSS D cy zFk z (d + 1) 182 bc bs K 0 0 164 [(0, yr (some 102)), (1, yi r2)] [] (N, T, R, I7)) ∧ (¬ (r8 ≠ 0) → (r2 = 59 → ∀ I11, I11 = yU I7 102 11 3 → (∀ I12, I12 = yU I11 102 14 r2 → (∀ I13, I13 = yU I12 102 4 (yadd (I12 102 4) 1) → (K none (N, T, R, I13))))) ∧ (¬ (r2 = 59) → (r2 = 40 → ∀ I15, I15 = yU I7 102 11 3 → (∀ I16, I16 = yU I15 102 14 r2 → (∀ I17, I17 = yU I16 102 4 (yadd (I16 102 4) 1) → (K none (N, T, R, I17))))) ∧ (¬ (r2 = 40) → (r2 = 41 → ∀ I19, I19 = yU I7 102 11 3 → (∀ I20, I20 = yU I19 102 14 r2 → (∀ I21, I21 = yU I20 102 4 (yadd (I20 102 4) 1) → (K none (N, T, R, I21))))) ∧ (¬ (r2 = 41) → (r2 < 60 → ∀ I23, I23 = yU I7 102 11 4 → (∀ I24, I24 = yU I23 102 14 r2 → (∀ I25, I25 = yU I24 102 4 (yadd (I24 102 4) 1) → (K none (N, T, R, I25))))) ∧ (¬ (r2 < 60) → (62 < r2 → ∀ I27, I27 = yU I7 102 11 4 → (∀ I28, I28 = yU I27 102 14 r2 → (∀ I29, I29 = yU I28 102 4 (yadd (I28 102 4) 1) → (K none (N, T, R, I29))))) ∧ (¬ (62 < r2) → ∀ I30, I30 = yU I7 102 11 3 → (∀ I31, I31 = yU I30 102 14 r2 → (∀ I32, I32 = yU I31 102 4 (yadd (I31 102 4) 1) → (K none (N, T, R, I32)))))))))))) 0 0 0 [(0, yi r2)] [] (N, T, R, I4)))) 0 0 0 [(0, yi r2)] [] (N, T, R, I1)) ∧ (¬ (0 ≤ r2) → ∀ I33, I33 = yU I1 102 11 0 → (K none (N, T, R, I33))))) 0 0 0 [(0, yr (some 102))] [] (N, T, R, I)) :
    yW l zSS D cy zFk z (d + 1) 182 bc bs K 0 0 80 [(0, yr (some 102))] [] (N, T, R, I) := by
  refine e_12 (f_182 (pc := 80) (e := (80, 12, 0, 0, 0, 0, 0, 81)) rfl) rfl ?_
  refine e_130 (f_182 (pc := 81) (e := (81, 130, 225, 0, 11, 151, 1259, 84)) rfl) zA (as := [yr (some 102)]) (rest := []) rfl rfl rfl rfl (Nat.le_of_ble_eq_true rfl) (Nat.le_of_ble_eq_true rfl) ⟨_, _, _, rfl, (hT 102 rfl)⟩ (mc := 0) (ms := 0) (Nat.zero_le _) (Nat.zero_le _) ?_
  refine e_K ?_ F
  rintro r h' ⟨r2, I1, rfl, rfl, F⟩
  refine e_20 (f_182 (pc := 84) (e := (84, 20, 1, 0, 0, 0, 0, 85)) rfl) ?_
  refine e_10 (f_182 (pc := 85) (e := (85, 10, 1, 0, 0, 0, 0, 86)) rfl) rfl ?_
  refine e_63 (f_182 (pc := 86) (e := (86, 63, 95, 0, 0, 0, 0, 89)) rfl) (fun c3 => ?_) (fun c3 => ?_)
  · replace F := F.1 c3
    refine e_10 (f_182 (pc := 95) (e := (95, 10, 1, 0, 0, 0, 0, 96)) rfl) rfl ?_
    refine e_132 (f_182 (pc := 96) (e := (96, 132, 197, 2, 11, 164, 1264, 99)) rfl) zA (as := [yi r2]) (rest := []) rfl rfl rfl rfl (Nat.le_of_ble_eq_true rfl) (Nat.le_of_ble_eq_true rfl) (mc := 0) (ms := 0) (Nat.zero_le _) (Nat.zero_le _) ?_
    refine e_K ?_ F
    rintro r h' ⟨r5, I4, rfl, rfl, F⟩
    refine e_61 (f_182 (pc := 99) (e := (99, 61, 164, 0, 0, 0, 0, 102)) rfl) (fun c6 => ?_) (fun c6 => ?_)
    · replace F := F.1 c6
      refine e_lo [0, 1] rfl ?_
      exact F
    · replace F := F.2 c6
      refine e_10 (f_182 (pc := 102) (e := (102, 10, 1, 0, 0, 0, 0, 103)) rfl) rfl ?_
      refine e_132 (f_182 (pc := 103) (e := (103, 132, 189, 2, 11, 168, 1265, 106)) rfl) zA (as := [yi r2]) (rest := []) rfl rfl rfl rfl (Nat.le_of_ble_eq_true rfl) (Nat.le_of_ble_eq_true rfl) (mc := 0) (ms := 0) (Nat.zero_le _) (Nat.zero_le _) ?_
      refine e_K ?_ F
      rintro r h' ⟨r8, I7, rfl, rfl, F⟩
      refine e_61 (f_182 (pc := 106) (e := (106, 61, 164, 0, 0, 0, 0, 109)) rfl) (fun c9 => ?_) (fun c9 => ?_)
      · replace F := F.1 c9
        refine e_lo [0, 1] rfl ?_
        exact F
      · replace F := F.2 c9
        refine e_12 (f_182 (pc := 109) (e := (109, 12, 0, 0, 0, 0, 0, 110)) rfl) rfl ?_
        refine e_10 (f_182 (pc := 110) (e := (110, 10, 1, 0, 0, 0, 0, 111)) rfl) rfl ?_
        refine e_1 (f_182 (pc := 111) (e := (111, 1, 59, 0, 0, 0, 0, 113)) rfl) (v := 59) rfl ?_
        refine e_70 (f_182 (pc := 113) (e := (113, 70, 140, 0, 0, 0, 0, 116)) rfl) (fun c10 => ?_) (fun c10 => ?_)
        · replace F := F.1 c10
          refine e_0 (f_182 (pc := 140) (e := (140, 0, 3, 0, 0, 0, 0, 141)) rfl) (v := 3) rfl ?_
          refine e_80 (f_182 (pc := 141) (e := (141, 80, 145, 0, 0, 0, 0, 144)) rfl) ?_
          refine e_91 zA (f_182 (pc := 145) (e := (145, 91, 11, 11, 0, 161, 1225, 148)) rfl) rfl (hT 102 rfl) rfl rfl trivial ?_
          replace F := F _ rfl
          refine e_12 (f_182 (pc := 148) (e := (148, 12, 0, 0, 0, 0, 0, 149)) rfl) rfl ?_
          refine e_10 (f_182 (pc := 149) (e := (149, 10, 1, 0, 0, 0, 0, 150)) rfl) rfl ?_
          refine e_91 zA (f_182 (pc := 150) (e := (150, 91, 11, 14, 0, 171, 1266, 153)) rfl) rfl (hT 102 rfl) rfl rfl trivial ?_
          replace F := F _ rfl
          refine e_12 (f_182 (pc := 153) (e := (153, 12, 0, 0, 0, 0, 0, 154)) rfl) rfl ?_
          refine e_50 (f_182 (pc := 154) (e := (154, 50, 0, 0, 0, 0, 0, 155)) rfl) rfl ?_
          refine e_90 zA (f_182 (pc := 155) (e := (155, 90, 11, 4, 0, 21, 1260, 158)) rfl) rfl (hT 102 rfl) rfl rfl ?_
          refine e_0 (f_182 (pc := 158) (e := (158, 0, 1, 0, 0, 0, 0, 159)) rfl) (v := 1) rfl ?_
          refine e_30 (f_182 (pc := 159) (e := (159, 30, 0, 0, 0, 0, 0, 160)) rfl) ?_
          refine e_91 zA (f_182 (pc := 160) (e := (160, 91, 11, 4, 0, 21, 1260, 163)) rfl) rfl (hT 102 rfl) rfl rfl trivial ?_
          replace F := F _ rfl
          exact e_122 (f_182 (pc := 163) (e := (163, 122, 0, 0, 0, 0, 0, 164)) rfl) F
        · replace F := F.2 c10
          refine e_10 (f_182 (pc := 116) (e := (116, 10, 1, 0, 0, 0, 0, 117)) rfl) rfl ?_
          refine e_1 (f_182 (pc := 117) (e := (117, 1, 40, 0, 0, 0, 0, 119)) rfl) (v := 40) rfl ?_
          refine e_70 (f_182 (pc := 119) (e := (119, 70, 140, 0, 0, 0, 0, 122)) rfl) (fun c14 => ?_) (fun c14 => ?_)
          · replace F := F.1 c14
            refine e_0 (f_182 (pc := 140) (e := (140, 0, 3, 0, 0, 0, 0, 141)) rfl) (v := 3) rfl ?_
            refine e_80 (f_182 (pc := 141) (e := (141, 80, 145, 0, 0, 0, 0, 144)) rfl) ?_
            refine e_91 zA (f_182 (pc := 145) (e := (145, 91, 11, 11, 0, 161, 1225, 148)) rfl) rfl (hT 102 rfl) rfl rfl trivial ?_
            replace F := F _ rfl
            refine e_12 (f_182 (pc := 148) (e := (148, 12, 0, 0, 0, 0, 0, 149)) rfl) rfl ?_
            refine e_10 (f_182 (pc := 149) (e := (149, 10, 1, 0, 0, 0, 0, 150)) rfl) rfl ?_
            refine e_91 zA (f_182 (pc := 150) (e := (150, 91, 11, 14, 0, 171, 1266, 153)) rfl) rfl (hT 102 rfl) rfl rfl trivial ?_
            replace F := F _ rfl
            refine e_12 (f_182 (pc := 153) (e := (153, 12, 0, 0, 0, 0, 0, 154)) rfl) rfl ?_
            refine e_50 (f_182 (pc := 154) (e := (154, 50, 0, 0, 0, 0, 0, 155)) rfl) rfl ?_
            refine e_90 zA (f_182 (pc := 155) (e := (155, 90, 11, 4, 0, 21, 1260, 158)) rfl) rfl (hT 102 rfl) rfl rfl ?_
            refine e_0 (f_182 (pc := 158) (e := (158, 0, 1, 0, 0, 0, 0, 159)) rfl) (v := 1) rfl ?_
            refine e_30 (f_182 (pc := 159) (e := (159, 30, 0, 0, 0, 0, 0, 160)) rfl) ?_
            refine e_91 zA (f_182 (pc := 160) (e := (160, 91, 11, 4, 0, 21, 1260, 163)) rfl) rfl (hT 102 rfl) rfl rfl trivial ?_
            replace F := F _ rfl
            exact e_122 (f_182 (pc := 163) (e := (163, 122, 0, 0, 0, 0, 0, 164)) rfl) F
          · replace F := F.2 c14
            refine e_10 (f_182 (pc := 122) (e := (122, 10, 1, 0, 0, 0, 0, 123)) rfl) rfl ?_
            refine e_1 (f_182 (pc := 123) (e := (123, 1, 41, 0, 0, 0, 0, 125)) rfl) (v := 41) rfl ?_
            refine e_70 (f_182 (pc := 125) (e := (125, 70, 140, 0, 0, 0, 0, 128)) rfl) (fun c18 => ?_) (fun c18 => ?_)
            · replace F := F.1 c18
              refine e_0 (f_182 (pc := 140) (e := (140, 0, 3, 0, 0, 0, 0, 141)) rfl) (v := 3) rfl ?_
              refine e_80 (f_182 (pc := 141) (e := (141, 80, 145, 0, 0, 0, 0, 144)) rfl) ?_
              refine e_91 zA (f_182 (pc := 145) (e := (145, 91, 11, 11, 0, 161, 1225, 148)) rfl) rfl (hT 102 rfl) rfl rfl trivial ?_
              replace F := F _ rfl
              refine e_12 (f_182 (pc := 148) (e := (148, 12, 0, 0, 0, 0, 0, 149)) rfl) rfl ?_
              refine e_10 (f_182 (pc := 149) (e := (149, 10, 1, 0, 0, 0, 0, 150)) rfl) rfl ?_
              refine e_91 zA (f_182 (pc := 150) (e := (150, 91, 11, 14, 0, 171, 1266, 153)) rfl) rfl (hT 102 rfl) rfl rfl trivial ?_
              replace F := F _ rfl
              refine e_12 (f_182 (pc := 153) (e := (153, 12, 0, 0, 0, 0, 0, 154)) rfl) rfl ?_
              refine e_50 (f_182 (pc := 154) (e := (154, 50, 0, 0, 0, 0, 0, 155)) rfl) rfl ?_
              refine e_90 zA (f_182 (pc := 155) (e := (155, 90, 11, 4, 0, 21, 1260, 158)) rfl) rfl (hT 102 rfl) rfl rfl ?_
              refine e_0 (f_182 (pc := 158) (e := (158, 0, 1, 0, 0, 0, 0, 159)) rfl) (v := 1) rfl ?_
              refine e_30 (f_182 (pc := 159) (e := (159, 30, 0, 0, 0, 0, 0, 160)) rfl) ?_
              refine e_91 zA (f_182 (pc := 160) (e := (160, 91, 11, 4, 0, 21, 1260, 163)) rfl) rfl (hT 102 rfl) rfl rfl trivial ?_
              replace F := F _ rfl
              exact e_122 (f_182 (pc := 163) (e := (163, 122, 0, 0, 0, 0, 0, 164)) rfl) F
            · replace F := F.2 c18
              refine e_10 (f_182 (pc := 128) (e := (128, 10, 1, 0, 0, 0, 0, 129)) rfl) rfl ?_
              refine e_1 (f_182 (pc := 129) (e := (129, 1, 60, 0, 0, 0, 0, 131)) rfl) (v := 60) rfl ?_
              refine e_72 (f_182 (pc := 131) (e := (131, 72, 144, 0, 0, 0, 0, 134)) rfl) (fun c22 => ?_) (fun c22 => ?_)
              · replace F := F.1 c22
                refine e_0 (f_182 (pc := 144) (e := (144, 0, 4, 0, 0, 0, 0, 145)) rfl) (v := 4) rfl ?_
                refine e_91 zA (f_182 (pc := 145) (e := (145, 91, 11, 11, 0, 161, 1225, 148)) rfl) rfl (hT 102 rfl) rfl rfl trivial ?_
                replace F := F _ rfl
                refine e_12 (f_182 (pc := 148) (e := (148, 12, 0, 0, 0, 0, 0, 149)) rfl) rfl ?_
                refine e_10 (f_182 (pc := 149) (e := (149, 10, 1, 0, 0, 0, 0, 150)) rfl) rfl ?_
                refine e_91 zA (f_182 (pc := 150) (e := (150, 91, 11, 14, 0, 171, 1266, 153)) rfl) rfl (hT 102 rfl) rfl rfl trivial ?_
                replace F := F _ rfl
                refine e_12 (f_182 (pc := 153) (e := (153, 12, 0, 0, 0, 0, 0, 154)) rfl) rfl ?_
                refine e_50 (f_182 (pc := 154) (e := (154, 50, 0, 0, 0, 0, 0, 155)) rfl) rfl ?_
                refine e_90 zA (f_182 (pc := 155) (e := (155, 90, 11, 4, 0, 21, 1260, 158)) rfl) rfl (hT 102 rfl) rfl rfl ?_
                refine e_0 (f_182 (pc := 158) (e := (158, 0, 1, 0, 0, 0, 0, 159)) rfl) (v := 1) rfl ?_
                refine e_30 (f_182 (pc := 159) (e := (159, 30, 0, 0, 0, 0, 0, 160)) rfl) ?_
                refine e_91 zA (f_182 (pc := 160) (e := (160, 91, 11, 4, 0, 21, 1260, 163)) rfl) rfl (hT 102 rfl) rfl rfl trivial ?_
                replace F := F _ rfl
                exact e_122 (f_182 (pc := 163) (e := (163, 122, 0, 0, 0, 0, 0, 164)) rfl) F
              · replace F := F.2 c22
                refine e_10 (f_182 (pc := 134) (e := (134, 10, 1, 0, 0, 0, 0, 135)) rfl) rfl ?_
                refine e_1 (f_182 (pc := 135) (e := (135, 1, 62, 0, 0, 0, 0, 137)) rfl) (v := 62) rfl ?_
                refine e_74 (f_182 (pc := 137) (e := (137, 74, 144, 0, 0, 0, 0, 140)) rfl) (fun c26 => ?_) (fun c26 => ?_)
                · replace F := F.1 c26
                  refine e_0 (f_182 (pc := 144) (e := (144, 0, 4, 0, 0, 0, 0, 145)) rfl) (v := 4) rfl ?_
                  refine e_91 zA (f_182 (pc := 145) (e := (145, 91, 11, 11, 0, 161, 1225, 148)) rfl) rfl (hT 102 rfl) rfl rfl trivial ?_
                  replace F := F _ rfl
                  refine e_12 (f_182 (pc := 148) (e := (148, 12, 0, 0, 0, 0, 0, 149)) rfl) rfl ?_
                  refine e_10 (f_182 (pc := 149) (e := (149, 10, 1, 0, 0, 0, 0, 150)) rfl) rfl ?_
                  refine e_91 zA (f_182 (pc := 150) (e := (150, 91, 11, 14, 0, 171, 1266, 153)) rfl) rfl (hT 102 rfl) rfl rfl trivial ?_
                  replace F := F _ rfl
                  refine e_12 (f_182 (pc := 153) (e := (153, 12, 0, 0, 0, 0, 0, 154)) rfl) rfl ?_
                  refine e_50 (f_182 (pc := 154) (e := (154, 50, 0, 0, 0, 0, 0, 155)) rfl) rfl ?_
                  refine e_90 zA (f_182 (pc := 155) (e := (155, 90, 11, 4, 0, 21, 1260, 158)) rfl) rfl (hT 102 rfl) rfl rfl ?_
                  refine e_0 (f_182 (pc := 158) (e := (158, 0, 1, 0, 0, 0, 0, 159)) rfl) (v := 1) rfl ?_
                  refine e_30 (f_182 (pc := 159) (e := (159, 30, 0, 0, 0, 0, 0, 160)) rfl) ?_
                  refine e_91 zA (f_182 (pc := 160) (e := (160, 91, 11, 4, 0, 21, 1260, 163)) rfl) rfl (hT 102 rfl) rfl rfl trivial ?_
                  replace F := F _ rfl
                  exact e_122 (f_182 (pc := 163) (e := (163, 122, 0, 0, 0, 0, 0, 164)) rfl) F
                · replace F := F.2 c26
                  refine e_0 (f_182 (pc := 140) (e := (140, 0, 3, 0, 0, 0, 0, 141)) rfl) (v := 3) rfl ?_
                  refine e_80 (f_182 (pc := 141) (e := (141, 80, 145, 0, 0, 0, 0, 144)) rfl) ?_
                  refine e_91 zA (f_182 (pc := 145) (e := (145, 91, 11, 11, 0, 161, 1225, 148)) rfl) rfl (hT 102 rfl) rfl rfl trivial ?_
                  replace F := F _ rfl
                  refine e_12 (f_182 (pc := 148) (e := (148, 12, 0, 0, 0, 0, 0, 149)) rfl) rfl ?_
                  refine e_10 (f_182 (pc := 149) (e := (149, 10, 1, 0, 0, 0, 0, 150)) rfl) rfl ?_
                  refine e_91 zA (f_182 (pc := 150) (e := (150, 91, 11, 14, 0, 171, 1266, 153)) rfl) rfl (hT 102 rfl) rfl rfl trivial ?_
                  replace F := F _ rfl
                  refine e_12 (f_182 (pc := 153) (e := (153, 12, 0, 0, 0, 0, 0, 154)) rfl) rfl ?_
                  refine e_50 (f_182 (pc := 154) (e := (154, 50, 0, 0, 0, 0, 0, 155)) rfl) rfl ?_
                  refine e_90 zA (f_182 (pc := 155) (e := (155, 90, 11, 4, 0, 21, 1260, 158)) rfl) rfl (hT 102 rfl) rfl rfl ?_
                  refine e_0 (f_182 (pc := 158) (e := (158, 0, 1, 0, 0, 0, 0, 159)) rfl) (v := 1) rfl ?_
                  refine e_30 (f_182 (pc := 159) (e := (159, 30, 0, 0, 0, 0, 0, 160)) rfl) ?_
                  refine e_91 zA (f_182 (pc := 160) (e := (160, 91, 11, 4, 0, 21, 1260, 163)) rfl) rfl (hT 102 rfl) rfl rfl trivial ?_
                  replace F := F _ rfl
                  exact e_122 (f_182 (pc := 163) (e := (163, 122, 0, 0, 0, 0, 0, 164)) rfl) F
  · replace F := F.2 c3
    refine e_12 (f_182 (pc := 89) (e := (89, 12, 0, 0, 0, 0, 0, 90)) rfl) rfl ?_
    refine e_0 (f_182 (pc := 90) (e := (90, 0, 0, 0, 0, 0, 0, 91)) rfl) (v := 0) rfl ?_
    refine e_91 zA (f_182 (pc := 91) (e := (91, 91, 11, 11, 0, 161, 1225, 94)) rfl) rfl (hT 102 rfl) rfl rfl trivial ?_
    replace F := F _ rfl
    exact e_122 (f_182 (pc := 94) (e := (94, 122, 0, 0, 0, 0, 0, 95)) rfl) F
set_option maxRecDepth 20000 in
theorem B_182_164 (hT : yLT T) (hR : yLR R) {x1 : Int} (F : yW l zSS D cy zFk z d 197 0 0 (fun r h' => ∃ r2 I1, r = some (yi r2) ∧ h' = (N, T, R, I1) ∧ (∀ I3, I3 = yU I1 102 17 0 → (∀ I4, I4 = yU I3 102 14 0 → (yW l zSS D cy zFk z (d + 1) 182 bc bs K 0 0 181 [(0, yr (some 102)), (2, yi r2), (3, yi 1)] [] (N, T, R, I4))))) 0 0 0 [(0, yi x1)] [] (N, T, R, I)) :
    yW l zSS D cy zFk z (d + 1) 182 bc bs K 0 0 164 [(0, yr (some 102)), (1, yi x1)] [] (N, T, R, I) := by
  refine e_10 (f_182 (pc := 164) (e := (164, 10, 1, 0, 0, 0, 0, 165)) rfl) rfl ?_
  refine e_132 (f_182 (pc := 165) (e := (165, 132, 197, 2, 11, 164, 1264, 168)) rfl) zA (as := [yi x1]) (rest := []) rfl rfl rfl rfl (Nat.le_of_ble_eq_true rfl) (Nat.le_of_ble_eq_true rfl) (mc := 0) (ms := 0) (Nat.zero_le _) (Nat.zero_le _) ?_
  refine e_K ?_ F
  rintro r h' ⟨r2, I1, rfl, rfl, F⟩
  refine e_20 (f_182 (pc := 168) (e := (168, 20, 2, 0, 0, 0, 0, 169)) rfl) ?_
  refine e_0 (f_182 (pc := 169) (e := (169, 0, 1, 0, 0, 0, 0, 170)) rfl) (v := 1) rfl ?_
  refine e_20 (f_182 (pc := 170) (e := (170, 20, 3, 0, 0, 0, 0, 171)) rfl) ?_
  refine e_12 (f_182 (pc := 171) (e := (171, 12, 0, 0, 0, 0, 0, 172)) rfl) rfl ?_
  refine e_6 (f_182 (pc := 172) (e := (172, 6, 0, 0, 0, 0, 0, 173)) rfl) (v := 0) rfl ?_
  refine e_91 zA (f_182 (pc := 173) (e := (173, 91, 11, 17, 1, 174, 1258, 176)) rfl) rfl (hT 102 rfl) rfl rfl trivial ?_
  replace F := F _ rfl
  refine e_12 (f_182 (pc := 176) (e := (176, 12, 0, 0, 0, 0, 0, 177)) rfl) rfl ?_
  refine e_0 (f_182 (pc := 177) (e := (177, 0, 0, 0, 0, 0, 0, 178)) rfl) (v := 0) rfl ?_
  refine e_91 zA (f_182 (pc := 178) (e := (178, 91, 11, 14, 0, 171, 1266, 181)) rfl) rfl (hT 102 rfl) rfl rfl trivial ?_
  replace F := F _ rfl
  refine e_lo [0, 2, 3] rfl ?_
  exact F
set_option maxRecDepth 20000 in
theorem B_182_181 (hT : yLT T) (hR : yLR R) {x2 x3 : Int} (F : yW l zSS D cy zFk z d 225 0 0 (fun r h' => ∃ r2 I1, r = some (yi r2) ∧ h' = (N, T, R, I1) ∧ (yW l zSS D cy zFk z d 197 0 0 (fun r h' => ∃ r4 I3, r = some (yi r4) ∧ h' = (N, T, R, I3) ∧ ((r4 ≠ 0 → yW l zSS D cy zFk z (d + 1) 182 bc bs K 0 0 201 [(0, yr (some 102)), (2, yi x2), (3, yi x3)] [] (N, T, R, I3)) ∧ (¬ (r4 ≠ 0) → yW l zSS D cy zFk z d 225 0 0 (fun r h' => ∃ r7 I6, r = some (yi r7) ∧ h' = (N, T, R, I6) ∧ (yW l zSS D cy zFk z d 189 0 0 (fun r h' => ∃ r9 I8, r = some (yi r9) ∧ h' = (N, T, R, I8) ∧ ((r9 = 0 → (x3 = 0 → ∀ I12, I12 = yU I8 102 11 4 → (K none (N, T, R, I12))) ∧ (¬ (x3 = 0) → (x2 = 0 → ((I8 102 13) ≤ 3 → (x2 = 0 → ∀ I16, I16 = yU I8 102 11 2 → (K none (N, T, R, I16))) ∧ (¬ (x2 = 0) → ∀ I17, I17 = yU I8 102 11 1 → (K none (N, T, R, I17)))) ∧ (¬ ((I8 102 13) ≤ 3) → ∀ I18, I18 = yU I8 102 11 4 → (K none (N, T, R, I18)))) ∧ (¬ (x2 = 0) → ((I8 102 13) ≤ 7 → (x2 = 0 → ∀ I21, I21 = yU I8 102 11 2 → (K none (N, T, R, I21))) ∧ (¬ (x2 = 0) → ∀ I22, I22 = yU I8 102 11 1 → (K none (N, T, R, I22)))) ∧ (¬ ((I8 102 13) ≤ 7) → ∀ I23, I23 = yU I8 102 11 4 → (K none (N, T, R, I23)))))) ∧ (¬ (r9 = 0) → yW l zSS D cy zFk z (d + 1) 182 bc bs K 0 0 201 [(0, yr (some 102)), (2, yi x2), (3, yi x3)] [] (N, T, R, I8)))) 0 0 0 [(0, yi r7)] [] (N, T, R, I6))) 0 0 0 [(0, yr (some 102))] [] (N, T, R, I3)))) 0 0 0 [(0, yi r2)] [] (N, T, R, I1))) 0 0 0 [(0, yr (some 102))] [] (N, T, R, I)) :
    yW l zSS D cy zFk z (d + 1) 182 bc bs K 0 0 181 [(0, yr (some 102)), (2, yi x2), (3, yi x3)] [] (N, T, R, I) := by
  refine e_12 (f_182 (pc := 181) (e := (181, 12, 0, 0, 0, 0, 0, 182)) rfl) rfl ?_
  refine e_130 (f_182 (pc := 182) (e := (182, 130, 225, 0, 11, 151, 1259, 185)) rfl) zA (as := [yr (some 102)]) (rest := []) rfl rfl rfl rfl (Nat.le_of_ble_eq_true rfl) (Nat.le_of_ble_eq_true rfl) ⟨_, _, _, rfl, (hT 102 rfl)⟩ (mc := 0) (ms := 0) (Nat.zero_le _) (Nat.zero_le _) ?_
  refine e_K ?_ F
  rintro r h' ⟨r2, I1, rfl, rfl, F⟩
  refine e_132 (f_182 (pc := 185) (e := (185, 132, 197, 2, 11, 164, 1264, 188)) rfl) zA (as := [yi r2]) (rest := []) rfl rfl rfl rfl (Nat.le_of_ble_eq_true rfl) (Nat.le_of_ble_eq_true rfl) (mc := 0) (ms := 0) (Nat.zero_le _) (Nat.zero_le _) ?_
  refine e_K ?_ F
  rintro r h' ⟨r4, I3, rfl, rfl, F⟩
  refine e_61 (f_182 (pc := 188) (e := (188, 61, 201, 0, 0, 0, 0, 191)) rfl) (fun c5 => ?_) (fun c5 => ?_)
  · replace F := F.1 c5
    refine e_lo [0, 2, 3] rfl ?_
    exact F
  · replace F := F.2 c5
    refine e_12 (f_182 (pc := 191) (e := (191, 12, 0, 0, 0, 0, 0, 192)) rfl) rfl ?_
    refine e_130 (f_182 (pc := 192) (e := (192, 130, 225, 0, 11, 151, 1259, 195)) rfl) zA (as := [yr (some 102)]) (rest := []) rfl rfl rfl rfl (Nat.le_of_ble_eq_true rfl) (Nat.le_of_ble_eq_true rfl) ⟨_, _, _, rfl, (hT 102 rfl)⟩ (mc := 0) (ms := 0) (Nat.zero_le _) (Nat.zero_le _) ?_
    refine e_K ?_ F
    rintro r h' ⟨r7, I6, rfl, rfl, F⟩
    refine e_132 (f_182 (pc := 195) (e := (195, 132, 189, 2, 11, 168, 1265, 198)) rfl) zA (as := [yi r7]) (rest := []) rfl rfl rfl rfl (Nat.le_of_ble_eq_true rfl) (Nat.le_of_ble_eq_true rfl) (mc := 0) (ms := 0) (Nat.zero_le _) (Nat.zero_le _) ?_
    refine e_K ?_ F
    rintro r h' ⟨r9, I8, rfl, rfl, F⟩
    refine e_60 (f_182 (pc := 198) (e := (198, 60, 298, 0, 0, 0, 0, 201)) rfl) (fun c10 => ?_) (fun c10 => ?_)
    · replace F := F.1 c10
      refine e_12 (f_182 (pc := 298) (e := (298, 12, 0, 0, 0, 0, 0, 299)) rfl) rfl ?_
      refine e_10 (f_182 (pc := 299) (e := (299, 10, 3, 0, 0, 0, 0, 300)) rfl) rfl ?_
      refine e_60 (f_182 (pc := 300) (e := (300, 60, 320, 0, 0, 0, 0, 303)) rfl) (fun c11 => ?_) (fun c11 => ?_)
      · replace F := F.1 c11
        refine e_0 (f_182 (pc := 320) (e := (320, 0, 4, 0, 0, 0, 0, 321)) rfl) (v := 4) rfl ?_
        refine e_80 (f_182 (pc := 321) (e := (321, 80, 333, 0, 0, 0, 0, 324)) rfl) ?_
        refine e_91 zA (f_182 (pc := 333) (e := (333, 91, 11, 11, 0, 161, 1225, 336)) rfl) rfl (hT 102 rfl) rfl rfl trivial ?_
        replace F := F _ rfl
        exact e_122 (f_182 (pc := 336) (e := (336, 122, 0, 0, 0, 0, 0, 0)) rfl) F
      · replace F := F.2 c11
        refine e_12 (f_182 (pc := 303) (e := (303, 12, 0, 0, 0, 0, 0, 304)) rfl) rfl ?_
        refine e_90 zA (f_182 (pc := 304) (e := (304, 90, 11, 13, 0, 158, 1261, 307)) rfl) rfl (hT 102 rfl) rfl rfl ?_
        refine e_10 (f_182 (pc := 307) (e := (307, 10, 2, 0, 0, 0, 0, 308)) rfl) rfl ?_
        refine e_60 (f_182 (pc := 308) (e := (308, 60, 316, 0, 0, 0, 0, 311)) rfl) (fun c13 => ?_) (fun c13 => ?_)
        · replace F := F.1 c13
          refine e_0 (f_182 (pc := 316) (e := (316, 0, 3, 0, 0, 0, 0, 317)) rfl) (v := 3) rfl ?_
          refine e_75 (f_182 (pc := 317) (e := (317, 75, 324, 0, 0, 0, 0, 320)) rfl) (fun c14 => ?_) (fun c14 => ?_)
          · replace F := F.1 c14
            refine e_10 (f_182 (pc := 324) (e := (324, 10, 2, 0, 0, 0, 0, 325)) rfl) rfl ?_
            refine e_60 (f_182 (pc := 325) (e := (325, 60, 332, 0, 0, 0, 0, 328)) rfl) (fun c15 => ?_) (fun c15 => ?_)
            · replace F := F.1 c15
              refine e_0 (f_182 (pc := 332) (e := (332, 0, 2, 0, 0, 0, 0, 333)) rfl) (v := 2) rfl ?_
              refine e_91 zA (f_182 (pc := 333) (e := (333, 91, 11, 11, 0, 161, 1225, 336)) rfl) rfl (hT 102 rfl) rfl rfl trivial ?_
              replace F := F _ rfl
              exact e_122 (f_182 (pc := 336) (e := (336, 122, 0, 0, 0, 0, 0, 0)) rfl) F
            · replace F := F.2 c15
              refine e_0 (f_182 (pc := 328) (e := (328, 0, 1, 0, 0, 0, 0, 329)) rfl) (v := 1) rfl ?_
              refine e_80 (f_182 (pc := 329) (e := (329, 80, 333, 0, 0, 0, 0, 332)) rfl) ?_
              refine e_91 zA (f_182 (pc := 333) (e := (333, 91, 11, 11, 0, 161, 1225, 336)) rfl) rfl (hT 102 rfl) rfl rfl trivial ?_
              replace F := F _ rfl
              exact e_122 (f_182 (pc := 336) (e := (336, 122, 0, 0, 0, 0, 0, 0)) rfl) F
          · replace F := F.2 c14
            refine e_0 (f_182 (pc := 320) (e := (320, 0, 4, 0, 0, 0, 0, 321)) rfl) (v := 4) rfl ?_
            refine e_80 (f_182 (pc := 321) (e := (321, 80, 333, 0, 0, 0, 0, 324)) rfl) ?_
            refine e_91 zA (f_182 (pc := 333) (e := (333, 91, 11, 11, 0, 161, 1225, 336)) rfl) rfl (hT 102 rfl) rfl rfl trivial ?_
            replace F := F _ rfl
            exact e_122 (f_182 (pc := 336) (e := (336, 122, 0, 0, 0, 0, 0, 0)) rfl) F
        · replace F := F.2 c13
          refine e_1 (f_182 (pc := 311) (e := (311, 1, 7, 0, 0, 0, 0, 313)) rfl) (v := 7) rfl ?_
          refine e_80 (f_182 (pc := 313) (e := (313, 80, 317, 0, 0, 0, 0, 316)) rfl) ?_
          refine e_75 (f_182 (pc := 317) (e := (317, 75, 324, 0, 0, 0, 0, 320)) rfl) (fun c19 => ?_) (fun c19 => ?_)
          · replace F := F.1 c19
            refine e_10 (f_182 (pc := 324) (e := (324, 10, 2, 0, 0, 0, 0, 325)) rfl) rfl ?_
            refine e_60 (f_182 (pc := 325) (e := (325, 60, 332, 0, 0, 0, 0, 328)) rfl) (fun c20 => ?_) (fun c20 => ?_)
            · replace F := F.1 c20
              refine e_0 (f_182 (pc := 332) (e := (332, 0, 2, 0, 0, 0, 0, 333)) rfl) (v := 2) rfl ?_
              refine e_91 zA (f_182 (pc := 333) (e := (333, 91, 11, 11, 0, 161, 1225, 336)) rfl) rfl (hT 102 rfl) rfl rfl trivial ?_
              replace F := F _ rfl
              exact e_122 (f_182 (pc := 336) (e := (336, 122, 0, 0, 0, 0, 0, 0)) rfl) F
            · replace F := F.2 c20
              refine e_0 (f_182 (pc := 328) (e := (328, 0, 1, 0, 0, 0, 0, 329)) rfl) (v := 1) rfl ?_
              refine e_80 (f_182 (pc := 329) (e := (329, 80, 333, 0, 0, 0, 0, 332)) rfl) ?_
              refine e_91 zA (f_182 (pc := 333) (e := (333, 91, 11, 11, 0, 161, 1225, 336)) rfl) rfl (hT 102 rfl) rfl rfl trivial ?_
              replace F := F _ rfl
              exact e_122 (f_182 (pc := 336) (e := (336, 122, 0, 0, 0, 0, 0, 0)) rfl) F
          · replace F := F.2 c19
            refine e_0 (f_182 (pc := 320) (e := (320, 0, 4, 0, 0, 0, 0, 321)) rfl) (v := 4) rfl ?_
            refine e_80 (f_182 (pc := 321) (e := (321, 80, 333, 0, 0, 0, 0, 324)) rfl) ?_
            refine e_91 zA (f_182 (pc := 333) (e := (333, 91, 11, 11, 0, 161, 1225, 336)) rfl) rfl (hT 102 rfl) rfl rfl trivial ?_
            replace F := F _ rfl
            exact e_122 (f_182 (pc := 336) (e := (336, 122, 0, 0, 0, 0, 0, 0)) rfl) F
    · replace F := F.2 c10
      refine e_lo [0, 2, 3] rfl ?_
      exact F
set_option maxRecDepth 20000 in
theorem B_182_201 (hT : yLT T) (hR : yLR R) {x2 x3 : Int} (F : (x3 = 0 → yW l zSS D cy zFk z (d + 1) 182 bc bs K 0 0 220 [(0, yr (some 102)), (2, yi x2)] [] (N, T, R, I)) ∧ (¬ (x3 = 0) → yW l zSS D cy zFk z d 225 0 0 (fun r h' => ∃ r3 I2, r = some (yi r3) ∧ h' = (N, T, R, I2) ∧ (yW l zSS D cy zFk z d 197 0 0 (fun r h' => ∃ r5 I4, r = some (yi r5) ∧ h' = (N, T, R, I4) ∧ ((r5 ≠ x2 → yW l zSS D cy zFk z (d + 1) 182 bc bs K 0 0 220 [(0, yr (some 102)), (2, yi x2)] [] (N, T, R, I4)) ∧ (¬ (r5 ≠ x2) → (7 ≤ (I4 102 13) → yW l zSS D cy zFk z (d + 1) 182 bc bs K 0 0 248 [(0, yr (some 102)), (2, yi x2), (3, yi 1)] [] (N, T, R, I4)) ∧ (¬ (7 ≤ (I4 102 13)) → yW l zSS D cy zFk z d 225 0 0 (fun r h' => ∃ r9 I8, r = some (yi r9) ∧ h' = (N, T, R, I8) ∧ (∀ I10, I10 = yU I8 102 17 (ylor (ylshl (I4 102 17) 8) (yi2l r9)) → (yW l zSS D cy zFk z (d + 1) 182 bc bs K 0 0 248 [(0, yr (some 102)), (2, yi x2), (3, yi 1)] [] (N, T, R, I10)))) 0 0 0 [(0, yr (some 102))] [] (N, T, R, I4))))) 0 0 0 [(0, yi r3)] [] (N, T, R, I2))) 0 0 0 [(0, yr (some 102))] [] (N, T, R, I))) :
    yW l zSS D cy zFk z (d + 1) 182 bc bs K 0 0 201 [(0, yr (some 102)), (2, yi x2), (3, yi x3)] [] (N, T, R, I) := by
  refine e_10 (f_182 (pc := 201) (e := (201, 10, 3, 0, 0, 0, 0, 202)) rfl) rfl ?_
  refine e_60 (f_182 (pc := 202) (e := (202, 60, 220, 0, 0, 0, 0, 205)) rfl) (fun c1 => ?_) (fun c1 => ?_)
  · replace F := F.1 c1
    refine e_lo [0, 2] rfl ?_
    exact F
  · replace F := F.2 c1
    refine e_12 (f_182 (pc := 205) (e := (205, 12, 0, 0, 0, 0, 0, 206)) rfl) rfl ?_
    refine e_130 (f_182 (pc := 206) (e := (206, 130, 225, 0, 11, 151, 1259, 209)) rfl) zA (as := [yr (some 102)]) (rest := []) rfl rfl rfl rfl (Nat.le_of_ble_eq_true rfl) (Nat.le_of_ble_eq_true rfl) ⟨_, _, _, rfl, (hT 102 rfl)⟩ (mc := 0) (ms := 0) (Nat.zero_le _) (Nat.zero_le _) ?_
    refine e_K ?_ F
    rintro r h' ⟨r3, I2, rfl, rfl, F⟩
    refine e_132 (f_182 (pc := 209) (e := (209, 132, 197, 2, 11, 164, 1264, 212)) rfl) zA (as := [yi r3]) (rest := []) rfl rfl rfl rfl (Nat.le_of_ble_eq_true rfl) (Nat.le_of_ble_eq_true rfl) (mc := 0) (ms := 0) (Nat.zero_le _) (Nat.zero_le _) ?_
    refine e_K ?_ F
    rintro r h' ⟨r5, I4, rfl, rfl, F⟩
    refine e_10 (f_182 (pc := 212) (e := (212, 10, 2, 0, 0, 0, 0, 213)) rfl) rfl ?_
    refine e_71 (f_182 (pc := 213) (e := (213, 71, 220, 0, 0, 0, 0, 216)) rfl) (fun c6 => ?_) (fun c6 => ?_)
    · replace F := F.1 c6
      refine e_lo [0, 2] rfl ?_
      exact F
    · replace F := F.2 c6
      refine e_0 (f_182 (pc := 216) (e := (216, 0, 1, 0, 0, 0, 0, 217)) rfl) (v := 1) rfl ?_
      refine e_80 (f_182 (pc := 217) (e := (217, 80, 221, 0, 0, 0, 0, 220)) rfl) ?_
      refine e_20 (f_182 (pc := 221) (e := (221, 20, 3, 0, 0, 0, 0, 222)) rfl) ?_
      refine e_12 (f_182 (pc := 222) (e := (222, 12, 0, 0, 0, 0, 0, 223)) rfl) rfl ?_
      refine e_90 zA (f_182 (pc := 223) (e := (223, 90, 11, 13, 0, 158, 1261, 226)) rfl) rfl (hT 102 rfl) rfl rfl ?_
      refine e_1 (f_182 (pc := 226) (e := (226, 1, 7, 0, 0, 0, 0, 228)) rfl) (v := 7) rfl ?_
      refine e_73 (f_182 (pc := 228) (e := (228, 73, 248, 0, 0, 0, 0, 231)) rfl) (fun c7 => ?_) (fun c7 => ?_)
      · replace F := F.1 c7
        refine e_lo [0, 2, 3] rfl ?_
        exact F
      · replace F := F.2 c7
        refine e_12 (f_182 (pc := 231) (e := (231, 12, 0, 0, 0, 0, 0, 232)) rfl) rfl ?_
        refine e_12 (f_182 (pc := 232) (e := (232, 12, 0, 0, 0, 0, 0, 233)) rfl) rfl ?_
        refine e_90 zA (f_182 (pc := 233) (e := (233, 90, 11, 17, 1, 174, 1258, 236)) rfl) rfl (hT 102 rfl) rfl rfl ?_
        refine e_1 (f_182 (pc := 236) (e := (236, 1, 8, 0, 0, 0, 0, 238)) rfl) (v := 8) rfl ?_
        refine e_48 (f_182 (pc := 238) (e := (238, 48, 0, 0, 0, 0, 0, 239)) rfl) ?_
        refine e_12 (f_182 (pc := 239) (e := (239, 12, 0, 0, 0, 0, 0, 240)) rfl) rfl ?_
        refine e_130 (f_182 (pc := 240) (e := (240, 130, 225, 0, 11, 151, 1259, 243)) rfl) zA (as := [yr (some 102)]) (rest := [yj _, yr (some 102)]) rfl rfl rfl rfl (Nat.le_of_ble_eq_true rfl) (Nat.le_of_ble_eq_true rfl) ⟨_, _, _, rfl, (hT 102 rfl)⟩ (mc := 0) (ms := 0) (Nat.zero_le _) (Nat.zero_le _) ?_
        refine e_K ?_ F
        rintro r h' ⟨r9, I8, rfl, rfl, F⟩
        refine e_42 (f_182 (pc := 243) (e := (243, 42, 0, 0, 0, 0, 0, 244)) rfl) ?_
        refine e_46 (f_182 (pc := 244) (e := (244, 46, 0, 0, 0, 0, 0, 245)) rfl) ?_
        refine e_91 zA (f_182 (pc := 245) (e := (245, 91, 11, 17, 1, 174, 1258, 248)) rfl) rfl (hT 102 rfl) rfl rfl trivial ?_
        replace F := F _ rfl
        refine e_lo [0, 2, 3] rfl ?_
        exact F
set_option maxRecDepth 20000 in
theorem B_182_220 (hT : yLT T) (hR : yLR R) {x2 : Int} (F : (7 ≤ (I 102 13) → yW l zSS D cy zFk z (d + 1) 182 bc bs K 0 0 248 [(0, yr (some 102)), (2, yi x2), (3, yi 0)] [] (N, T, R, I)) ∧ (¬ (7 ≤ (I 102 13)) → yW l zSS D cy zFk z d 225 0 0 (fun r h' => ∃ r3 I2, r = some (yi r3) ∧ h' = (N, T, R, I2) ∧ (∀ I4, I4 = yU I2 102 17 (ylor (ylshl (I 102 17) 8) (yi2l r3)) → (yW l zSS D cy zFk z (d + 1) 182 bc bs K 0 0 248 [(0, yr (some 102)), (2, yi x2), (3, yi 0)] [] (N, T, R, I4)))) 0 0 0 [(0, yr (some 102))] [] (N, T, R, I))) :
    yW l zSS D cy zFk z (d + 1) 182 bc bs K 0 0 220 [(0, yr (some 102)), (2, yi x2)] [] (N, T, R, I) := by
  refine e_0 (f_182 (pc := 220) (e := (220, 0, 0, 0, 0, 0, 0, 221)) rfl) (v := 0) rfl ?_
  refine e_20 (f_182 (pc := 221) (e := (221, 20, 3, 0, 0, 0, 0, 222)) rfl) ?_
  refine e_12 (f_182 (pc := 222) (e := (222, 12, 0, 0, 0, 0, 0, 223)) rfl) rfl ?_
  refine e_90 zA (f_182 (pc := 223) (e := (223, 90, 11, 13, 0, 158, 1261, 226)) rfl) rfl (hT 102 rfl) rfl rfl ?_
  refine e_1 (f_182 (pc := 226) (e := (226, 1, 7, 0, 0, 0, 0, 228)) rfl) (v := 7) rfl ?_
  refine e_73 (f_182 (pc := 228) (e := (228, 73, 248, 0, 0, 0, 0, 231)) rfl) (fun c1 => ?_) (fun c1 => ?_)
  · replace F := F.1 c1
    refine e_lo [0, 2, 3] rfl ?_
    exact F
  · replace F := F.2 c1
    refine e_12 (f_182 (pc := 231) (e := (231, 12, 0, 0, 0, 0, 0, 232)) rfl) rfl ?_
    refine e_12 (f_182 (pc := 232) (e := (232, 12, 0, 0, 0, 0, 0, 233)) rfl) rfl ?_
    refine e_90 zA (f_182 (pc := 233) (e := (233, 90, 11, 17, 1, 174, 1258, 236)) rfl) rfl (hT 102 rfl) rfl rfl ?_
    refine e_1 (f_182 (pc := 236) (e := (236, 1, 8, 0, 0, 0, 0, 238)) rfl) (v := 8) rfl ?_
    refine e_48 (f_182 (pc := 238) (e := (238, 48, 0, 0, 0, 0, 0, 239)) rfl) ?_
    refine e_12 (f_182 (pc := 239) (e := (239, 12, 0, 0, 0, 0, 0, 240)) rfl) rfl ?_
    refine e_130 (f_182 (pc := 240) (e := (240, 130, 225, 0, 11, 151, 1259, 243)) rfl) zA (as := [yr (some 102)]) (rest := [yj _, yr (some 102)]) rfl rfl rfl rfl (Nat.le_of_ble_eq_true rfl) (Nat.le_of_ble_eq_true rfl) ⟨_, _, _, rfl, (hT 102 rfl)⟩ (mc := 0) (ms := 0) (Nat.zero_le _) (Nat.zero_le _) ?_
    refine e_K ?_ F
    rintro r h' ⟨r3, I2, rfl, rfl, F⟩
    refine e_42 (f_182 (pc := 243) (e := (243, 42, 0, 0, 0, 0, 0, 244)) rfl) ?_
    refine e_46 (f_182 (pc := 244) (e := (244, 46, 0, 0, 0, 0, 0, 245)) rfl) ?_
    refine e_91 zA (f_182 (pc := 245) (e := (245, 91, 11, 17, 1, 174, 1258, 248)) rfl) rfl (hT 102 rfl) rfl rfl trivial ?_
    replace F := F _ rfl
    refine e_lo [0, 2, 3] rfl ?_
    exact F
set_option maxRecDepth 20000 in
theorem B_182_248 (hT : yLT T) (hR : yLR R) {x2 x3 : Int} (F : (3 ≤ (I 102 13) → yW l zSS D cy zFk z (d + 1) 182 bc bs K 0 0 275 [(0, yr (some 102)), (2, yi x2), (3, yi x3)] [] (N, T, R, I)) ∧ (¬ (3 ≤ (I 102 13)) → yW l zSS D cy zFk z d 225 0 0 (fun r h' => ∃ r3 I2, r = some (yi r3) ∧ h' = (N, T, R, I2) ∧ (∀ I4, I4 = yU I2 102 14 (ysub (yadd (ymul 10 (I 102 14)) r3) 48) → (yW l zSS D cy zFk z (d + 1) 182 bc bs K 0 0 275 [(0, yr (some 102)), (2, yi x2), (3, yi x3)] [] (N, T, R, I4)))) 0 0 0 [(0, yr (some 102))] [] (N, T, R, I))) :
    yW l zSS D cy zFk z (d + 1) 182 bc bs K 0 0 248 [(0, yr (some 102)), (2, yi x2), (3, yi x3)] [] (N, T, R, I) := by
  refine e_12 (f_182 (pc := 248) (e := (248, 12, 0, 0, 0, 0, 0, 249)) rfl) rfl ?_
  refine e_90 zA (f_182 (pc := 249) (e := (249, 90, 11, 13, 0, 158, 1261, 252)) rfl) rfl (hT 102 rfl) rfl rfl ?_
  refine e_0 (f_182 (pc := 252) (e := (252, 0, 3, 0, 0, 0, 0, 253)) rfl) (v := 3) rfl ?_
  refine e_73 (f_182 (pc := 253) (e := (253, 73, 275, 0, 0, 0, 0, 256)) rfl) (fun c1 => ?_) (fun c1 => ?_)
  · replace F := F.1 c1
    refine e_lo [0, 2, 3] rfl ?_
    exact F
  · replace F := F.2 c1
    refine e_12 (f_182 (pc := 256) (e := (256, 12, 0, 0, 0, 0, 0, 257)) rfl) rfl ?_
    refine e_1 (f_182 (pc := 257) (e := (257, 1, 10, 0, 0, 0, 0, 259)) rfl) (v := 10) rfl ?_
    refine e_12 (f_182 (pc := 259) (e := (259, 12, 0, 0, 0, 0, 0, 260)) rfl) rfl ?_
    refine e_90 zA (f_182 (pc := 260) (e := (260, 90, 11, 14, 0, 171, 1266, 263)) rfl) rfl (hT 102 rfl) rfl rfl ?_
    refine e_32 (f_182 (pc := 263) (e := (263, 32, 0, 0, 0, 0, 0, 264)) rfl) ?_
    refine e_12 (f_182 (pc := 264) (e := (264, 12, 0, 0, 0, 0, 0, 265)) rfl) rfl ?_
    refine e_130 (f_182 (pc := 265) (e := (265, 130, 225, 0, 11, 151, 1259, 268)) rfl) zA (as := [yr (some 102)]) (rest := [yi _, yr (some 102)]) rfl rfl rfl rfl (Nat.le_of_ble_eq_true rfl) (Nat.le_of_ble_eq_true rfl) ⟨_, _, _, rfl, (hT 102 rfl)⟩ (mc := 0) (ms := 0) (Nat.zero_le _) (Nat.zero_le _) ?_
    refine e_K ?_ F
    rintro r h' ⟨r3, I2, rfl, rfl, F⟩
    refine e_30 (f_182 (pc := 268) (e := (268, 30, 0, 0, 0, 0, 0, 269)) rfl) ?_
    refine e_1 (f_182 (pc := 269) (e := (269, 1, 48, 0, 0, 0, 0, 271)) rfl) (v := 48) rfl ?_
    refine e_31 (f_182 (pc := 271) (e := (271, 31, 0, 0, 0, 0, 0, 272)) rfl) ?_
    refine e_91 zA (f_182 (pc := 272) (e := (272, 91, 11, 14, 0, 171, 1266, 275)) rfl) rfl (hT 102 rfl) rfl rfl trivial ?_
    replace F := F _ rfl
    refine e_lo [0, 2, 3] rfl ?_
    exact F
set_option maxRecDepth 20000 in
theorem B_182_275 (hT : yLT T) (hR : yLR R) {x2 x3 : Int} (F : ∀ I1, I1 = yU I 102 13 (yadd (I 102 13) 1) → (∀ I2, I2 = yU I1 102 4 (yadd (I1 102 4) 1) → (yW l zSS D cy zFk z d 182 bc bs K 0 0 181 [(0, yr (some 102)), (2, yi x2), (3, yi x3)] [] (N, T, R, I2)))) :
    yW l zSS D cy zFk z d 182 bc bs K 0 0 275 [(0, yr (some 102)), (2, yi x2), (3, yi x3)] [] (N, T, R, I) := by
  refine e_12 (f_182 (pc := 275) (e := (275, 12, 0, 0, 0, 0, 0, 276)) rfl) rfl ?_
  refine e_50 (f_182 (pc := 276) (e := (276, 50, 0, 0, 0, 0, 0, 277)) rfl) rfl ?_
  refine e_90 zA (f_182 (pc := 277) (e := (277, 90, 11, 13, 0, 158, 1261, 280)) rfl) rfl (hT 102 rfl) rfl rfl ?_
  refine e_0 (f_182 (pc := 280) (e := (280, 0, 1, 0, 0, 0, 0, 281)) rfl) (v := 1) rfl ?_
  refine e_30 (f_182 (pc := 281) (e := (281, 30, 0, 0, 0, 0, 0, 282)) rfl) ?_
  refine e_91 zA (f_182 (pc := 282) (e := (282, 91, 11, 13, 0, 158, 1261, 285)) rfl) rfl (hT 102 rfl) rfl rfl trivial ?_
  replace F := F _ rfl
  refine e_12 (f_182 (pc := 285) (e := (285, 12, 0, 0, 0, 0, 0, 286)) rfl) rfl ?_
  refine e_50 (f_182 (pc := 286) (e := (286, 50, 0, 0, 0, 0, 0, 287)) rfl) rfl ?_
  refine e_90 zA (f_182 (pc := 287) (e := (287, 90, 11, 4, 0, 21, 1260, 290)) rfl) rfl (hT 102 rfl) rfl rfl ?_
  refine e_0 (f_182 (pc := 290) (e := (290, 0, 1, 0, 0, 0, 0, 291)) rfl) (v := 1) rfl ?_
  refine e_30 (f_182 (pc := 291) (e := (291, 30, 0, 0, 0, 0, 0, 292)) rfl) ?_
  refine e_91 zA (f_182 (pc := 292) (e := (292, 91, 11, 4, 0, 21, 1260, 295)) rfl) rfl (hT 102 rfl) rfl rfl trivial ?_
  replace F := F _ rfl
  refine e_80 (f_182 (pc := 295) (e := (295, 80, 181, 0, 0, 0, 0, 298)) rfl) ?_
  refine e_lo [0, 2, 3] rfl ?_
  exact F

/-! hasRoom(I)Z -/
set_option maxRecDepth 20000 in
theorem B_183_0 (hT : yLT T) (hR : yLR R) {x1 : Int} (F : yW l zSS D cy zFk z d 168 0 0 (fun r h' => ∃ r2 I1, r = some (yi r2) ∧ h' = (N, T, R, I1) ∧ (0 ≤ (yadd 210 x1) ∧ (yadd 210 x1) < 1188 ∧ (((yadd 1 (I1 104 (yadd 210 x1).toNat)) ≤ r2 → K (some (yi 0)) (N, T, R, I1)) ∧ (¬ ((yadd 1 (I1 104 (yadd 210 x1).toNat)) ≤ r2) → K (some (yi 1)) (N, T, R, I1))))) 0 0 0 [(0, yr (some 102)), (1, yi x1)] [] (N, T, R, I)) :
    yW l zSS D cy zFk z (d + 1) 183 bc bs K 0 0 0 [(0, yr (some 102)), (1, yi x1)] [] (N, T, R, I) := by
  refine e_12 (f_183 (pc := 0) (e := (0, 12, 0, 0, 0, 0, 0, 1)) rfl) rfl ?_
  refine e_10 (f_183 (pc := 1) (e := (1, 10, 1, 0, 0, 0, 0, 2)) rfl) rfl ?_
  refine e_130 (f_183 (pc := 2) (e := (2, 130, 168, 0, 11, 265, 1248, 5)) rfl) zA (as := [yr (some 102), yi x1]) (rest := []) rfl rfl rfl rfl (Nat.le_of_ble_eq_true rfl) (Nat.le_of_ble_eq_true rfl) ⟨_, _, _, rfl, (hT 102 rfl)⟩ (mc := 0) (ms := 0) (Nat.zero_le _) (Nat.zero_le _) ?_
  refine e_K ?_ F
  rintro r h' ⟨r2, I1, rfl, rfl, F⟩
  refine e_0 (f_183 (pc := 5) (e := (5, 0, 1, 0, 0, 0, 0, 6)) rfl) (v := 1) rfl ?_
  refine e_12 (f_183 (pc := 6) (e := (6, 12, 0, 0, 0, 0, 0, 7)) rfl) rfl ?_
  refine e_90r zA (f_183 (pc := 7) (e := (7, 90, 11, 6, 3, 33, 1159, 10)) rfl) rfl (hT 102 rfl) rfl rfl (hR 102 6 rfl) ?_
  refine e_2 (f_183 (pc := 10) (e := (10, 2, 210, 0, 0, 0, 0, 13)) rfl) (v := 210) rfl ?_
  refine e_10 (f_183 (pc := 13) (e := (13, 10, 1, 0, 0, 0, 0, 14)) rfl) rfl ?_
  refine e_30 (f_183 (pc := 14) (e := (14, 30, 0, 0, 0, 0, 0, 15)) rfl) ?_
  obtain ⟨b3, b4, F⟩ := F
  refine e_110 (f_183 (pc := 15) (e := (15, 110, 0, 0, 0, 0, 0, 16)) rfl) rfl (hT 104 rfl) b3 b4 ?_
  refine e_30 (f_183 (pc := 16) (e := (16, 30, 0, 0, 0, 0, 0, 17)) rfl) ?_
  refine e_73 (f_183 (pc := 17) (e := (17, 73, 24, 0, 0, 0, 0, 20)) rfl) (fun c5 => ?_) (fun c5 => ?_)
  · replace F := F.1 c5
    refine e_0 (f_183 (pc := 24) (e := (24, 0, 0, 0, 0, 0, 0, 25)) rfl) (v := 0) rfl ?_
    exact e_121 (f_183 (pc := 25) (e := (25, 121, 0, 0, 0, 0, 0, 0)) rfl) (.inl rfl) F
  · replace F := F.2 c5
    refine e_0 (f_183 (pc := 20) (e := (20, 0, 1, 0, 0, 0, 0, 21)) rfl) (v := 1) rfl ?_
    refine e_80 (f_183 (pc := 21) (e := (21, 80, 25, 0, 0, 0, 0, 24)) rfl) ?_
    exact e_121 (f_183 (pc := 25) (e := (25, 121, 0, 0, 0, 0, 0, 0)) rfl) (.inr rfl) F

/-! image(I)Z -/
set_option maxRecDepth 20000 in
theorem B_184_0 (hT : yLT T) (hR : yLR R) {x1 : Int} (F : ∀ I1, I1 = yU I 102 0 0 → (yW l zSS D cy zFk z d 191 0 0 (fun r h' => ∃ r3 I2, r = some (yi r3) ∧ h' = (N, T, R, I2) ∧ ((r3 ≠ 0 → yW l zSS D cy zFk z (d + 1) 184 bc bs K 0 0 18 [(0, yr (some 102)), (1, yi x1), (2, yi 0)] [] (N, T, R, I2)) ∧ (¬ (r3 ≠ 0) → K (some (yi 0)) (N, T, R, I2)))) 0 0 0 [(0, yi x1), (1, yi 0), (2, yi 1)] [] (N, T, R, I1))) :
    yW l zSS D cy zFk z (d + 1) 184 bc bs K 0 0 0 [(0, yr (some 102)), (1, yi x1)] [] (N, T, R, I) := by
  refine e_12 (f_184 (pc := 0) (e := (0, 12, 0, 0, 0, 0, 0, 1)) rfl) rfl ?_
  refine e_0 (f_184 (pc := 1) (e := (1, 0, 0, 0, 0, 0, 0, 2)) rfl) (v := 0) rfl ?_
  refine e_91 zA (f_184 (pc := 2) (e := (2, 91, 11, 0, 0, 1, 1216, 5)) rfl) rfl (hT 102 rfl) rfl rfl trivial ?_
  replace F := F _ rfl
  refine e_10 (f_184 (pc := 5) (e := (5, 10, 1, 0, 0, 0, 0, 6)) rfl) rfl ?_
  refine e_0 (f_184 (pc := 6) (e := (6, 0, 0, 0, 0, 0, 0, 7)) rfl) (v := 0) rfl ?_
  refine e_0 (f_184 (pc := 7) (e := (7, 0, 1, 0, 0, 0, 0, 8)) rfl) (v := 1) rfl ?_
  refine e_132 (f_184 (pc := 8) (e := (8, 132, 191, 2, 11, 193, 1245, 11)) rfl) zA (as := [yi x1, yi 0, yi 1]) (rest := []) rfl rfl rfl rfl (Nat.le_of_ble_eq_true rfl) (Nat.le_of_ble_eq_true rfl) (mc := 0) (ms := 0) (Nat.zero_le _) (Nat.zero_le _) ?_
  refine e_K ?_ F
  rintro r h' ⟨r3, I2, rfl, rfl, F⟩
  refine e_61 (f_184 (pc := 11) (e := (11, 61, 16, 0, 0, 0, 0, 14)) rfl) (fun c4 => ?_) (fun c4 => ?_)
  · replace F := F.1 c4
    refine e_0 (f_184 (pc := 16) (e := (16, 0, 0, 0, 0, 0, 0, 17)) rfl) (v := 0) rfl ?_
    refine e_20 (f_184 (pc := 17) (e := (17, 20, 2, 0, 0, 0, 0, 18)) rfl) ?_
    refine e_lo [0, 1, 2] rfl ?_
    exact F
  · replace F := F.2 c4
    refine e_0 (f_184 (pc := 14) (e := (14, 0, 0, 0, 0, 0, 0, 15)) rfl) (v := 0) rfl ?_
    exact e_121 (f_184 (pc := 15) (e := (15, 121, 0, 0, 0, 0, 0, 16)) rfl) (.inl rfl) F
set_option maxRecDepth 20000 in
theorem B_184_18 (hT : yLT T) (hR : yLR R) {x1 x2 : Int} (F : (1188 ≤ x2 → yW l zSS D cy zFk z d 184 bc bs K 0 0 51 [(0, yr (some 102)), (1, yi x1), (2, yi 0)] [] (N, T, R, I)) ∧ (¬ (1188 ≤ x2) → 0 ≤ x2 ∧ x2 < 1188 ∧ (0 ≤ (yadd (ymul 1188 x1) x2) ∧ (yadd (ymul 1188 x1) x2) < 2376 ∧ (∀ I6, I6 = yU I 123 ((yadd (ymul 1188 x1) x2).toNat) (ynar 1 (I 104 x2.toNat)) → (yW l zSS D cy zFk z d 184 bc bs K 0 0 18 [(0, yr (some 102)), (1, yi x1), (2, yi (yadd x2 1))] [] (N, T, R, I6)))))) :
    yW l zSS D cy zFk z d 184 bc bs K 0 0 18 [(0, yr (some 102)), (1, yi x1), (2, yi x2)] [] (N, T, R, I) := by
  refine e_10 (f_184 (pc := 18) (e := (18, 10, 2, 0, 0, 0, 0, 19)) rfl) rfl ?_
  refine e_2 (f_184 (pc := 19) (e := (19, 2, 1188, 0, 0, 0, 0, 22)) rfl) (v := 1188) rfl ?_
  refine e_73 (f_184 (pc := 22) (e := (22, 73, 49, 0, 0, 0, 0, 25)) rfl) (fun c1 => ?_) (fun c1 => ?_)
  · replace F := F.1 c1
    refine e_0 (f_184 (pc := 49) (e := (49, 0, 0, 0, 0, 0, 0, 50)) rfl) (v := 0) rfl ?_
    refine e_20 (f_184 (pc := 50) (e := (50, 20, 2, 0, 0, 0, 0, 51)) rfl) ?_
    refine e_lo [0, 1, 2] rfl ?_
    exact F
  · replace F := F.2 c1
    refine e_12 (f_184 (pc := 25) (e := (25, 12, 0, 0, 0, 0, 0, 26)) rfl) rfl ?_
    refine e_90r zA (f_184 (pc := 26) (e := (26, 90, 11, 54, 3, 94, 1179, 29)) rfl) rfl (hT 102 rfl) rfl rfl (hR 102 54 rfl) ?_
    refine e_2 (f_184 (pc := 29) (e := (29, 2, 1188, 0, 0, 0, 0, 32)) rfl) (v := 1188) rfl ?_
    refine e_10 (f_184 (pc := 32) (e := (32, 10, 1, 0, 0, 0, 0, 33)) rfl) rfl ?_
    refine e_32 (f_184 (pc := 33) (e := (33, 32, 0, 0, 0, 0, 0, 34)) rfl) ?_
    refine e_10 (f_184 (pc := 34) (e := (34, 10, 2, 0, 0, 0, 0, 35)) rfl) rfl ?_
    refine e_30 (f_184 (pc := 35) (e := (35, 30, 0, 0, 0, 0, 0, 36)) rfl) ?_
    refine e_12 (f_184 (pc := 36) (e := (36, 12, 0, 0, 0, 0, 0, 37)) rfl) rfl ?_
    refine e_90r zA (f_184 (pc := 37) (e := (37, 90, 11, 6, 3, 33, 1159, 40)) rfl) rfl (hT 102 rfl) rfl rfl (hR 102 6 rfl) ?_
    refine e_10 (f_184 (pc := 40) (e := (40, 10, 2, 0, 0, 0, 0, 41)) rfl) rfl ?_
    obtain ⟨b2, b3, F⟩ := F
    refine e_110 (f_184 (pc := 41) (e := (41, 110, 0, 0, 0, 0, 0, 42)) rfl) rfl (hT 104 rfl) b2 b3 ?_
    obtain ⟨b4, b5, F⟩ := F
    refine e_111 (f_184 (pc := 42) (e := (42, 111, 0, 0, 0, 0, 0, 43)) rfl) rfl (hT 123 rfl) b4 b5 ?_
    replace F := F _ rfl
    refine e_26 (f_184 (pc := 43) (e := (43, 26, 2, 1, 0, 0, 0, 46)) rfl) (w := 1) rfl rfl ?_
    refine e_80 (f_184 (pc := 46) (e := (46, 80, 18, 0, 0, 0, 0, 49)) rfl) ?_
    refine e_lo [0, 1, 2] rfl ?_
    exact F
set_option maxRecDepth 20000 in
theorem B_184_51 (hT : yLT T) (hR : yLR R) {x1 x2 : Int} (F : (8 ≤ x2 → 0 ≤ x1 ∧ x1 < 2 ∧ (∀ I4, I4 = yU I 125 x1.toNat (ynar 3 1) → (K (some (yi 1)) (N, T, R, I4)))) ∧ (¬ (8 ≤ x2) → 0 ≤ x2 ∧ x2 < 16 ∧ (0 ≤ (yadd (ymul 8 x1) x2) ∧ (yadd (ymul 8 x1) x2) < 16 ∧ (∀ I9, I9 = yU I 124 ((yadd (ymul 8 x1) x2).toNat) (I 107 x2.toNat) → (yW l zSS D cy zFk z d 184 bc bs K 0 0 51 [(0, yr (some 102)), (1, yi x1), (2, yi (yadd x2 1))] [] (N, T, R, I9)))))) :
    yW l zSS D cy zFk z d 184 bc bs K 0 0 51 [(0, yr (some 102)), (1, yi x1), (2, yi x2)] [] (N, T, R, I) := by
  refine e_10 (f_184 (pc := 51) (e := (51, 10, 2, 0, 0, 0, 0, 52)) rfl) rfl ?_
  refine e_1 (f_184 (pc := 52) (e := (52, 1, 8, 0, 0, 0, 0, 54)) rfl) (v := 8) rfl ?_
  refine e_73 (f_184 (pc := 54) (e := (54, 73, 80, 0, 0, 0, 0, 57)) rfl) (fun c1 => ?_) (fun c1 => ?_)
  · replace F := F.1 c1
    refine e_12 (f_184 (pc := 80) (e := (80, 12, 0, 0, 0, 0, 0, 81)) rfl) rfl ?_
    refine e_90r zA (f_184 (pc := 81) (e := (81, 90, 11, 56, 3, 100, 1181, 84)) rfl) rfl (hT 102 rfl) rfl rfl (hR 102 56 rfl) ?_
    refine e_10 (f_184 (pc := 84) (e := (84, 10, 1, 0, 0, 0, 0, 85)) rfl) rfl ?_
    refine e_0 (f_184 (pc := 85) (e := (85, 0, 1, 0, 0, 0, 0, 86)) rfl) (v := 1) rfl ?_
    obtain ⟨b2, b3, F⟩ := F
    refine e_113 (f_184 (pc := 86) (e := (86, 113, 0, 0, 0, 0, 0, 87)) rfl) rfl (hT 125 rfl) b2 b3 (.inr rfl) ?_
    replace F := F _ rfl
    refine e_0 (f_184 (pc := 87) (e := (87, 0, 1, 0, 0, 0, 0, 88)) rfl) (v := 1) rfl ?_
    exact e_121 (f_184 (pc := 88) (e := (88, 121, 0, 0, 0, 0, 0, 0)) rfl) (.inr rfl) F
  · replace F := F.2 c1
    refine e_12 (f_184 (pc := 57) (e := (57, 12, 0, 0, 0, 0, 0, 58)) rfl) rfl ?_
    refine e_90r zA (f_184 (pc := 58) (e := (58, 90, 11, 55, 3, 97, 1180, 61)) rfl) rfl (hT 102 rfl) rfl rfl (hR 102 55 rfl) ?_
    refine e_1 (f_184 (pc := 61) (e := (61, 1, 8, 0, 0, 0, 0, 63)) rfl) (v := 8) rfl ?_
    refine e_10 (f_184 (pc := 63) (e := (63, 10, 1, 0, 0, 0, 0, 64)) rfl) rfl ?_
    refine e_32 (f_184 (pc := 64) (e := (64, 32, 0, 0, 0, 0, 0, 65)) rfl) ?_
    refine e_10 (f_184 (pc := 65) (e := (65, 10, 2, 0, 0, 0, 0, 66)) rfl) rfl ?_
    refine e_30 (f_184 (pc := 66) (e := (66, 30, 0, 0, 0, 0, 0, 67)) rfl) ?_
    refine e_12 (f_184 (pc := 67) (e := (67, 12, 0, 0, 0, 0, 0, 68)) rfl) rfl ?_
    refine e_90r zA (f_184 (pc := 68) (e := (68, 90, 11, 9, 3, 43, 1162, 71)) rfl) rfl (hT 102 rfl) rfl rfl (hR 102 9 rfl) ?_
    refine e_10 (f_184 (pc := 71) (e := (71, 10, 2, 0, 0, 0, 0, 72)) rfl) rfl ?_
    obtain ⟨b5, b6, F⟩ := F
    refine e_114 (f_184 (pc := 72) (e := (72, 114, 0, 0, 0, 0, 0, 73)) rfl) rfl (hT 107 rfl) b5 b6 ?_
    obtain ⟨b7, b8, F⟩ := F
    refine e_115 (f_184 (pc := 73) (e := (73, 115, 0, 0, 0, 0, 0, 74)) rfl) rfl (hT 124 rfl) b7 b8 ?_
    replace F := F _ rfl
    refine e_26 (f_184 (pc := 74) (e := (74, 26, 2, 1, 0, 0, 0, 77)) rfl) (w := 1) rfl rfl ?_
    refine e_80 (f_184 (pc := 77) (e := (77, 80, 51, 0, 0, 0, 0, 80)) rfl) ?_
    refine e_lo [0, 1, 2] rfl ?_
    exact F

/-! invited(I)I -/
set_option maxRecDepth 20000 in
theorem B_185_0 (hT : yLT T) (hR : yLR R) {x1 : Int} (F : ∀ I1, I1 = yU I 102 0 0 → (yW l zSS D cy zFk z d 191 0 0 (fun r h' => ∃ r3 I2, r = some (yi r3) ∧ h' = (N, T, R, I2) ∧ ((r3 = 0 → K (some (yi (-1))) (N, T, R, I2)) ∧ (¬ (r3 = 0) → yW l zSS D cy zFk z d 191 0 0 (fun r h' => ∃ r6 I5, r = some (yi r6) ∧ h' = (N, T, R, I5) ∧ ((r6 ≠ 0 → yW l zSS D cy zFk z d 249 0 0 (fun r h' => ∃ I8, r = none ∧ h' = (N, T, R, I8) ∧ (yW l zSS D cy zFk z (d + 1) 185 bc bs K 0 0 39 [(0, yr (some 102)), (1, yi x1), (2, yi (I1 104 2)), (3, yi 0)] [] (N, T, R, I8))) 0 0 0 [(0, yr (some 102))] [] (N, T, R, I5)) ∧ (¬ (r6 ≠ 0) → K (some (yi (-1))) (N, T, R, I5)))) 0 0 0 [(0, yi (I1 104 2)), (1, yi 1), (2, yi 4)] [] (N, T, R, I2)))) 0 0 0 [(0, yi x1), (1, yi 1), (2, yi 30)] [] (N, T, R, I1))) :
    yW l zSS D cy zFk z (d + 1) 185 bc bs K 0 0 0 [(0, yr (some 102)), (1, yi x1)] [] (N, T, R, I) := by
  refine e_12 (f_185 (pc := 0) (e := (0, 12, 0, 0, 0, 0, 0, 1)) rfl) rfl ?_
  refine e_0 (f_185 (pc := 1) (e := (1, 0, 0, 0, 0, 0, 0, 2)) rfl) (v := 0) rfl ?_
  refine e_91 zA (f_185 (pc := 2) (e := (2, 91, 11, 0, 0, 1, 1216, 5)) rfl) rfl (hT 102 rfl) rfl rfl trivial ?_
  replace F := F _ rfl
  refine e_12 (f_185 (pc := 5) (e := (5, 12, 0, 0, 0, 0, 0, 6)) rfl) rfl ?_
  refine e_90r zA (f_185 (pc := 6) (e := (6, 90, 11, 6, 3, 33, 1159, 9)) rfl) rfl (hT 102 rfl) rfl rfl (hR 102 6 rfl) ?_
  refine e_0 (f_185 (pc := 9) (e := (9, 0, 2, 0, 0, 0, 0, 10)) rfl) (v := 2) rfl ?_
  refine e_110 (f_185 (pc := 10) (e := (10, 110, 0, 0, 0, 0, 0, 11)) rfl) rfl (hT 104 rfl) (by decide) (by decide) ?_
  refine e_20 (f_185 (pc := 11) (e := (11, 20, 2, 0, 0, 0, 0, 12)) rfl) ?_
  refine e_10 (f_185 (pc := 12) (e := (12, 10, 1, 0, 0, 0, 0, 13)) rfl) rfl ?_
  refine e_0 (f_185 (pc := 13) (e := (13, 0, 1, 0, 0, 0, 0, 14)) rfl) (v := 1) rfl ?_
  refine e_1 (f_185 (pc := 14) (e := (14, 1, 30, 0, 0, 0, 0, 16)) rfl) (v := 30) rfl ?_
  refine e_132 (f_185 (pc := 16) (e := (16, 132, 191, 2, 11, 193, 1245, 19)) rfl) zA (as := [yi x1, yi 1, yi 30]) (rest := []) rfl rfl rfl rfl (Nat.le_of_ble_eq_true rfl) (Nat.le_of_ble_eq_true rfl) (mc := 0) (ms := 0) (Nat.zero_le _) (Nat.zero_le _) ?_
  refine e_K ?_ F
  rintro r h' ⟨r3, I2, rfl, rfl, F⟩
  refine e_60 (f_185 (pc := 19) (e := (19, 60, 31, 0, 0, 0, 0, 22)) rfl) (fun c4 => ?_) (fun c4 => ?_)
  · replace F := F.1 c4
    refine e_0 (f_185 (pc := 31) (e := (31, 0, 4294967295, 0, 0, 0, 0, 32)) rfl) (v := (-1)) rfl ?_
    exact e_120 (f_185 (pc := 32) (e := (32, 120, 0, 0, 0, 0, 0, 33)) rfl) F
  · replace F := F.2 c4
    refine e_10 (f_185 (pc := 22) (e := (22, 10, 2, 0, 0, 0, 0, 23)) rfl) rfl ?_
    refine e_0 (f_185 (pc := 23) (e := (23, 0, 1, 0, 0, 0, 0, 24)) rfl) (v := 1) rfl ?_
    refine e_0 (f_185 (pc := 24) (e := (24, 0, 4, 0, 0, 0, 0, 25)) rfl) (v := 4) rfl ?_
    refine e_132 (f_185 (pc := 25) (e := (25, 132, 191, 2, 11, 193, 1245, 28)) rfl) zA (as := [yi _, yi 1, yi 4]) (rest := []) rfl rfl rfl rfl (Nat.le_of_ble_eq_true rfl) (Nat.le_of_ble_eq_true rfl) (mc := 0) (ms := 0) (Nat.zero_le _) (Nat.zero_le _) ?_
    refine e_K ?_ F
    rintro r h' ⟨r6, I5, rfl, rfl, F⟩
    refine e_61 (f_185 (pc := 28) (e := (28, 61, 33, 0, 0, 0, 0, 31)) rfl) (fun c7 => ?_) (fun c7 => ?_)
    · replace F := F.1 c7
      refine e_12 (f_185 (pc := 33) (e := (33, 12, 0, 0, 0, 0, 0, 34)) rfl) rfl ?_
      refine e_130 (f_185 (pc := 34) (e := (34, 130, 249, 0, 11, 374, 1234, 37)) rfl) zA (as := [yr (some 102)]) (rest := []) rfl rfl rfl rfl (Nat.le_of_ble_eq_true rfl) (Nat.le_of_ble_eq_true rfl) ⟨_, _, _, rfl, (hT 102 rfl)⟩ (mc := 0) (ms := 0) (Nat.zero_le _) (Nat.zero_le _) ?_
      refine e_K ?_ F
      rintro r h' ⟨I8, rfl, rfl, F⟩
      refine e_0 (f_185 (pc := 37) (e := (37, 0, 0, 0, 0, 0, 0, 38)) rfl) (v := 0) rfl ?_
      refine e_20 (f_185 (pc := 38) (e := (38, 20, 3, 0, 0, 0, 0, 39)) rfl) ?_
      refine e_lo [0, 1, 2, 3] rfl ?_
      exact F
    · replace F := F.2 c7
      refine e_0 (f_185 (pc := 31) (e := (31, 0, 4294967295, 0, 0, 0, 0, 32)) rfl) (v := (-1)) rfl ?_
      exact e_120 (f_185 (pc := 32) (e := (32, 120, 0, 0, 0, 0, 0, 33)) rfl) F
set_option maxRecDepth 20000 in
theorem B_185_39 (hT : yLT T) (hR : yLR R) {x1 x2 x3 : Int} (F : ((yshl 1 (ymul 2 x2)) ≤ x3 → K (some (yi (-1))) (N, T, R, I)) ∧ (¬ ((yshl 1 (ymul 2 x2)) ≤ x3) → yW l zSS D cy zFk z d 185 bc bs K 0 0 51 [(0, yr (some 102)), (1, yi x1), (2, yi x2), (3, yi x3), (4, yi 0)] [] (N, T, R, I))) :
    yW l zSS D cy zFk z d 185 bc bs K 0 0 39 [(0, yr (some 102)), (1, yi x1), (2, yi x2), (3, yi x3)] [] (N, T, R, I) := by
  refine e_10 (f_185 (pc := 39) (e := (39, 10, 3, 0, 0, 0, 0, 40)) rfl) rfl ?_
  refine e_0 (f_185 (pc := 40) (e := (40, 0, 1, 0, 0, 0, 0, 41)) rfl) (v := 1) rfl ?_
  refine e_0 (f_185 (pc := 41) (e := (41, 0, 2, 0, 0, 0, 0, 42)) rfl) (v := 2) rfl ?_
  refine e_10 (f_185 (pc := 42) (e := (42, 10, 2, 0, 0, 0, 0, 43)) rfl) rfl ?_
  refine e_32 (f_185 (pc := 43) (e := (43, 32, 0, 0, 0, 0, 0, 44)) rfl) ?_
  refine e_38 (f_185 (pc := 44) (e := (44, 38, 0, 0, 0, 0, 0, 45)) rfl) ?_
  refine e_73 (f_185 (pc := 45) (e := (45, 73, 119, 0, 0, 0, 0, 48)) rfl) (fun c1 => ?_) (fun c1 => ?_)
  · replace F := F.1 c1
    refine e_0 (f_185 (pc := 119) (e := (119, 0, 4294967295, 0, 0, 0, 0, 120)) rfl) (v := (-1)) rfl ?_
    exact e_120 (f_185 (pc := 120) (e := (120, 120, 0, 0, 0, 0, 0, 0)) rfl) F
  · replace F := F.2 c1
    refine e_0 (f_185 (pc := 48) (e := (48, 0, 0, 0, 0, 0, 0, 49)) rfl) (v := 0) rfl ?_
    refine e_21 (f_185 (pc := 49) (e := (49, 21, 4, 0, 0, 0, 0, 51)) rfl) ?_
    refine e_lo [0, 1, 2, 3, 4] rfl ?_
    exact F
set_option maxRecDepth 20000 in
theorem B_185_51 (hT : yLT T) (hR : yLR R) {x1 x2 x3 x4 : Int} (F : (x2 ≤ x4 → yW l zSS D cy zFk z d 193 0 0 (fun r h' => ∃ r3 I2, r = some (yi r3) ∧ h' = (N, T, R, I2) ∧ ((r3 ≠ 0 → yW l zSS D cy zFk z d 158 0 0 (fun r h' => ∃ I5, r = none ∧ h' = (N, T, R, I5) ∧ (yW l zSS D cy zFk z (d + 1) 185 bc bs K 0 0 39 [(0, yr (some 102)), (1, yi x1), (2, yi x2), (3, yi (yadd x3 1))] [] (N, T, R, I5))) 0 0 0 [(0, yr (some 102))] [] (N, T, R, I2)) ∧ (¬ (r3 ≠ 0) → yW l zSS D cy zFk z d 158 0 0 (fun r h' => ∃ I6, r = none ∧ h' = (N, T, R, I6) ∧ (K (some (yi x3)) (N, T, R, I6))) 0 0 0 [(0, yr (some 102))] [] (N, T, R, I2)))) 0 0 0 [(0, yr (some 102))] [] (N, T, R, I)) ∧ (¬ (x2 ≤ x4) → 0 ≤ (yadd 462 x4) ∧ (yadd 462 x4) < 1188 ∧ (∀ I9, I9 = yU I 104 ((yadd 462 x4).toNat) (ynar 1 (ymul x1 (yand (yshr x3 (ymul 2 (ysub (ysub x2 1) x4))) 3))) → (yW l zSS D cy zFk z (d + 1) 185 bc bs K 0 0 51 [(0, yr (some 102)), (1, yi x1), (2, yi x2), (3, yi x3), (4, yi (yadd x4 1))] [] (N, T, R, I9))))) :
    yW l zSS D cy zFk z (d + 1) 185 bc bs K 0 0 51 [(0, yr (some 102)), (1, yi x1), (2, yi x2), (3, yi x3), (4, yi x4)] [] (N, T, R, I) := by
  refine e_11 (f_185 (pc := 51) (e := (51, 11, 4, 0, 0, 0, 0, 53)) rfl) rfl ?_
  refine e_10 (f_185 (pc := 53) (e := (53, 10, 2, 0, 0, 0, 0, 54)) rfl) rfl ?_
  refine e_73 (f_185 (pc := 54) (e := (54, 73, 88, 0, 0, 0, 0, 57)) rfl) (fun c1 => ?_) (fun c1 => ?_)
  · replace F := F.1 c1
    refine e_12 (f_185 (pc := 88) (e := (88, 12, 0, 0, 0, 0, 0, 89)) rfl) rfl ?_
    refine e_130 (f_185 (pc := 89) (e := (89, 130, 193, 0, 11, 389, 1235, 92)) rfl) zA (as := [yr (some 102)]) (rest := []) rfl rfl rfl rfl (Nat.le_of_ble_eq_true rfl) (Nat.le_of_ble_eq_true rfl) ⟨_, _, _, rfl, (hT 102 rfl)⟩ (mc := 0) (ms := 0) (Nat.zero_le _) (Nat.zero_le _) ?_
    refine e_K ?_ F
    rintro r h' ⟨r3, I2, rfl, rfl, F⟩
    refine e_61 (f_185 (pc := 92) (e := (92, 61, 99, 0, 0, 0, 0, 95)) rfl) (fun c4 => ?_) (fun c4 => ?_)
    · replace F := F.1 c4
      refine e_0 (f_185 (pc := 99) (e := (99, 0, 0, 0, 0, 0, 0, 100)) rfl) (v := 0) rfl ?_
      refine e_21 (f_185 (pc := 100) (e := (100, 21, 4, 0, 0, 0, 0, 102)) rfl) ?_
      refine e_12 (f_185 (pc := 102) (e := (102, 12, 0, 0, 0, 0, 0, 103)) rfl) rfl ?_
      refine e_130 (f_185 (pc := 103) (e := (103, 130, 158, 0, 11, 383, 1236, 106)) rfl) zA (as := [yr (some 102)]) (rest := []) rfl rfl rfl rfl (Nat.le_of_ble_eq_true rfl) (Nat.le_of_ble_eq_true rfl) ⟨_, _, _, rfl, (hT 102 rfl)⟩ (mc := 0) (ms := 0) (Nat.zero_le _) (Nat.zero_le _) ?_
      refine e_K ?_ F
      rintro r h' ⟨I5, rfl, rfl, F⟩
      refine e_11 (f_185 (pc := 106) (e := (106, 11, 4, 0, 0, 0, 0, 108)) rfl) rfl ?_
      refine e_60 (f_185 (pc := 108) (e := (108, 60, 113, 0, 0, 0, 0, 111)) rfl) (fun _ => ?_) (fun g => absurd (by decide) g)
      refine e_26 (f_185 (pc := 113) (e := (113, 26, 3, 1, 0, 0, 0, 116)) rfl) (w := 1) rfl rfl ?_
      refine e_80 (f_185 (pc := 116) (e := (116, 80, 39, 0, 0, 0, 0, 119)) rfl) ?_
      refine e_lo [0, 1, 2, 3] rfl ?_
      exact F
    · replace F := F.2 c4
      refine e_0 (f_185 (pc := 95) (e := (95, 0, 1, 0, 0, 0, 0, 96)) rfl) (v := 1) rfl ?_
      refine e_80 (f_185 (pc := 96) (e := (96, 80, 100, 0, 0, 0, 0, 99)) rfl) ?_
      refine e_21 (f_185 (pc := 100) (e := (100, 21, 4, 0, 0, 0, 0, 102)) rfl) ?_
      refine e_12 (f_185 (pc := 102) (e := (102, 12, 0, 0, 0, 0, 0, 103)) rfl) rfl ?_
      refine e_130 (f_185 (pc := 103) (e := (103, 130, 158, 0, 11, 383, 1236, 106)) rfl) zA (as := [yr (some 102)]) (rest := []) rfl rfl rfl rfl (Nat.le_of_ble_eq_true rfl) (Nat.le_of_ble_eq_true rfl) ⟨_, _, _, rfl, (hT 102 rfl)⟩ (mc := 0) (ms := 0) (Nat.zero_le _) (Nat.zero_le _) ?_
      refine e_K ?_ F
      rintro r h' ⟨I6, rfl, rfl, F⟩
      refine e_11 (f_185 (pc := 106) (e := (106, 11, 4, 0, 0, 0, 0, 108)) rfl) rfl ?_
      refine e_60 (f_185 (pc := 108) (e := (108, 60, 113, 0, 0, 0, 0, 111)) rfl) (fun g => absurd g (by decide)) (fun _ => ?_)
      refine e_10 (f_185 (pc := 111) (e := (111, 10, 3, 0, 0, 0, 0, 112)) rfl) rfl ?_
      exact e_120 (f_185 (pc := 112) (e := (112, 120, 0, 0, 0, 0, 0, 113)) rfl) F
  · replace F := F.2 c1
    refine e_12 (f_185 (pc := 57) (e := (57, 12, 0, 0, 0, 0, 0, 58)) rfl) rfl ?_
    refine e_90r zA (f_185 (pc := 58) (e := (58, 90, 11, 6, 3, 33, 1159, 61)) rfl) rfl (hT 102 rfl) rfl rfl (hR 102 6 rfl) ?_
    refine e_2 (f_185 (pc := 61) (e := (61, 2, 462, 0, 0, 0, 0, 64)) rfl) (v := 462) rfl ?_
    refine e_11 (f_185 (pc := 64) (e := (64, 11, 4, 0, 0, 0, 0, 66)) rfl) rfl ?_
    refine e_30 (f_185 (pc := 66) (e := (66, 30, 0, 0, 0, 0, 0, 67)) rfl) ?_
    refine e_10 (f_185 (pc := 67) (e := (67, 10, 1, 0, 0, 0, 0, 68)) rfl) rfl ?_
    refine e_10 (f_185 (pc := 68) (e := (68, 10, 3, 0, 0, 0, 0, 69)) rfl) rfl ?_
    refine e_0 (f_185 (pc := 69) (e := (69, 0, 2, 0, 0, 0, 0, 70)) rfl) (v := 2) rfl ?_
    refine e_10 (f_185 (pc := 70) (e := (70, 10, 2, 0, 0, 0, 0, 71)) rfl) rfl ?_
    refine e_0 (f_185 (pc := 71) (e := (71, 0, 1, 0, 0, 0, 0, 72)) rfl) (v := 1) rfl ?_
    refine e_31 (f_185 (pc := 72) (e := (72, 31, 0, 0, 0, 0, 0, 73)) rfl) ?_
    refine e_11 (f_185 (pc := 73) (e := (73, 11, 4, 0, 0, 0, 0, 75)) rfl) rfl ?_
    refine e_31 (f_185 (pc := 75) (e := (75, 31, 0, 0, 0, 0, 0, 76)) rfl) ?_
    refine e_32 (f_185 (pc := 76) (e := (76, 32, 0, 0, 0, 0, 0, 77)) rfl) ?_
    refine e_39 (f_185 (pc := 77) (e := (77, 39, 0, 0, 0, 0, 0, 78)) rfl) ?_
    refine e_0 (f_185 (pc := 78) (e := (78, 0, 3, 0, 0, 0, 0, 79)) rfl) (v := 3) rfl ?_
    refine e_35 (f_185 (pc := 79) (e := (79, 35, 0, 0, 0, 0, 0, 80)) rfl) ?_
    refine e_32 (f_185 (pc := 80) (e := (80, 32, 0, 0, 0, 0, 0, 81)) rfl) ?_
    obtain ⟨b7, b8, F⟩ := F
    refine e_111 (f_185 (pc := 81) (e := (81, 111, 0, 0, 0, 0, 0, 82)) rfl) rfl (hT 104 rfl) b7 b8 ?_
    replace F := F _ rfl
    refine e_26 (f_185 (pc := 82) (e := (82, 26, 4, 1, 0, 0, 0, 85)) rfl) (w := 1) rfl rfl ?_
    refine e_80 (f_185 (pc := 85) (e := (85, 80, 51, 0, 0, 0, 0, 88)) rfl) ?_
    refine e_lo [0, 1, 2, 3, 4] rfl ?_
    exact F

/-! isAhead(II)Z -/
set_option maxRecDepth 20000 in
theorem B_186_0 (hT : yLT T) (hR : yLR R) {x1 x2 : Int} (F : 0 ≤ (yadd 342 x1) ∧ (yadd 342 x1) < 1188 ∧ (0 ≤ (yadd 342 x2) ∧ (yadd 342 x2) < 1188 ∧ (((I 104 (yadd 342 x1).toNat) = (I 104 (yadd 342 x2).toNat) → yW l zSS D cy zFk z d 186 bc bs K 0 0 45 [(0, yr (some 102)), (1, yi x1), (2, yi x2), (3, yi 0)] [] (N, T, R, I)) ∧ (¬ ((I 104 (yadd 342 x1).toNat) = (I 104 (yadd 342 x2).toNat)) → 0 ≤ (yadd 342 x1) ∧ (yadd 342 x1) < 1188 ∧ (((I 104 (yadd 342 x1).toNat) ≠ 1 → yW l zSS D cy zFk z d 186 bc bs K 0 0 42 [] [yi 0] (N, T, R, I)) ∧ (¬ ((I 104 (yadd 342 x1).toNat) ≠ 1) → yW l zSS D cy zFk z d 186 bc bs K 0 0 42 [] [yi 1] (N, T, R, I))))))) :
    yW l zSS D cy zFk z d 186 bc bs K 0 0 0 [(0, yr (some 102)), (1, yi x1), (2, yi x2)] [] (N, T, R, I) := by
  refine e_12 (f_186 (pc := 0) (e := (0, 12, 0, 0, 0, 0, 0, 1)) rfl) rfl ?_
  refine e_90r zA (f_186 (pc := 1) (e := (1, 90, 11, 6, 3, 33, 1159, 4)) rfl) rfl (hT 102 rfl) rfl rfl (hR 102 6 rfl) ?_
  refine e_2 (f_186 (pc := 4) (e := (4, 2, 342, 0, 0, 0, 0, 7)) rfl) (v := 342) rfl ?_
  refine e_10 (f_186 (pc := 7) (e := (7, 10, 1, 0, 0, 0, 0, 8)) rfl) rfl ?_
  refine e_30 (f_186 (pc := 8) (e := (8, 30, 0, 0, 0, 0, 0, 9)) rfl) ?_
  obtain ⟨b1, b2, F⟩ := F
  refine e_110 (f_186 (pc := 9) (e := (9, 110, 0, 0, 0, 0, 0, 10)) rfl) rfl (hT 104 rfl) b1 b2 ?_
  refine e_12 (f_186 (pc := 10) (e := (10, 12, 0, 0, 0, 0, 0, 11)) rfl) rfl ?_
  refine e_90r zA (f_186 (pc := 11) (e := (11, 90, 11, 6, 3, 33, 1159, 14)) rfl) rfl (hT 102 rfl) rfl rfl (hR 102 6 rfl) ?_
  refine e_2 (f_186 (pc := 14) (e := (14, 2, 342, 0, 0, 0, 0, 17)) rfl) (v := 342) rfl ?_
  refine e_10 (f_186 (pc := 17) (e := (17, 10, 2, 0, 0, 0, 0, 18)) rfl) rfl ?_
  refine e_30 (f_186 (pc := 18) (e := (18, 30, 0, 0, 0, 0, 0, 19)) rfl) ?_
  obtain ⟨b3, b4, F⟩ := F
  refine e_110 (f_186 (pc := 19) (e := (19, 110, 0, 0, 0, 0, 0, 20)) rfl) rfl (hT 104 rfl) b3 b4 ?_
  refine e_70 (f_186 (pc := 20) (e := (20, 70, 43, 0, 0, 0, 0, 23)) rfl) (fun c5 => ?_) (fun c5 => ?_)
  · replace F := F.1 c5
    refine e_0 (f_186 (pc := 43) (e := (43, 0, 0, 0, 0, 0, 0, 44)) rfl) (v := 0) rfl ?_
    refine e_20 (f_186 (pc := 44) (e := (44, 20, 3, 0, 0, 0, 0, 45)) rfl) ?_
    refine e_lo [0, 1, 2, 3] rfl ?_
    exact F
  · replace F := F.2 c5
    refine e_12 (f_186 (pc := 23) (e := (23, 12, 0, 0, 0, 0, 0, 24)) rfl) rfl ?_
    refine e_90r zA (f_186 (pc := 24) (e := (24, 90, 11, 6, 3, 33, 1159, 27)) rfl) rfl (hT 102 rfl) rfl rfl (hR 102 6 rfl) ?_
    refine e_2 (f_186 (pc := 27) (e := (27, 2, 342, 0, 0, 0, 0, 30)) rfl) (v := 342) rfl ?_
    refine e_10 (f_186 (pc := 30) (e := (30, 10, 1, 0, 0, 0, 0, 31)) rfl) rfl ?_
    refine e_30 (f_186 (pc := 31) (e := (31, 30, 0, 0, 0, 0, 0, 32)) rfl) ?_
    obtain ⟨b6, b7, F⟩ := F
    refine e_110 (f_186 (pc := 32) (e := (32, 110, 0, 0, 0, 0, 0, 33)) rfl) rfl (hT 104 rfl) b6 b7 ?_
    refine e_0 (f_186 (pc := 33) (e := (33, 0, 1, 0, 0, 0, 0, 34)) rfl) (v := 1) rfl ?_
    refine e_71 (f_186 (pc := 34) (e := (34, 71, 41, 0, 0, 0, 0, 37)) rfl) (fun c8 => ?_) (fun c8 => ?_)
    · replace F := F.1 c8
      refine e_0 (f_186 (pc := 41) (e := (41, 0, 0, 0, 0, 0, 0, 42)) rfl) (v := 0) rfl ?_
      refine e_lo [] rfl ?_
      exact F
    · replace F := F.2 c8
      refine e_0 (f_186 (pc := 37) (e := (37, 0, 1, 0, 0, 0, 0, 38)) rfl) (v := 1) rfl ?_
      refine e_80 (f_186 (pc := 38) (e := (38, 80, 42, 0, 0, 0, 0, 41)) rfl) ?_
      refine e_lo [] rfl ?_
      exact F
set_option maxRecDepth 20000 in
theorem B_186_42 (hT : yLT T) (hR : yLR R) {t0 : Int} (F : (t0 = 0 ∨ t0 = 1) ∧ K (some (yi t0)) (N, T, R, I)) :
    yW l zSS D cy zFk z d 186 bc bs K 0 0 42 [] [yi t0] (N, T, R, I) := by
  exact e_121 (f_186 (pc := 42) (e := (42, 121, 0, 0, 0, 0, 0, 43)) rfl) F.1 F.2
set_option maxRecDepth 20000 in
theorem B_186_45 (hT : yLT T) (hR : yLR R) {x1 x2 x3 : Int} (F : ((I 104 6) ≤ x3 → (x2 ≤ x1 → yW l zSS D cy zFk z d 186 bc bs K 0 0 162 [] [yi 0] (N, T, R, I)) ∧ (¬ (x2 ≤ x1) → yW l zSS D cy zFk z d 186 bc bs K 0 0 162 [] [yi 1] (N, T, R, I))) ∧ (¬ ((I 104 6) ≤ x3) → 0 ≤ (yadd 7 x3) ∧ (yadd 7 x3) < 1188 ∧ (((I 104 (yadd 7 x3).toNat) ≠ 0 → 0 ≤ (yadd 7 x3) ∧ (yadd 7 x3) < 1188 ∧ (((I 104 (yadd 7 x3).toNat) ≠ 1 → yW l zSS D cy zFk z d 186 bc bs K 0 0 96 [(0, yr (some 102)), (1, yi x1), (2, yi x2), (3, yi x3)] [yi 478] (N, T, R, I)) ∧ (¬ ((I 104 (yadd 7 x3).toNat) ≠ 1) → yW l zSS D cy zFk z d 186 bc bs K 0 0 96 [(0, yr (some 102)), (1, yi x1), (2, yi x2), (3, yi x3)] [yi 318] (N, T, R, I)))) ∧ (¬ ((I 104 (yadd 7 x3).toNat) ≠ 0) → yW l zSS D cy zFk z d 186 bc bs K 0 0 96 [(0, yr (some 102)), (1, yi x1), (2, yi x2), (3, yi x3)] [yi 310] (N, T, R, I))))) :
    yW l zSS D cy zFk z d 186 bc bs K 0 0 45 [(0, yr (some 102)), (1, yi x1), (2, yi x2), (3, yi x3)] [] (N, T, R, I) := by
  refine e_10 (f_186 (pc := 45) (e := (45, 10, 3, 0, 0, 0, 0, 46)) rfl) rfl ?_
  refine e_12 (f_186 (pc := 46) (e := (46, 12, 0, 0, 0, 0, 0, 47)) rfl) rfl ?_
  refine e_90r zA (f_186 (pc := 47) (e := (47, 90, 11, 6, 3, 33, 1159, 50)) rfl) rfl (hT 102 rfl) rfl rfl (hR 102 6 rfl) ?_
  refine e_1 (f_186 (pc := 50) (e := (50, 1, 6, 0, 0, 0, 0, 52)) rfl) (v := 6) rfl ?_
  refine e_110 (f_186 (pc := 52) (e := (52, 110, 0, 0, 0, 0, 0, 53)) rfl) rfl (hT 104 rfl) (by decide) (by decide) ?_
  refine e_73 (f_186 (pc := 53) (e := (53, 73, 152, 0, 0, 0, 0, 56)) rfl) (fun c1 => ?_) (fun c1 => ?_)
  · replace F := F.1 c1
    refine e_10 (f_186 (pc := 152) (e := (152, 10, 1, 0, 0, 0, 0, 153)) rfl) rfl ?_
    refine e_10 (f_186 (pc := 153) (e := (153, 10, 2, 0, 0, 0, 0, 154)) rfl) rfl ?_
    refine e_73 (f_186 (pc := 154) (e := (154, 73, 161, 0, 0, 0, 0, 157)) rfl) (fun c2 => ?_) (fun c2 => ?_)
    · replace F := F.1 c2
      refine e_0 (f_186 (pc := 161) (e := (161, 0, 0, 0, 0, 0, 0, 162)) rfl) (v := 0) rfl ?_
      refine e_lo [] rfl ?_
      exact F
    · replace F := F.2 c2
      refine e_0 (f_186 (pc := 157) (e := (157, 0, 1, 0, 0, 0, 0, 158)) rfl) (v := 1) rfl ?_
      refine e_80 (f_186 (pc := 158) (e := (158, 80, 162, 0, 0, 0, 0, 161)) rfl) ?_
      refine e_lo [] rfl ?_
      exact F
  · replace F := F.2 c1
    refine e_12 (f_186 (pc := 56) (e := (56, 12, 0, 0, 0, 0, 0, 57)) rfl) rfl ?_
    refine e_90r zA (f_186 (pc := 57) (e := (57, 90, 11, 6, 3, 33, 1159, 60)) rfl) rfl (hT 102 rfl) rfl rfl (hR 102 6 rfl) ?_
    refine e_1 (f_186 (pc := 60) (e := (60, 1, 7, 0, 0, 0, 0, 62)) rfl) (v := 7) rfl ?_
    refine e_10 (f_186 (pc := 62) (e := (62, 10, 3, 0, 0, 0, 0, 63)) rfl) rfl ?_
    refine e_30 (f_186 (pc := 63) (e := (63, 30, 0, 0, 0, 0, 0, 64)) rfl) ?_
    obtain ⟨b3, b4, F⟩ := F
    refine e_110 (f_186 (pc := 64) (e := (64, 110, 0, 0, 0, 0, 0, 65)) rfl) rfl (hT 104 rfl) b3 b4 ?_
    refine e_61 (f_186 (pc := 65) (e := (65, 61, 74, 0, 0, 0, 0, 68)) rfl) (fun c5 => ?_) (fun c5 => ?_)
    · replace F := F.1 c5
      refine e_12 (f_186 (pc := 74) (e := (74, 12, 0, 0, 0, 0, 0, 75)) rfl) rfl ?_
      refine e_90r zA (f_186 (pc := 75) (e := (75, 90, 11, 6, 3, 33, 1159, 78)) rfl) rfl (hT 102 rfl) rfl rfl (hR 102 6 rfl) ?_
      refine e_1 (f_186 (pc := 78) (e := (78, 1, 7, 0, 0, 0, 0, 80)) rfl) (v := 7) rfl ?_
      refine e_10 (f_186 (pc := 80) (e := (80, 10, 3, 0, 0, 0, 0, 81)) rfl) rfl ?_
      refine e_30 (f_186 (pc := 81) (e := (81, 30, 0, 0, 0, 0, 0, 82)) rfl) ?_
      obtain ⟨b6, b7, F⟩ := F
      refine e_110 (f_186 (pc := 82) (e := (82, 110, 0, 0, 0, 0, 0, 83)) rfl) rfl (hT 104 rfl) b6 b7 ?_
      refine e_0 (f_186 (pc := 83) (e := (83, 0, 1, 0, 0, 0, 0, 84)) rfl) (v := 1) rfl ?_
      refine e_71 (f_186 (pc := 84) (e := (84, 71, 93, 0, 0, 0, 0, 87)) rfl) (fun c8 => ?_) (fun c8 => ?_)
      · replace F := F.1 c8
        refine e_2 (f_186 (pc := 93) (e := (93, 2, 478, 0, 0, 0, 0, 96)) rfl) (v := 478) rfl ?_
        refine e_lo [0, 1, 2, 3] rfl ?_
        exact F
      · replace F := F.2 c8
        refine e_2 (f_186 (pc := 87) (e := (87, 2, 318, 0, 0, 0, 0, 90)) rfl) (v := 318) rfl ?_
        refine e_80 (f_186 (pc := 90) (e := (90, 80, 96, 0, 0, 0, 0, 93)) rfl) ?_
        refine e_lo [0, 1, 2, 3] rfl ?_
        exact F
    · replace F := F.2 c5
      refine e_2 (f_186 (pc := 68) (e := (68, 2, 310, 0, 0, 0, 0, 71)) rfl) (v := 310) rfl ?_
      refine e_80 (f_186 (pc := 71) (e := (71, 80, 96, 0, 0, 0, 0, 74)) rfl) ?_
      refine e_lo [0, 1, 2, 3] rfl ?_
      exact F
set_option maxRecDepth 20000 in
theorem B_186_96 (hT : yLT T) (hR : yLR R) {x1 x2 x3 t0 : Int} (F : 0 ≤ (yadd t0 x1) ∧ (yadd t0 x1) < 1188 ∧ (0 ≤ (yadd t0 x2) ∧ (yadd t0 x2) < 1188 ∧ (((I 104 (yadd t0 x1).toNat) = (I 104 (yadd t0 x2).toNat) → yW l zSS D cy zFk z d 186 bc bs K 0 0 45 [(0, yr (some 102)), (1, yi x1), (2, yi x2), (3, yi (yadd x3 1))] [] (N, T, R, I)) ∧ (¬ ((I 104 (yadd t0 x1).toNat) = (I 104 (yadd t0 x2).toNat)) → 0 ≤ (yadd t0 x1) ∧ (yadd t0 x1) < 1188 ∧ (0 ≤ (yadd t0 x2) ∧ (yadd t0 x2) < 1188 ∧ (((I 104 (yadd t0 x1).toNat) ≤ (I 104 (yadd t0 x2).toNat) → yW l zSS D cy zFk z d 186 bc bs K 0 0 145 [] [yi 0] (N, T, R, I)) ∧ (¬ ((I 104 (yadd t0 x1).toNat) ≤ (I 104 (yadd t0 x2).toNat)) → yW l zSS D cy zFk z d 186 bc bs K 0 0 145 [] [yi 1] (N, T, R, I)))))))) :
    yW l zSS D cy zFk z d 186 bc bs K 0 0 96 [(0, yr (some 102)), (1, yi x1), (2, yi x2), (3, yi x3)] [yi t0] (N, T, R, I) := by
  refine e_21 (f_186 (pc := 96) (e := (96, 21, 4, 0, 0, 0, 0, 98)) rfl) ?_
  refine e_12 (f_186 (pc := 98) (e := (98, 12, 0, 0, 0, 0, 0, 99)) rfl) rfl ?_
  refine e_90r zA (f_186 (pc := 99) (e := (99, 90, 11, 6, 3, 33, 1159, 102)) rfl) rfl (hT 102 rfl) rfl rfl (hR 102 6 rfl) ?_
  refine e_11 (f_186 (pc := 102) (e := (102, 11, 4, 0, 0, 0, 0, 104)) rfl) rfl ?_
  refine e_10 (f_186 (pc := 104) (e := (104, 10, 1, 0, 0, 0, 0, 105)) rfl) rfl ?_
  refine e_30 (f_186 (pc := 105) (e := (105, 30, 0, 0, 0, 0, 0, 106)) rfl) ?_
  obtain ⟨b1, b2, F⟩ := F
  refine e_110 (f_186 (pc := 106) (e := (106, 110, 0, 0, 0, 0, 0, 107)) rfl) rfl (hT 104 rfl) b1 b2 ?_
  refine e_12 (f_186 (pc := 107) (e := (107, 12, 0, 0, 0, 0, 0, 108)) rfl) rfl ?_
  refine e_90r zA (f_186 (pc := 108) (e := (108, 90, 11, 6, 3, 33, 1159, 111)) rfl) rfl (hT 102 rfl) rfl rfl (hR 102 6 rfl) ?_
  refine e_11 (f_186 (pc := 111) (e := (111, 11, 4, 0, 0, 0, 0, 113)) rfl) rfl ?_
  refine e_10 (f_186 (pc := 113) (e := (113, 10, 2, 0, 0, 0, 0, 114)) rfl) rfl ?_
  refine e_30 (f_186 (pc := 114) (e := (114, 30, 0, 0, 0, 0, 0, 115)) rfl) ?_
  obtain ⟨b3, b4, F⟩ := F
  refine e_110 (f_186 (pc := 115) (e := (115, 110, 0, 0, 0, 0, 0, 116)) rfl) rfl (hT 104 rfl) b3 b4 ?_
  refine e_70 (f_186 (pc := 116) (e := (116, 70, 146, 0, 0, 0, 0, 119)) rfl) (fun c5 => ?_) (fun c5 => ?_)
  · replace F := F.1 c5
    refine e_26 (f_186 (pc := 146) (e := (146, 26, 3, 1, 0, 0, 0, 149)) rfl) (w := 1) rfl rfl ?_
    refine e_80 (f_186 (pc := 149) (e := (149, 80, 45, 0, 0, 0, 0, 152)) rfl) ?_
    refine e_lo [0, 1, 2, 3] rfl ?_
    exact F
  · replace F := F.2 c5
    refine e_12 (f_186 (pc := 119) (e := (119, 12, 0, 0, 0, 0, 0, 120)) rfl) rfl ?_
    refine e_90r zA (f_186 (pc := 120) (e := (120, 90, 11, 6, 3, 33, 1159, 123)) rfl) rfl (hT 102 rfl) rfl rfl (hR 102 6 rfl) ?_
    refine e_11 (f_186 (pc := 123) (e := (123, 11, 4, 0, 0, 0, 0, 125)) rfl) rfl ?_
    refine e_10 (f_186 (pc := 125) (e := (125, 10, 1, 0, 0, 0, 0, 126)) rfl) rfl ?_
    refine e_30 (f_186 (pc := 126) (e := (126, 30, 0, 0, 0, 0, 0, 127)) rfl) ?_
    obtain ⟨b6, b7, F⟩ := F
    refine e_110 (f_186 (pc := 127) (e := (127, 110, 0, 0, 0, 0, 0, 128)) rfl) rfl (hT 104 rfl) b6 b7 ?_
    refine e_12 (f_186 (pc := 128) (e := (128, 12, 0, 0, 0, 0, 0, 129)) rfl) rfl ?_
    refine e_90r zA (f_186 (pc := 129) (e := (129, 90, 11, 6, 3, 33, 1159, 132)) rfl) rfl (hT 102 rfl) rfl rfl (hR 102 6 rfl) ?_
    refine e_11 (f_186 (pc := 132) (e := (132, 11, 4, 0, 0, 0, 0, 134)) rfl) rfl ?_
    refine e_10 (f_186 (pc := 134) (e := (134, 10, 2, 0, 0, 0, 0, 135)) rfl) rfl ?_
    refine e_30 (f_186 (pc := 135) (e := (135, 30, 0, 0, 0, 0, 0, 136)) rfl) ?_
    obtain ⟨b8, b9, F⟩ := F
    refine e_110 (f_186 (pc := 136) (e := (136, 110, 0, 0, 0, 0, 0, 137)) rfl) rfl (hT 104 rfl) b8 b9 ?_
    refine e_75 (f_186 (pc := 137) (e := (137, 75, 144, 0, 0, 0, 0, 140)) rfl) (fun c10 => ?_) (fun c10 => ?_)
    · replace F := F.1 c10
      refine e_0 (f_186 (pc := 144) (e := (144, 0, 0, 0, 0, 0, 0, 145)) rfl) (v := 0) rfl ?_
      refine e_lo [] rfl ?_
      exact F
    · replace F := F.2 c10
      refine e_0 (f_186 (pc := 140) (e := (140, 0, 1, 0, 0, 0, 0, 141)) rfl) (v := 1) rfl ?_
      refine e_80 (f_186 (pc := 141) (e := (141, 80, 145, 0, 0, 0, 0, 144)) rfl) ?_
      refine e_lo [] rfl ?_
      exact F
set_option maxRecDepth 20000 in
theorem B_186_145 (hT : yLT T) (hR : yLR R) {t0 : Int} (F : (t0 = 0 ∨ t0 = 1) ∧ K (some (yi t0)) (N, T, R, I)) :
    yW l zSS D cy zFk z d 186 bc bs K 0 0 145 [] [yi t0] (N, T, R, I) := by
  exact e_121 (f_186 (pc := 145) (e := (145, 121, 0, 0, 0, 0, 0, 146)) rfl) F.1 F.2
set_option maxRecDepth 20000 in
theorem B_186_162 (hT : yLT T) (hR : yLR R) {t0 : Int} (F : (t0 = 0 ∨ t0 = 1) ∧ K (some (yi t0)) (N, T, R, I)) :
    yW l zSS D cy zFk z d 186 bc bs K 0 0 162 [] [yi t0] (N, T, R, I) := by
  exact e_121 (f_186 (pc := 162) (e := (162, 121, 0, 0, 0, 0, 0, 0)) rfl) F.1 F.2

/-! isCell(I)Z -/
set_option maxRecDepth 20000 in
theorem B_187_0 (hT : yLT T) (hR : yLR R) {x1 : Int} (F : (x1 < 0 → K (some (yi 0)) (N, T, R, I)) ∧ (¬ (x1 < 0) → ((I 104 0) ≤ (yrem x1 10) → K (some (yi 0)) (N, T, R, I)) ∧ (¬ ((I 104 0) ≤ (yrem x1 10)) → ((I 104 1) ≤ (ydiv x1 10) → K (some (yi 0)) (N, T, R, I)) ∧ (¬ ((I 104 1) ≤ (ydiv x1 10)) → K (some (yi 1)) (N, T, R, I))))) :
    yW l zSS D cy zFk z d 187 bc bs K 0 0 0 [(0, yr (some 102)), (1, yi x1)] [] (N, T, R, I) := by
  refine e_10 (f_187 (pc := 0) (e := (0, 10, 1, 0, 0, 0, 0, 1)) rfl) rfl ?_
  refine e_62 (f_187 (pc := 1) (e := (1, 62, 34, 0, 0, 0, 0, 4)) rfl) (fun c1 => ?_) (fun c1 => ?_)
  · replace F := F.1 c1
    refine e_0 (f_187 (pc := 34) (e := (34, 0, 0, 0, 0, 0, 0, 35)) rfl) (v := 0) rfl ?_
    exact e_121 (f_187 (pc := 35) (e := (35, 121, 0, 0, 0, 0, 0, 0)) rfl) (.inl rfl) F
  · replace F := F.2 c1
    refine e_10 (f_187 (pc := 4) (e := (4, 10, 1, 0, 0, 0, 0, 5)) rfl) rfl ?_
    refine e_1 (f_187 (pc := 5) (e := (5, 1, 10, 0, 0, 0, 0, 7)) rfl) (v := 10) rfl ?_
    refine e_34 (f_187 (pc := 7) (e := (7, 34, 0, 0, 0, 0, 0, 8)) rfl) (by decide) ?_
    refine e_12 (f_187 (pc := 8) (e := (8, 12, 0, 0, 0, 0, 0, 9)) rfl) rfl ?_
    refine e_90r zA (f_187 (pc := 9) (e := (9, 90, 11, 6, 3, 33, 1159, 12)) rfl) rfl (hT 102 rfl) rfl rfl (hR 102 6 rfl) ?_
    refine e_0 (f_187 (pc := 12) (e := (12, 0, 0, 0, 0, 0, 0, 13)) rfl) (v := 0) rfl ?_
    refine e_110 (f_187 (pc := 13) (e := (13, 110, 0, 0, 0, 0, 0, 14)) rfl) rfl (hT 104 rfl) (by decide) (by decide) ?_
    refine e_73 (f_187 (pc := 14) (e := (14, 73, 34, 0, 0, 0, 0, 17)) rfl) (fun c2 => ?_) (fun c2 => ?_)
    · replace F := F.1 c2
      refine e_0 (f_187 (pc := 34) (e := (34, 0, 0, 0, 0, 0, 0, 35)) rfl) (v := 0) rfl ?_
      exact e_121 (f_187 (pc := 35) (e := (35, 121, 0, 0, 0, 0, 0, 0)) rfl) (.inl rfl) F
    · replace F := F.2 c2
      refine e_10 (f_187 (pc := 17) (e := (17, 10, 1, 0, 0, 0, 0, 18)) rfl) rfl ?_
      refine e_1 (f_187 (pc := 18) (e := (18, 1, 10, 0, 0, 0, 0, 20)) rfl) (v := 10) rfl ?_
      refine e_33 (f_187 (pc := 20) (e := (20, 33, 0, 0, 0, 0, 0, 21)) rfl) (by decide) ?_
      refine e_12 (f_187 (pc := 21) (e := (21, 12, 0, 0, 0, 0, 0, 22)) rfl) rfl ?_
      refine e_90r zA (f_187 (pc := 22) (e := (22, 90, 11, 6, 3, 33, 1159, 25)) rfl) rfl (hT 102 rfl) rfl rfl (hR 102 6 rfl) ?_
      refine e_0 (f_187 (pc := 25) (e := (25, 0, 1, 0, 0, 0, 0, 26)) rfl) (v := 1) rfl ?_
      refine e_110 (f_187 (pc := 26) (e := (26, 110, 0, 0, 0, 0, 0, 27)) rfl) rfl (hT 104 rfl) (by decide) (by decide) ?_
      refine e_73 (f_187 (pc := 27) (e := (27, 73, 34, 0, 0, 0, 0, 30)) rfl) (fun c3 => ?_) (fun c3 => ?_)
      · replace F := F.1 c3
        refine e_0 (f_187 (pc := 34) (e := (34, 0, 0, 0, 0, 0, 0, 35)) rfl) (v := 0) rfl ?_
        exact e_121 (f_187 (pc := 35) (e := (35, 121, 0, 0, 0, 0, 0, 0)) rfl) (.inl rfl) F
      · replace F := F.2 c3
        refine e_0 (f_187 (pc := 30) (e := (30, 0, 1, 0, 0, 0, 0, 31)) rfl) (v := 1) rfl ?_
        refine e_80 (f_187 (pc := 31) (e := (31, 80, 35, 0, 0, 0, 0, 34)) rfl) ?_
        exact e_121 (f_187 (pc := 35) (e := (35, 121, 0, 0, 0, 0, 0, 0)) rfl) (.inr rfl) F

/-! isChair(I)Z -/
set_option maxRecDepth 20000 in
theorem B_188_0 (hT : yLT T) (hR : yLR R) {x1 : Int} (F : yW l zSS D cy zFk z d 191 0 0 (fun r h' => ∃ r2 I1, r = some (yi r2) ∧ h' = (N, T, R, I1) ∧ ((r2 = 0 ∨ r2 = 1) ∧ K (some (yi r2)) (N, T, R, I1))) 0 0 0 [(0, yi x1), (1, yi 0), (2, yi (ysub (I 104 2) 1))] [] (N, T, R, I)) :
    yW l zSS D cy zFk z (d + 1) 188 bc bs K 0 0 0 [(0, yr (some 102)), (1, yi x1)] [] (N, T, R, I) := by
  refine e_10 (f_188 (pc := 0) (e := (0, 10, 1, 0, 0, 0, 0, 1)) rfl) rfl ?_
  refine e_0 (f_188 (pc := 1) (e := (1, 0, 0, 0, 0, 0, 0, 2)) rfl) (v := 0) rfl ?_
  refine e_12 (f_188 (pc := 2) (e := (2, 12, 0, 0, 0, 0, 0, 3)) rfl) rfl ?_
  refine e_90r zA (f_188 (pc := 3) (e := (3, 90, 11, 6, 3, 33, 1159, 6)) rfl) rfl (hT 102 rfl) rfl rfl (hR 102 6 rfl) ?_
  refine e_0 (f_188 (pc := 6) (e := (6, 0, 2, 0, 0, 0, 0, 7)) rfl) (v := 2) rfl ?_
  refine e_110 (f_188 (pc := 7) (e := (7, 110, 0, 0, 0, 0, 0, 8)) rfl) rfl (hT 104 rfl) (by decide) (by decide) ?_
  refine e_0 (f_188 (pc := 8) (e := (8, 0, 1, 0, 0, 0, 0, 9)) rfl) (v := 1) rfl ?_
  refine e_31 (f_188 (pc := 9) (e := (9, 31, 0, 0, 0, 0, 0, 10)) rfl) ?_
  refine e_132 (f_188 (pc := 10) (e := (10, 132, 191, 2, 11, 193, 1245, 13)) rfl) zA (as := [yi x1, yi 0, yi _]) (rest := []) rfl rfl rfl rfl (Nat.le_of_ble_eq_true rfl) (Nat.le_of_ble_eq_true rfl) (mc := 0) (ms := 0) (Nat.zero_le _) (Nat.zero_le _) ?_
  refine e_K ?_ F
  rintro r h' ⟨r2, I1, rfl, rfl, F⟩
  exact e_121 (f_188 (pc := 13) (e := (13, 121, 0, 0, 0, 0, 0, 0)) rfl) F.1 F.2

/-! isDigit(I)Z -/
set_option maxRecDepth 20000 in
theorem B_189_0 (hT : yLT T) (hR : yLR R) {x0 : Int} (F : (x0 < 48 → K (some (yi 0)) (N, T, R, I)) ∧ (¬ (x0 < 48) → (57 < x0 → K (some (yi 0)) (N, T, R, I)) ∧ (¬ (57 < x0) → K (some (yi 1)) (N, T, R, I)))) :
    yW l zSS D cy zFk z d 189 bc bs K 0 0 0 [(0, yi x0)] [] (N, T, R, I) := by
  refine e_10 (f_189 (pc := 0) (e := (0, 10, 0, 0, 0, 0, 0, 1)) rfl) rfl ?_
  refine e_1 (f_189 (pc := 1) (e := (1, 1, 48, 0, 0, 0, 0, 3)) rfl) (v := 48) rfl ?_
  refine e_72 (f_189 (pc := 3) (e := (3, 72, 16, 0, 0, 0, 0, 6)) rfl) (fun c1 => ?_) (fun c1 => ?_)
  · replace F := F.1 c1
    refine e_0 (f_189 (pc := 16) (e := (16, 0, 0, 0, 0, 0, 0, 17)) rfl) (v := 0) rfl ?_
    exact e_121 (f_189 (pc := 17) (e := (17, 121, 0, 0, 0, 0, 0, 0)) rfl) (.inl rfl) F
  · replace F := F.2 c1
    refine e_10 (f_189 (pc := 6) (e := (6, 10, 0, 0, 0, 0, 0, 7)) rfl) rfl ?_
    refine e_1 (f_189 (pc := 7) (e := (7, 1, 57, 0, 0, 0, 0, 9)) rfl) (v := 57) rfl ?_
    refine e_74 (f_189 (pc := 9) (e := (9, 74, 16, 0, 0, 0, 0, 12)) rfl) (fun c2 => ?_) (fun c2 => ?_)
    · replace F := F.1 c2
      refine e_0 (f_189 (pc := 16) (e := (16, 0, 0, 0, 0, 0, 0, 17)) rfl) (v := 0) rfl ?_
      exact e_121 (f_189 (pc := 17) (e := (17, 121, 0, 0, 0, 0, 0, 0)) rfl) (.inl rfl) F
    · replace F := F.2 c2
      refine e_0 (f_189 (pc := 12) (e := (12, 0, 1, 0, 0, 0, 0, 13)) rfl) (v := 1) rfl ?_
      refine e_80 (f_189 (pc := 13) (e := (13, 80, 17, 0, 0, 0, 0, 16)) rfl) ?_
      exact e_121 (f_189 (pc := 17) (e := (17, 121, 0, 0, 0, 0, 0, 0)) rfl) (.inr rfl) F

/-! isFree(I)Z -/
set_option maxRecDepth 20000 in
theorem B_190_0 (hT : yLT T) (hR : yLR R) {x1 : Int} (F : yW l zSS D cy zFk z d 187 0 0 (fun r h' => ∃ r2 I1, r = some (yi r2) ∧ h' = (N, T, R, I1) ∧ ((r2 = 0 → K (some (yi 0)) (N, T, R, I1)) ∧ (¬ (r2 = 0) → 0 ≤ (yadd 10 x1) ∧ (yadd 10 x1) < 1188 ∧ (((I1 104 (yadd 10 x1).toNat) ≠ 0 → K (some (yi 0)) (N, T, R, I1)) ∧ (¬ ((I1 104 (yadd 10 x1).toNat) ≠ 0) → K (some (yi 1)) (N, T, R, I1)))))) 0 0 0 [(0, yr (some 102)), (1, yi x1)] [] (N, T, R, I)) :
    yW l zSS D cy zFk z (d + 1) 190 bc bs K 0 0 0 [(0, yr (some 102)), (1, yi x1)] [] (N, T, R, I) := by
  refine e_12 (f_190 (pc := 0) (e := (0, 12, 0, 0, 0, 0, 0, 1)) rfl) rfl ?_
  refine e_10 (f_190 (pc := 1) (e := (1, 10, 1, 0, 0, 0, 0, 2)) rfl) rfl ?_
  refine e_130 (f_190 (pc := 2) (e := (2, 130, 187, 0, 11, 262, 1246, 5)) rfl) zA (as := [yr (some 102), yi x1]) (rest := []) rfl rfl rfl rfl (Nat.le_of_ble_eq_true rfl) (Nat.le_of_ble_eq_true rfl) ⟨_, _, _, rfl, (hT 102 rfl)⟩ (mc := 0) (ms := 0) (Nat.zero_le _) (Nat.zero_le _) ?_
  refine e_K ?_ F
  rintro r h' ⟨r2, I1, rfl, rfl, F⟩
  refine e_60 (f_190 (pc := 5) (e := (5, 60, 24, 0, 0, 0, 0, 8)) rfl) (fun c3 => ?_) (fun c3 => ?_)
  · replace F := F.1 c3
    refine e_0 (f_190 (pc := 24) (e := (24, 0, 0, 0, 0, 0, 0, 25)) rfl) (v := 0) rfl ?_
    exact e_121 (f_190 (pc := 25) (e := (25, 121, 0, 0, 0, 0, 0, 0)) rfl) (.inl rfl) F
  · replace F := F.2 c3
    refine e_12 (f_190 (pc := 8) (e := (8, 12, 0, 0, 0, 0, 0, 9)) rfl) rfl ?_
    refine e_90r zA (f_190 (pc := 9) (e := (9, 90, 11, 6, 3, 33, 1159, 12)) rfl) rfl (hT 102 rfl) rfl rfl (hR 102 6 rfl) ?_
    refine e_1 (f_190 (pc := 12) (e := (12, 1, 10, 0, 0, 0, 0, 14)) rfl) (v := 10) rfl ?_
    refine e_10 (f_190 (pc := 14) (e := (14, 10, 1, 0, 0, 0, 0, 15)) rfl) rfl ?_
    refine e_30 (f_190 (pc := 15) (e := (15, 30, 0, 0, 0, 0, 0, 16)) rfl) ?_
    obtain ⟨b4, b5, F⟩ := F
    refine e_110 (f_190 (pc := 16) (e := (16, 110, 0, 0, 0, 0, 0, 17)) rfl) rfl (hT 104 rfl) b4 b5 ?_
    refine e_61 (f_190 (pc := 17) (e := (17, 61, 24, 0, 0, 0, 0, 20)) rfl) (fun c6 => ?_) (fun c6 => ?_)
    · replace F := F.1 c6
      refine e_0 (f_190 (pc := 24) (e := (24, 0, 0, 0, 0, 0, 0, 25)) rfl) (v := 0) rfl ?_
      exact e_121 (f_190 (pc := 25) (e := (25, 121, 0, 0, 0, 0, 0, 0)) rfl) (.inl rfl) F
    · replace F := F.2 c6
      refine e_0 (f_190 (pc := 20) (e := (20, 0, 1, 0, 0, 0, 0, 21)) rfl) (v := 1) rfl ?_
      refine e_80 (f_190 (pc := 21) (e := (21, 80, 25, 0, 0, 0, 0, 24)) rfl) ?_
      exact e_121 (f_190 (pc := 25) (e := (25, 121, 0, 0, 0, 0, 0, 0)) rfl) (.inr rfl) F

/-! isIn(III)Z -/
set_option maxRecDepth 20000 in
theorem B_191_0 (hT : yLT T) (hR : yLR R) {x0 x1 x2 : Int} (F : (x0 < x1 → K (some (yi 0)) (N, T, R, I)) ∧ (¬ (x0 < x1) → (x2 < x0 → K (some (yi 0)) (N, T, R, I)) ∧ (¬ (x2 < x0) → K (some (yi 1)) (N, T, R, I)))) :
    yW l zSS D cy zFk z d 191 bc bs K 0 0 0 [(0, yi x0), (1, yi x1), (2, yi x2)] [] (N, T, R, I) := by
  refine e_10 (f_191 (pc := 0) (e := (0, 10, 0, 0, 0, 0, 0, 1)) rfl) rfl ?_
  refine e_10 (f_191 (pc := 1) (e := (1, 10, 1, 0, 0, 0, 0, 2)) rfl) rfl ?_
  refine e_72 (f_191 (pc := 2) (e := (2, 72, 14, 0, 0, 0, 0, 5)) rfl) (fun c1 => ?_) (fun c1 => ?_)
  · replace F := F.1 c1
    refine e_0 (f_191 (pc := 14) (e := (14, 0, 0, 0, 0, 0, 0, 15)) rfl) (v := 0) rfl ?_
    exact e_121 (f_191 (pc := 15) (e := (15, 121, 0, 0, 0, 0, 0, 0)) rfl) (.inl rfl) F
  · replace F := F.2 c1
    refine e_10 (f_191 (pc := 5) (e := (5, 10, 0, 0, 0, 0, 0, 6)) rfl) rfl ?_
    refine e_10 (f_191 (pc := 6) (e := (6, 10, 2, 0, 0, 0, 0, 7)) rfl) rfl ?_
    refine e_74 (f_191 (pc := 7) (e := (7, 74, 14, 0, 0, 0, 0, 10)) rfl) (fun c2 => ?_) (fun c2 => ?_)
    · replace F := F.1 c2
      refine e_0 (f_191 (pc := 14) (e := (14, 0, 0, 0, 0, 0, 0, 15)) rfl) (v := 0) rfl ?_
      exact e_121 (f_191 (pc := 15) (e := (15, 121, 0, 0, 0, 0, 0, 0)) rfl) (.inl rfl) F
    · replace F := F.2 c2
      refine e_0 (f_191 (pc := 10) (e := (10, 0, 1, 0, 0, 0, 0, 11)) rfl) (v := 1) rfl ?_
      refine e_80 (f_191 (pc := 11) (e := (11, 80, 15, 0, 0, 0, 0, 14)) rfl) ?_
      exact e_121 (f_191 (pc := 15) (e := (15, 121, 0, 0, 0, 0, 0, 0)) rfl) (.inr rfl) F

/-! isLeaf(IIII)Z -/
set_option maxRecDepth 20000 in
theorem B_192_0 (hT : yLT T) (hR : yLR R) {x1 x2 x3 x4 : Int} (F : (x2 ≠ 0 → (x2 ≠ 1 → (x2 ≠ 2 → (x2 ≠ 3 → (x2 ≠ 4 → (x2 ≠ 5 → (x2 ≠ 6 → (x2 ≠ 7 → yW l zSS D cy zFk z (d + 1) 192 bc bs K 0 0 168 [(3, yi x3), (4, yi x4)] [yi x1] (N, T, R, I)) ∧ (¬ (x2 ≠ 7) → 0 ≤ (yadd 502 x1) ∧ (yadd 502 x1) < 1188 ∧ (yW l zSS D cy zFk z (d + 1) 192 bc bs K 0 0 168 [(3, yi x3), (4, yi x4)] [yi (I 104 (yadd 502 x1).toNat)] (N, T, R, I)))) ∧ (¬ (x2 ≠ 6) → 0 ≤ (yadd 494 x1) ∧ (yadd 494 x1) < 1188 ∧ (yW l zSS D cy zFk z (d + 1) 192 bc bs K 0 0 168 [(3, yi x3), (4, yi x4)] [yi (I 104 (yadd 494 x1).toNat)] (N, T, R, I)))) ∧ (¬ (x2 ≠ 5) → 0 ≤ (yadd 478 x1) ∧ (yadd 478 x1) < 1188 ∧ (yW l zSS D cy zFk z (d + 1) 192 bc bs K 0 0 168 [(3, yi x3), (4, yi x4)] [yi (I 104 (yadd 478 x1).toNat)] (N, T, R, I)))) ∧ (¬ (x2 ≠ 4) → 0 ≤ (yadd 318 x1) ∧ (yadd 318 x1) < 1188 ∧ (yW l zSS D cy zFk z (d + 1) 192 bc bs K 0 0 168 [(3, yi x3), (4, yi x4)] [yi (I 104 (yadd 318 x1).toNat)] (N, T, R, I)))) ∧ (¬ (x2 ≠ 3) → 0 ≤ (yadd 310 x1) ∧ (yadd 310 x1) < 1188 ∧ (yW l zSS D cy zFk z (d + 1) 192 bc bs K 0 0 168 [(3, yi x3), (4, yi x4)] [yi (I 104 (yadd 310 x1).toNat)] (N, T, R, I)))) ∧ (¬ (x2 ≠ 2) → (x1 = x4 → yW l zSS D cy zFk z (d + 1) 192 bc bs K 0 0 73 [] [] (N, T, R, I)) ∧ (¬ (x1 = x4) → yW l zSS D cy zFk z d 186 0 0 (fun r h' => ∃ r21 I20, r = some (yi r21) ∧ h' = (N, T, R, I20) ∧ ((r21 = 0 → yW l zSS D cy zFk z (d + 1) 192 bc bs K 0 0 73 [] [] (N, T, R, I20)) ∧ (¬ (r21 = 0) → yW l zSS D cy zFk z (d + 1) 192 bc bs K 0 0 74 [] [yi 1] (N, T, R, I20)))) 0 0 0 [(0, yr (some 102)), (1, yi x1), (2, yi x4)] [] (N, T, R, I)))) ∧ (¬ (x2 ≠ 1) → 0 ≤ (yadd 342 x1) ∧ (yadd 342 x1) < 1188 ∧ (((I 104 (yadd 342 x1).toNat) ≠ 1 → yW l zSS D cy zFk z (d + 1) 192 bc bs K 0 0 47 [] [yi 0] (N, T, R, I)) ∧ (¬ ((I 104 (yadd 342 x1).toNat) ≠ 1) → yW l zSS D cy zFk z (d + 1) 192 bc bs K 0 0 47 [] [yi 1] (N, T, R, I))))) ∧ (¬ (x2 ≠ 0) → 0 ≤ (yadd 510 x1) ∧ (yadd 510 x1) < 1188 ∧ (((I 104 (yadd 510 x1).toNat) < 0 → yW l zSS D cy zFk z (d + 1) 192 bc bs K 0 0 22 [] [yi 0] (N, T, R, I)) ∧ (¬ ((I 104 (yadd 510 x1).toNat) < 0) → yW l zSS D cy zFk z (d + 1) 192 bc bs K 0 0 22 [] [yi 1] (N, T, R, I))))) :
    yW l zSS D cy zFk z (d + 1) 192 bc bs K 0 0 0 [(0, yr (some 102)), (1, yi x1), (2, yi x2), (3, yi x3), (4, yi x4)] [] (N, T, R, I) := by
  refine e_10 (f_192 (pc := 0) (e := (0, 10, 2, 0, 0, 0, 0, 1)) rfl) rfl ?_
  refine e_61 (f_192 (pc := 1) (e := (1, 61, 23, 0, 0, 0, 0, 4)) rfl) (fun c1 => ?_) (fun c1 => ?_)
  · replace F := F.1 c1
    refine e_10 (f_192 (pc := 23) (e := (23, 10, 2, 0, 0, 0, 0, 24)) rfl) rfl ?_
    refine e_0 (f_192 (pc := 24) (e := (24, 0, 1, 0, 0, 0, 0, 25)) rfl) (v := 1) rfl ?_
    refine e_71 (f_192 (pc := 25) (e := (25, 71, 48, 0, 0, 0, 0, 28)) rfl) (fun c2 => ?_) (fun c2 => ?_)
    · replace F := F.1 c2
      refine e_10 (f_192 (pc := 48) (e := (48, 10, 2, 0, 0, 0, 0, 49)) rfl) rfl ?_
      refine e_0 (f_192 (pc := 49) (e := (49, 0, 2, 0, 0, 0, 0, 50)) rfl) (v := 2) rfl ?_
      refine e_71 (f_192 (pc := 50) (e := (50, 71, 75, 0, 0, 0, 0, 53)) rfl) (fun c3 => ?_) (fun c3 => ?_)
      · replace F := F.1 c3
        refine e_10 (f_192 (pc := 75) (e := (75, 10, 2, 0, 0, 0, 0, 76)) rfl) rfl ?_
        refine e_0 (f_192 (pc := 76) (e := (76, 0, 3, 0, 0, 0, 0, 77)) rfl) (v := 3) rfl ?_
        refine e_71 (f_192 (pc := 77) (e := (77, 71, 93, 0, 0, 0, 0, 80)) rfl) (fun c4 => ?_) (fun c4 => ?_)
        · replace F := F.1 c4
          refine e_10 (f_192 (pc := 93) (e := (93, 10, 2, 0, 0, 0, 0, 94)) rfl) rfl ?_
          refine e_0 (f_192 (pc := 94) (e := (94, 0, 4, 0, 0, 0, 0, 95)) rfl) (v := 4) rfl ?_
          refine e_71 (f_192 (pc := 95) (e := (95, 71, 111, 0, 0, 0, 0, 98)) rfl) (fun c5 => ?_) (fun c5 => ?_)
          · replace F := F.1 c5
            refine e_10 (f_192 (pc := 111) (e := (111, 10, 2, 0, 0, 0, 0, 112)) rfl) rfl ?_
            refine e_0 (f_192 (pc := 112) (e := (112, 0, 5, 0, 0, 0, 0, 113)) rfl) (v := 5) rfl ?_
            refine e_71 (f_192 (pc := 113) (e := (113, 71, 129, 0, 0, 0, 0, 116)) rfl) (fun c6 => ?_) (fun c6 => ?_)
            · replace F := F.1 c6
              refine e_10 (f_192 (pc := 129) (e := (129, 10, 2, 0, 0, 0, 0, 130)) rfl) rfl ?_
              refine e_1 (f_192 (pc := 130) (e := (130, 1, 6, 0, 0, 0, 0, 132)) rfl) (v := 6) rfl ?_
              refine e_71 (f_192 (pc := 132) (e := (132, 71, 148, 0, 0, 0, 0, 135)) rfl) (fun c7 => ?_) (fun c7 => ?_)
              · replace F := F.1 c7
                refine e_10 (f_192 (pc := 148) (e := (148, 10, 2, 0, 0, 0, 0, 149)) rfl) rfl ?_
                refine e_1 (f_192 (pc := 149) (e := (149, 1, 7, 0, 0, 0, 0, 151)) rfl) (v := 7) rfl ?_
                refine e_71 (f_192 (pc := 151) (e := (151, 71, 167, 0, 0, 0, 0, 154)) rfl) (fun c8 => ?_) (fun c8 => ?_)
                · replace F := F.1 c8
                  refine e_10 (f_192 (pc := 167) (e := (167, 10, 1, 0, 0, 0, 0, 168)) rfl) rfl ?_
                  refine e_lo [3, 4] rfl ?_
                  exact F
                · replace F := F.2 c8
                  refine e_12 (f_192 (pc := 154) (e := (154, 12, 0, 0, 0, 0, 0, 155)) rfl) rfl ?_
                  refine e_90r zA (f_192 (pc := 155) (e := (155, 90, 11, 6, 3, 33, 1159, 158)) rfl) rfl (hT 102 rfl) rfl rfl (hR 102 6 rfl) ?_
                  refine e_2 (f_192 (pc := 158) (e := (158, 2, 502, 0, 0, 0, 0, 161)) rfl) (v := 502) rfl ?_
                  refine e_10 (f_192 (pc := 161) (e := (161, 10, 1, 0, 0, 0, 0, 162)) rfl) rfl ?_
                  refine e_30 (f_192 (pc := 162) (e := (162, 30, 0, 0, 0, 0, 0, 163)) rfl) ?_
                  obtain ⟨b9, b10, F⟩ := F
                  refine e_110 (f_192 (pc := 163) (e := (163, 110, 0, 0, 0, 0, 0, 164)) rfl) rfl (hT 104 rfl) b9 b10 ?_
                  refine e_80 (f_192 (pc := 164) (e := (164, 80, 168, 0, 0, 0, 0, 167)) rfl) ?_
                  refine e_lo [3, 4] rfl ?_
                  exact F
              · replace F := F.2 c7
                refine e_12 (f_192 (pc := 135) (e := (135, 12, 0, 0, 0, 0, 0, 136)) rfl) rfl ?_
                refine e_90r zA (f_192 (pc := 136) (e := (136, 90, 11, 6, 3, 33, 1159, 139)) rfl) rfl (hT 102 rfl) rfl rfl (hR 102 6 rfl) ?_
                refine e_2 (f_192 (pc := 139) (e := (139, 2, 494, 0, 0, 0, 0, 142)) rfl) (v := 494) rfl ?_
                refine e_10 (f_192 (pc := 142) (e := (142, 10, 1, 0, 0, 0, 0, 143)) rfl) rfl ?_
                refine e_30 (f_192 (pc := 143) (e := (143, 30, 0, 0, 0, 0, 0, 144)) rfl) ?_
                obtain ⟨b11, b12, F⟩ := F
                refine e_110 (f_192 (pc := 144) (e := (144, 110, 0, 0, 0, 0, 0, 145)) rfl) rfl (hT 104 rfl) b11 b12 ?_
                refine e_80 (f_192 (pc := 145) (e := (145, 80, 168, 0, 0, 0, 0, 148)) rfl) ?_
                refine e_lo [3, 4] rfl ?_
                exact F
            · replace F := F.2 c6
              refine e_12 (f_192 (pc := 116) (e := (116, 12, 0, 0, 0, 0, 0, 117)) rfl) rfl ?_
              refine e_90r zA (f_192 (pc := 117) (e := (117, 90, 11, 6, 3, 33, 1159, 120)) rfl) rfl (hT 102 rfl) rfl rfl (hR 102 6 rfl) ?_
              refine e_2 (f_192 (pc := 120) (e := (120, 2, 478, 0, 0, 0, 0, 123)) rfl) (v := 478) rfl ?_
              refine e_10 (f_192 (pc := 123) (e := (123, 10, 1, 0, 0, 0, 0, 124)) rfl) rfl ?_
              refine e_30 (f_192 (pc := 124) (e := (124, 30, 0, 0, 0, 0, 0, 125)) rfl) ?_
              obtain ⟨b13, b14, F⟩ := F
              refine e_110 (f_192 (pc := 125) (e := (125, 110, 0, 0, 0, 0, 0, 126)) rfl) rfl (hT 104 rfl) b13 b14 ?_
              refine e_80 (f_192 (pc := 126) (e := (126, 80, 168, 0, 0, 0, 0, 129)) rfl) ?_
              refine e_lo [3, 4] rfl ?_
              exact F
          · replace F := F.2 c5
            refine e_12 (f_192 (pc := 98) (e := (98, 12, 0, 0, 0, 0, 0, 99)) rfl) rfl ?_
            refine e_90r zA (f_192 (pc := 99) (e := (99, 90, 11, 6, 3, 33, 1159, 102)) rfl) rfl (hT 102 rfl) rfl rfl (hR 102 6 rfl) ?_
            refine e_2 (f_192 (pc := 102) (e := (102, 2, 318, 0, 0, 0, 0, 105)) rfl) (v := 318) rfl ?_
            refine e_10 (f_192 (pc := 105) (e := (105, 10, 1, 0, 0, 0, 0, 106)) rfl) rfl ?_
            refine e_30 (f_192 (pc := 106) (e := (106, 30, 0, 0, 0, 0, 0, 107)) rfl) ?_
            obtain ⟨b15, b16, F⟩ := F
            refine e_110 (f_192 (pc := 107) (e := (107, 110, 0, 0, 0, 0, 0, 108)) rfl) rfl (hT 104 rfl) b15 b16 ?_
            refine e_80 (f_192 (pc := 108) (e := (108, 80, 168, 0, 0, 0, 0, 111)) rfl) ?_
            refine e_lo [3, 4] rfl ?_
            exact F
        · replace F := F.2 c4
          refine e_12 (f_192 (pc := 80) (e := (80, 12, 0, 0, 0, 0, 0, 81)) rfl) rfl ?_
          refine e_90r zA (f_192 (pc := 81) (e := (81, 90, 11, 6, 3, 33, 1159, 84)) rfl) rfl (hT 102 rfl) rfl rfl (hR 102 6 rfl) ?_
          refine e_2 (f_192 (pc := 84) (e := (84, 2, 310, 0, 0, 0, 0, 87)) rfl) (v := 310) rfl ?_
          refine e_10 (f_192 (pc := 87) (e := (87, 10, 1, 0, 0, 0, 0, 88)) rfl) rfl ?_
          refine e_30 (f_192 (pc := 88) (e := (88, 30, 0, 0, 0, 0, 0, 89)) rfl) ?_
          obtain ⟨b17, b18, F⟩ := F
          refine e_110 (f_192 (pc := 89) (e := (89, 110, 0, 0, 0, 0, 0, 90)) rfl) rfl (hT 104 rfl) b17 b18 ?_
          refine e_80 (f_192 (pc := 90) (e := (90, 80, 168, 0, 0, 0, 0, 93)) rfl) ?_
          refine e_lo [3, 4] rfl ?_
          exact F
      · replace F := F.2 c3
        refine e_10 (f_192 (pc := 53) (e := (53, 10, 1, 0, 0, 0, 0, 54)) rfl) rfl ?_
        refine e_11 (f_192 (pc := 54) (e := (54, 11, 4, 0, 0, 0, 0, 56)) rfl) rfl ?_
        refine e_70 (f_192 (pc := 56) (e := (56, 70, 73, 0, 0, 0, 0, 59)) rfl) (fun c19 => ?_) (fun c19 => ?_)
        · replace F := F.1 c19
          refine e_lo [] rfl ?_
          exact F
        · replace F := F.2 c19
          refine e_12 (f_192 (pc := 59) (e := (59, 12, 0, 0, 0, 0, 0, 60)) rfl) rfl ?_
          refine e_10 (f_192 (pc := 60) (e := (60, 10, 1, 0, 0, 0, 0, 61)) rfl) rfl ?_
          refine e_11 (f_192 (pc := 61) (e := (61, 11, 4, 0, 0, 0, 0, 63)) rfl) rfl ?_
          refine e_130 (f_192 (pc := 63) (e := (63, 130, 186, 0, 11, 295, 1267, 66)) rfl) zA (as := [yr (some 102), yi x1, yi x4]) (rest := []) rfl rfl rfl rfl (Nat.le_of_ble_eq_true rfl) (Nat.le_of_ble_eq_true rfl) ⟨_, _, _, rfl, (hT 102 rfl)⟩ (mc := 0) (ms := 0) (Nat.zero_le _) (Nat.zero_le _) ?_
          refine e_K ?_ F
          rintro r h' ⟨r21, I20, rfl, rfl, F⟩
          refine e_60 (f_192 (pc := 66) (e := (66, 60, 73, 0, 0, 0, 0, 69)) rfl) (fun c22 => ?_) (fun c22 => ?_)
          · replace F := F.1 c22
            refine e_lo [] rfl ?_
            exact F
          · replace F := F.2 c22
            refine e_0 (f_192 (pc := 69) (e := (69, 0, 1, 0, 0, 0, 0, 70)) rfl) (v := 1) rfl ?_
            refine e_80 (f_192 (pc := 70) (e := (70, 80, 74, 0, 0, 0, 0, 73)) rfl) ?_
            refine e_lo [] rfl ?_
            exact F
    · replace F := F.2 c2
      refine e_12 (f_192 (pc := 28) (e := (28, 12, 0, 0, 0, 0, 0, 29)) rfl) rfl ?_
      refine e_90r zA (f_192 (pc := 29) (e := (29, 90, 11, 6, 3, 33, 1159, 32)) rfl) rfl (hT 102 rfl) rfl rfl (hR 102 6 rfl) ?_
      refine e_2 (f_192 (pc := 32) (e := (32, 2, 342, 0, 0, 0, 0, 35)) rfl) (v := 342) rfl ?_
      refine e_10 (f_192 (pc := 35) (e := (35, 10, 1, 0, 0, 0, 0, 36)) rfl) rfl ?_
      refine e_30 (f_192 (pc := 36) (e := (36, 30, 0, 0, 0, 0, 0, 37)) rfl) ?_
      obtain ⟨b23, b24, F⟩ := F
      refine e_110 (f_192 (pc := 37) (e := (37, 110, 0, 0, 0, 0, 0, 38)) rfl) rfl (hT 104 rfl) b23 b24 ?_
      refine e_0 (f_192 (pc := 38) (e := (38, 0, 1, 0, 0, 0, 0, 39)) rfl) (v := 1) rfl ?_
      refine e_71 (f_192 (pc := 39) (e := (39, 71, 46, 0, 0, 0, 0, 42)) rfl) (fun c25 => ?_) (fun c25 => ?_)
      · replace F := F.1 c25
        refine e_0 (f_192 (pc := 46) (e := (46, 0, 0, 0, 0, 0, 0, 47)) rfl) (v := 0) rfl ?_
        refine e_lo [] rfl ?_
        exact F
      · replace F := F.2 c25
        refine e_0 (f_192 (pc := 42) (e := (42, 0, 1, 0, 0, 0, 0, 43)) rfl) (v := 1) rfl ?_
        refine e_80 (f_192 (pc := 43) (e := (43, 80, 47, 0, 0, 0, 0, 46)) rfl) ?_
        refine e_lo [] rfl ?_
        exact F
  · replace F := F.2 c1
    refine e_12 (f_192 (pc := 4) (e := (4, 12, 0, 0, 0, 0, 0, 5)) rfl) rfl ?_
    refine e_90r zA (f_192 (pc := 5) (e := (5, 90, 11, 6, 3, 33, 1159, 8)) rfl) rfl (hT 102 rfl) rfl rfl (hR 102 6 rfl) ?_
    refine e_2 (f_192 (pc := 8) (e := (8, 2, 510, 0, 0, 0, 0, 11)) rfl) (v := 510) rfl ?_
    refine e_10 (f_192 (pc := 11) (e := (11, 10, 1, 0, 0, 0, 0, 12)) rfl) rfl ?_
    refine e_30 (f_192 (pc := 12) (e := (12, 30, 0, 0, 0, 0, 0, 13)) rfl) ?_
    obtain ⟨b26, b27, F⟩ := F
    refine e_110 (f_192 (pc := 13) (e := (13, 110, 0, 0, 0, 0, 0, 14)) rfl) rfl (hT 104 rfl) b26 b27 ?_
    refine e_62 (f_192 (pc := 14) (e := (14, 62, 21, 0, 0, 0, 0, 17)) rfl) (fun c28 => ?_) (fun c28 => ?_)
    · replace F := F.1 c28
      refine e_0 (f_192 (pc := 21) (e := (21, 0, 0, 0, 0, 0, 0, 22)) rfl) (v := 0) rfl ?_
      refine e_lo [] rfl ?_
      exact F
    · replace F := F.2 c28
      refine e_0 (f_192 (pc := 17) (e := (17, 0, 1, 0, 0, 0, 0, 18)) rfl) (v := 1) rfl ?_
      refine e_80 (f_192 (pc := 18) (e := (18, 80, 22, 0, 0, 0, 0, 21)) rfl) ?_
      refine e_lo [] rfl ?_
      exact F
set_option maxRecDepth 20000 in
theorem B_192_22 (hT : yLT T) (hR : yLR R) {t0 : Int} (F : (t0 = 0 ∨ t0 = 1) ∧ K (some (yi t0)) (N, T, R, I)) :
    yW l zSS D cy zFk z d 192 bc bs K 0 0 22 [] [yi t0] (N, T, R, I) := by
  exact e_121 (f_192 (pc := 22) (e := (22, 121, 0, 0, 0, 0, 0, 23)) rfl) F.1 F.2
set_option maxRecDepth 20000 in
theorem B_192_47 (hT : yLT T) (hR : yLR R) {t0 : Int} (F : (t0 = 0 ∨ t0 = 1) ∧ K (some (yi t0)) (N, T, R, I)) :
    yW l zSS D cy zFk z d 192 bc bs K 0 0 47 [] [yi t0] (N, T, R, I) := by
  exact e_121 (f_192 (pc := 47) (e := (47, 121, 0, 0, 0, 0, 0, 48)) rfl) F.1 F.2
set_option maxRecDepth 20000 in
theorem B_192_73 (hT : yLT T) (hR : yLR R) (F : yW l zSS D cy zFk z d 192 bc bs K 0 0 74 [] [yi 0] (N, T, R, I)) :
    yW l zSS D cy zFk z d 192 bc bs K 0 0 73 [] [] (N, T, R, I) := by
  refine e_0 (f_192 (pc := 73) (e := (73, 0, 0, 0, 0, 0, 0, 74)) rfl) (v := 0) rfl ?_
  refine e_lo [] rfl ?_
  exact F
set_option maxRecDepth 20000 in
theorem B_192_74 (hT : yLT T) (hR : yLR R) {t0 : Int} (F : (t0 = 0 ∨ t0 = 1) ∧ K (some (yi t0)) (N, T, R, I)) :
    yW l zSS D cy zFk z d 192 bc bs K 0 0 74 [] [yi t0] (N, T, R, I) := by
  exact e_121 (f_192 (pc := 74) (e := (74, 121, 0, 0, 0, 0, 0, 75)) rfl) F.1 F.2
set_option maxRecDepth 20000 in
theorem B_192_168 (hT : yLT T) (hR : yLR R) {x3 x4 t0 : Int} (F : (x3 ≠ 60 → (x3 ≠ 61 → (t0 ≤ x4 → yW l zSS D cy zFk z d 192 bc bs K 0 0 224 [] [yi 0] (N, T, R, I)) ∧ (¬ (t0 ≤ x4) → yW l zSS D cy zFk z d 192 bc bs K 0 0 224 [] [yi 1] (N, T, R, I))) ∧ (¬ (x3 ≠ 61) → (t0 ≠ x4 → yW l zSS D cy zFk z d 192 bc bs K 0 0 224 [] [yi 0] (N, T, R, I)) ∧ (¬ (t0 ≠ x4) → yW l zSS D cy zFk z d 192 bc bs K 0 0 224 [] [yi 1] (N, T, R, I)))) ∧ (¬ (x3 ≠ 60) → (x4 ≤ t0 → yW l zSS D cy zFk z d 192 bc bs K 0 0 224 [] [yi 0] (N, T, R, I)) ∧ (¬ (x4 ≤ t0) → yW l zSS D cy zFk z d 192 bc bs K 0 0 224 [] [yi 1] (N, T, R, I)))) :
    yW l zSS D cy zFk z d 192 bc bs K 0 0 168 [(3, yi x3), (4, yi x4)] [yi t0] (N, T, R, I) := by
  refine e_21 (f_192 (pc := 168) (e := (168, 21, 5, 0, 0, 0, 0, 170)) rfl) ?_
  refine e_10 (f_192 (pc := 170) (e := (170, 10, 3, 0, 0, 0, 0, 171)) rfl) rfl ?_
  refine e_1 (f_192 (pc := 171) (e := (171, 1, 60, 0, 0, 0, 0, 173)) rfl) (v := 60) rfl ?_
  refine e_71 (f_192 (pc := 173) (e := (173, 71, 191, 0, 0, 0, 0, 176)) rfl) (fun c1 => ?_) (fun c1 => ?_)
  · replace F := F.1 c1
    refine e_10 (f_192 (pc := 191) (e := (191, 10, 3, 0, 0, 0, 0, 192)) rfl) rfl ?_
    refine e_1 (f_192 (pc := 192) (e := (192, 1, 61, 0, 0, 0, 0, 194)) rfl) (v := 61) rfl ?_
    refine e_71 (f_192 (pc := 194) (e := (194, 71, 212, 0, 0, 0, 0, 197)) rfl) (fun c2 => ?_) (fun c2 => ?_)
    · replace F := F.1 c2
      refine e_11 (f_192 (pc := 212) (e := (212, 11, 5, 0, 0, 0, 0, 214)) rfl) rfl ?_
      refine e_11 (f_192 (pc := 214) (e := (214, 11, 4, 0, 0, 0, 0, 216)) rfl) rfl ?_
      refine e_75 (f_192 (pc := 216) (e := (216, 75, 223, 0, 0, 0, 0, 219)) rfl) (fun c3 => ?_) (fun c3 => ?_)
      · replace F := F.1 c3
        refine e_0 (f_192 (pc := 223) (e := (223, 0, 0, 0, 0, 0, 0, 224)) rfl) (v := 0) rfl ?_
        refine e_lo [] rfl ?_
        exact F
      · replace F := F.2 c3
        refine e_0 (f_192 (pc := 219) (e := (219, 0, 1, 0, 0, 0, 0, 220)) rfl) (v := 1) rfl ?_
        refine e_80 (f_192 (pc := 220) (e := (220, 80, 224, 0, 0, 0, 0, 223)) rfl) ?_
        refine e_lo [] rfl ?_
        exact F
    · replace F := F.2 c2
      refine e_11 (f_192 (pc := 197) (e := (197, 11, 5, 0, 0, 0, 0, 199)) rfl) rfl ?_
      refine e_11 (f_192 (pc := 199) (e := (199, 11, 4, 0, 0, 0, 0, 201)) rfl) rfl ?_
      refine e_71 (f_192 (pc := 201) (e := (201, 71, 208, 0, 0, 0, 0, 204)) rfl) (fun c4 => ?_) (fun c4 => ?_)
      · replace F := F.1 c4
        refine e_0 (f_192 (pc := 208) (e := (208, 0, 0, 0, 0, 0, 0, 209)) rfl) (v := 0) rfl ?_
        refine e_80 (f_192 (pc := 209) (e := (209, 80, 224, 0, 0, 0, 0, 212)) rfl) ?_
        refine e_lo [] rfl ?_
        exact F
      · replace F := F.2 c4
        refine e_0 (f_192 (pc := 204) (e := (204, 0, 1, 0, 0, 0, 0, 205)) rfl) (v := 1) rfl ?_
        refine e_80 (f_192 (pc := 205) (e := (205, 80, 224, 0, 0, 0, 0, 208)) rfl) ?_
        refine e_lo [] rfl ?_
        exact F
  · replace F := F.2 c1
    refine e_11 (f_192 (pc := 176) (e := (176, 11, 5, 0, 0, 0, 0, 178)) rfl) rfl ?_
    refine e_11 (f_192 (pc := 178) (e := (178, 11, 4, 0, 0, 0, 0, 180)) rfl) rfl ?_
    refine e_73 (f_192 (pc := 180) (e := (180, 73, 187, 0, 0, 0, 0, 183)) rfl) (fun c5 => ?_) (fun c5 => ?_)
    · replace F := F.1 c5
      refine e_0 (f_192 (pc := 187) (e := (187, 0, 0, 0, 0, 0, 0, 188)) rfl) (v := 0) rfl ?_
      refine e_80 (f_192 (pc := 188) (e := (188, 80, 224, 0, 0, 0, 0, 191)) rfl) ?_
      refine e_lo [] rfl ?_
      exact F
    · replace F := F.2 c5
      refine e_0 (f_192 (pc := 183) (e := (183, 0, 1, 0, 0, 0, 0, 184)) rfl) (v := 1) rfl ?_
      refine e_80 (f_192 (pc := 184) (e := (184, 80, 224, 0, 0, 0, 0, 187)) rfl) ?_
      refine e_lo [] rfl ?_
      exact F
set_option maxRecDepth 20000 in
theorem B_192_224 (hT : yLT T) (hR : yLR R) {t0 : Int} (F : (t0 = 0 ∨ t0 = 1) ∧ K (some (yi t0)) (N, T, R, I)) :
    yW l zSS D cy zFk z d 192 bc bs K 0 0 224 [] [yi t0] (N, T, R, I) := by
  exact e_121 (f_192 (pc := 224) (e := (224, 121, 0, 0, 0, 0, 0, 0)) rfl) F.1 F.2

/-! isMet()Z -/
set_option maxRecDepth 20000 in
theorem B_193_0 (hT : yLT T) (hR : yLR R) (F : yW l zSS D cy zFk z d 161 0 0 (fun r h' => ∃ I1, r = none ∧ h' = (N, T, R, I1) ∧ (yW l zSS D cy zFk z d 255 0 0 (fun r h' => ∃ I2, r = none ∧ h' = (N, T, R, I2) ∧ (yW l zSS D cy zFk z (d + 1) 193 bc bs K 0 0 8 [(0, yr (some 102))] [] (N, T, R, I2))) 0 0 0 [(0, yr (some 102))] [] (N, T, R, I1))) 0 0 0 [(0, yr (some 102))] [] (N, T, R, I)) :
    yW l zSS D cy zFk z (d + 1) 193 bc bs K 0 0 0 [(0, yr (some 102))] [] (N, T, R, I) := by
  refine e_12 (f_193 (pc := 0) (e := (0, 12, 0, 0, 0, 0, 0, 1)) rfl) rfl ?_
  refine e_130 (f_193 (pc := 1) (e := (1, 130, 161, 0, 11, 256, 1229, 4)) rfl) zA (as := [yr (some 102)]) (rest := []) rfl rfl rfl rfl (Nat.le_of_ble_eq_true rfl) (Nat.le_of_ble_eq_true rfl) ⟨_, _, _, rfl, (hT 102 rfl)⟩ (mc := 0) (ms := 0) (Nat.zero_le _) (Nat.zero_le _) ?_
  refine e_K ?_ F
  rintro r h' ⟨I1, rfl, rfl, F⟩
  refine e_12 (f_193 (pc := 4) (e := (4, 12, 0, 0, 0, 0, 0, 5)) rfl) rfl ?_
  refine e_130 (f_193 (pc := 5) (e := (5, 130, 255, 0, 11, 289, 1268, 8)) rfl) zA (as := [yr (some 102)]) (rest := []) rfl rfl rfl rfl (Nat.le_of_ble_eq_true rfl) (Nat.le_of_ble_eq_true rfl) ⟨_, _, _, rfl, (hT 102 rfl)⟩ (mc := 0) (ms := 0) (Nat.zero_le _) (Nat.zero_le _) ?_
  refine e_K ?_ F
  rintro r h' ⟨I2, rfl, rfl, F⟩
  refine e_lo [0] rfl ?_
  exact F
set_option maxRecDepth 20000 in
theorem B_193_8 (hT : yLT T) (hR : yLR R) (F : (100 ≤ (I 104 458) → ((I 104 459) ≤ 0 → K (some (yi 0)) (N, T, R, I)) ∧ (¬ ((I 104 459) ≤ 0) → K (some (yi 1)) (N, T, R, I))) ∧ (¬ (100 ≤ (I 104 458)) → ((I 104 459) ≠ 0 → ((I 104 459) ≤ 0 → K (some (yi 0)) (N, T, R, I)) ∧ (¬ ((I 104 459) ≤ 0) → K (some (yi 1)) (N, T, R, I))) ∧ (¬ ((I 104 459) ≠ 0) → yW l zSS D cy zFk z d 215 0 0 (fun r h' => ∃ I5, r = none ∧ h' = (N, T, R, I5) ∧ (yW l zSS D cy zFk z (d + 1) 193 bc bs K 0 0 8 [(0, yr (some 102))] [] (N, T, R, I5))) 0 0 0 [(0, yr (some 102))] [] (N, T, R, I)))) :
    yW l zSS D cy zFk z (d + 1) 193 bc bs K 0 0 8 [(0, yr (some 102))] [] (N, T, R, I) := by
  refine e_12 (f_193 (pc := 8) (e := (8, 12, 0, 0, 0, 0, 0, 9)) rfl) rfl ?_
  refine e_90r zA (f_193 (pc := 9) (e := (9, 90, 11, 6, 3, 33, 1159, 12)) rfl) rfl (hT 102 rfl) rfl rfl (hR 102 6 rfl) ?_
  refine e_2 (f_193 (pc := 12) (e := (12, 2, 458, 0, 0, 0, 0, 15)) rfl) (v := 458) rfl ?_
  refine e_110 (f_193 (pc := 15) (e := (15, 110, 0, 0, 0, 0, 0, 16)) rfl) rfl (hT 104 rfl) (by decide) (by decide) ?_
  refine e_1 (f_193 (pc := 16) (e := (16, 1, 100, 0, 0, 0, 0, 18)) rfl) (v := 100) rfl ?_
  refine e_73 (f_193 (pc := 18) (e := (18, 73, 39, 0, 0, 0, 0, 21)) rfl) (fun c1 => ?_) (fun c1 => ?_)
  · replace F := F.1 c1
    refine e_12 (f_193 (pc := 39) (e := (39, 12, 0, 0, 0, 0, 0, 40)) rfl) rfl ?_
    refine e_90r zA (f_193 (pc := 40) (e := (40, 90, 11, 6, 3, 33, 1159, 43)) rfl) rfl (hT 102 rfl) rfl rfl (hR 102 6 rfl) ?_
    refine e_2 (f_193 (pc := 43) (e := (43, 2, 459, 0, 0, 0, 0, 46)) rfl) (v := 459) rfl ?_
    refine e_110 (f_193 (pc := 46) (e := (46, 110, 0, 0, 0, 0, 0, 47)) rfl) rfl (hT 104 rfl) (by decide) (by decide) ?_
    refine e_65 (f_193 (pc := 47) (e := (47, 65, 54, 0, 0, 0, 0, 50)) rfl) (fun c2 => ?_) (fun c2 => ?_)
    · replace F := F.1 c2
      refine e_0 (f_193 (pc := 54) (e := (54, 0, 0, 0, 0, 0, 0, 55)) rfl) (v := 0) rfl ?_
      exact e_121 (f_193 (pc := 55) (e := (55, 121, 0, 0, 0, 0, 0, 0)) rfl) (.inl rfl) F
    · replace F := F.2 c2
      refine e_0 (f_193 (pc := 50) (e := (50, 0, 1, 0, 0, 0, 0, 51)) rfl) (v := 1) rfl ?_
      refine e_80 (f_193 (pc := 51) (e := (51, 80, 55, 0, 0, 0, 0, 54)) rfl) ?_
      exact e_121 (f_193 (pc := 55) (e := (55, 121, 0, 0, 0, 0, 0, 0)) rfl) (.inr rfl) F
  · replace F := F.2 c1
    refine e_12 (f_193 (pc := 21) (e := (21, 12, 0, 0, 0, 0, 0, 22)) rfl) rfl ?_
    refine e_90r zA (f_193 (pc := 22) (e := (22, 90, 11, 6, 3, 33, 1159, 25)) rfl) rfl (hT 102 rfl) rfl rfl (hR 102 6 rfl) ?_
    refine e_2 (f_193 (pc := 25) (e := (25, 2, 459, 0, 0, 0, 0, 28)) rfl) (v := 459) rfl ?_
    refine e_110 (f_193 (pc := 28) (e := (28, 110, 0, 0, 0, 0, 0, 29)) rfl) rfl (hT 104 rfl) (by decide) (by decide) ?_
    refine e_61 (f_193 (pc := 29) (e := (29, 61, 39, 0, 0, 0, 0, 32)) rfl) (fun c3 => ?_) (fun c3 => ?_)
    · replace F := F.1 c3
      refine e_12 (f_193 (pc := 39) (e := (39, 12, 0, 0, 0, 0, 0, 40)) rfl) rfl ?_
      refine e_90r zA (f_193 (pc := 40) (e := (40, 90, 11, 6, 3, 33, 1159, 43)) rfl) rfl (hT 102 rfl) rfl rfl (hR 102 6 rfl) ?_
      refine e_2 (f_193 (pc := 43) (e := (43, 2, 459, 0, 0, 0, 0, 46)) rfl) (v := 459) rfl ?_
      refine e_110 (f_193 (pc := 46) (e := (46, 110, 0, 0, 0, 0, 0, 47)) rfl) rfl (hT 104 rfl) (by decide) (by decide) ?_
      refine e_65 (f_193 (pc := 47) (e := (47, 65, 54, 0, 0, 0, 0, 50)) rfl) (fun c4 => ?_) (fun c4 => ?_)
      · replace F := F.1 c4
        refine e_0 (f_193 (pc := 54) (e := (54, 0, 0, 0, 0, 0, 0, 55)) rfl) (v := 0) rfl ?_
        exact e_121 (f_193 (pc := 55) (e := (55, 121, 0, 0, 0, 0, 0, 0)) rfl) (.inl rfl) F
      · replace F := F.2 c4
        refine e_0 (f_193 (pc := 50) (e := (50, 0, 1, 0, 0, 0, 0, 51)) rfl) (v := 1) rfl ?_
        refine e_80 (f_193 (pc := 51) (e := (51, 80, 55, 0, 0, 0, 0, 54)) rfl) ?_
        exact e_121 (f_193 (pc := 55) (e := (55, 121, 0, 0, 0, 0, 0, 0)) rfl) (.inr rfl) F
    · replace F := F.2 c3
      refine e_12 (f_193 (pc := 32) (e := (32, 12, 0, 0, 0, 0, 0, 33)) rfl) rfl ?_
      refine e_130 (f_193 (pc := 33) (e := (33, 130, 215, 0, 11, 339, 1269, 36)) rfl) zA (as := [yr (some 102)]) (rest := []) rfl rfl rfl rfl (Nat.le_of_ble_eq_true rfl) (Nat.le_of_ble_eq_true rfl) ⟨_, _, _, rfl, (hT 102 rfl)⟩ (mc := 0) (ms := 0) (Nat.zero_le _) (Nat.zero_le _) ?_
      refine e_K ?_ F
      rintro r h' ⟨I5, rfl, rfl, F⟩
      refine e_80 (f_193 (pc := 36) (e := (36, 80, 8, 0, 0, 0, 0, 39)) rfl) ?_
      refine e_lo [0] rfl ?_
      exact F

/-! isName()Z -/
set_option maxRecDepth 20000 in
theorem B_194_0 (hT : yLT T) (hR : yLR R) (F : ((I 102 11) ≠ 1 → yW l zSS D cy zFk z d 194 bc bs K 0 0 16 [(0, yr (some 102)), (1, yi 0), (2, yi 0)] [] (N, T, R, I)) ∧ (¬ ((I 102 11) ≠ 1) → yW l zSS D cy zFk z d 194 bc bs K 0 0 16 [(0, yr (some 102)), (1, yi 1), (2, yi 0)] [] (N, T, R, I))) :
    yW l zSS D cy zFk z d 194 bc bs K 0 0 0 [(0, yr (some 102))] [] (N, T, R, I) := by
  refine e_12 (f_194 (pc := 0) (e := (0, 12, 0, 0, 0, 0, 0, 1)) rfl) rfl ?_
  refine e_90 zA (f_194 (pc := 1) (e := (1, 90, 11, 11, 0, 161, 1225, 4)) rfl) rfl (hT 102 rfl) rfl rfl ?_
  refine e_0 (f_194 (pc := 4) (e := (4, 0, 1, 0, 0, 0, 0, 5)) rfl) (v := 1) rfl ?_
  refine e_71 (f_194 (pc := 5) (e := (5, 71, 12, 0, 0, 0, 0, 8)) rfl) (fun c1 => ?_) (fun c1 => ?_)
  · replace F := F.1 c1
    refine e_0 (f_194 (pc := 12) (e := (12, 0, 0, 0, 0, 0, 0, 13)) rfl) (v := 0) rfl ?_
    refine e_20 (f_194 (pc := 13) (e := (13, 20, 1, 0, 0, 0, 0, 14)) rfl) ?_
    refine e_0 (f_194 (pc := 14) (e := (14, 0, 0, 0, 0, 0, 0, 15)) rfl) (v := 0) rfl ?_
    refine e_20 (f_194 (pc := 15) (e := (15, 20, 2, 0, 0, 0, 0, 16)) rfl) ?_
    refine e_lo [0, 1, 2] rfl ?_
    exact F
  · replace F := F.2 c1
    refine e_0 (f_194 (pc := 8) (e := (8, 0, 1, 0, 0, 0, 0, 9)) rfl) (v := 1) rfl ?_
    refine e_80 (f_194 (pc := 9) (e := (9, 80, 13, 0, 0, 0, 0, 12)) rfl) ?_
    refine e_20 (f_194 (pc := 13) (e := (13, 20, 1, 0, 0, 0, 0, 14)) rfl) ?_
    refine e_0 (f_194 (pc := 14) (e := (14, 0, 0, 0, 0, 0, 0, 15)) rfl) (v := 0) rfl ?_
    refine e_20 (f_194 (pc := 15) (e := (15, 20, 2, 0, 0, 0, 0, 16)) rfl) ?_
    refine e_lo [0, 1, 2] rfl ?_
    exact F
set_option maxRecDepth 20000 in
theorem B_194_16 (hT : yLT T) (hR : yLR R) {x1 x2 : Int} (F : (24 ≤ x2 → (x1 = 0 ∨ x1 = 1) ∧ K (some (yi x1)) (N, T, R, I)) ∧ (¬ (24 ≤ x2) → (x1 = 0 → yW l zSS D cy zFk z d 194 bc bs K 0 0 16 [(0, yr (some 102)), (1, yi 0), (2, yi (yadd x2 1))] [] (N, T, R, I)) ∧ (¬ (x1 = 0) → 0 ≤ x2 ∧ x2 < 24 ∧ (((ylcmp (I 102 17) (I 108 x2.toNat)) = 0 → yW l zSS D cy zFk z d 194 bc bs K 0 0 16 [(0, yr (some 102)), (1, yi 0), (2, yi (yadd x2 1))] [] (N, T, R, I)) ∧ (¬ ((ylcmp (I 102 17) (I 108 x2.toNat)) = 0) → yW l zSS D cy zFk z d 194 bc bs K 0 0 16 [(0, yr (some 102)), (1, yi 1), (2, yi (yadd x2 1))] [] (N, T, R, I)))))) :
    yW l zSS D cy zFk z d 194 bc bs K 0 0 16 [(0, yr (some 102)), (1, yi x1), (2, yi x2)] [] (N, T, R, I) := by
  refine e_10 (f_194 (pc := 16) (e := (16, 10, 2, 0, 0, 0, 0, 17)) rfl) rfl ?_
  refine e_1 (f_194 (pc := 17) (e := (17, 1, 24, 0, 0, 0, 0, 19)) rfl) (v := 24) rfl ?_
  refine e_73 (f_194 (pc := 19) (e := (19, 73, 52, 0, 0, 0, 0, 22)) rfl) (fun c1 => ?_) (fun c1 => ?_)
  · replace F := F.1 c1
    refine e_10 (f_194 (pc := 52) (e := (52, 10, 1, 0, 0, 0, 0, 53)) rfl) rfl ?_
    exact e_121 (f_194 (pc := 53) (e := (53, 121, 0, 0, 0, 0, 0, 0)) rfl) F.1 F.2
  · replace F := F.2 c1
    refine e_10 (f_194 (pc := 22) (e := (22, 10, 1, 0, 0, 0, 0, 23)) rfl) rfl ?_
    refine e_60 (f_194 (pc := 23) (e := (23, 60, 44, 0, 0, 0, 0, 26)) rfl) (fun c2 => ?_) (fun c2 => ?_)
    · replace F := F.1 c2
      refine e_0 (f_194 (pc := 44) (e := (44, 0, 0, 0, 0, 0, 0, 45)) rfl) (v := 0) rfl ?_
      refine e_20 (f_194 (pc := 45) (e := (45, 20, 1, 0, 0, 0, 0, 46)) rfl) ?_
      refine e_26 (f_194 (pc := 46) (e := (46, 26, 2, 1, 0, 0, 0, 49)) rfl) (w := 1) rfl rfl ?_
      refine e_80 (f_194 (pc := 49) (e := (49, 80, 16, 0, 0, 0, 0, 52)) rfl) ?_
      refine e_lo [0, 1, 2] rfl ?_
      exact F
    · replace F := F.2 c2
      refine e_12 (f_194 (pc := 26) (e := (26, 12, 0, 0, 0, 0, 0, 27)) rfl) rfl ?_
      refine e_90 zA (f_194 (pc := 27) (e := (27, 90, 11, 17, 1, 174, 1258, 30)) rfl) rfl (hT 102 rfl) rfl rfl ?_
      refine e_12 (f_194 (pc := 30) (e := (30, 12, 0, 0, 0, 0, 0, 31)) rfl) rfl ?_
      refine e_90r zA (f_194 (pc := 31) (e := (31, 90, 11, 10, 3, 47, 1163, 34)) rfl) rfl (hT 102 rfl) rfl rfl (hR 102 10 rfl) ?_
      refine e_10 (f_194 (pc := 34) (e := (34, 10, 2, 0, 0, 0, 0, 35)) rfl) rfl ?_
      obtain ⟨b3, b4, F⟩ := F
      refine e_114 (f_194 (pc := 35) (e := (35, 114, 0, 0, 0, 0, 0, 36)) rfl) rfl (hT 108 rfl) b3 b4 ?_
      refine e_55 (f_194 (pc := 36) (e := (36, 55, 0, 0, 0, 0, 0, 37)) rfl) ?_
      refine e_60 (f_194 (pc := 37) (e := (37, 60, 44, 0, 0, 0, 0, 40)) rfl) (fun c5 => ?_) (fun c5 => ?_)
      · replace F := F.1 c5
        refine e_0 (f_194 (pc := 44) (e := (44, 0, 0, 0, 0, 0, 0, 45)) rfl) (v := 0) rfl ?_
        refine e_20 (f_194 (pc := 45) (e := (45, 20, 1, 0, 0, 0, 0, 46)) rfl) ?_
        refine e_26 (f_194 (pc := 46) (e := (46, 26, 2, 1, 0, 0, 0, 49)) rfl) (w := 1) rfl rfl ?_
        refine e_80 (f_194 (pc := 49) (e := (49, 80, 16, 0, 0, 0, 0, 52)) rfl) ?_
        refine e_lo [0, 1, 2] rfl ?_
        exact F
      · replace F := F.2 c5
        refine e_0 (f_194 (pc := 40) (e := (40, 0, 1, 0, 0, 0, 0, 41)) rfl) (v := 1) rfl ?_
        refine e_80 (f_194 (pc := 41) (e := (41, 80, 45, 0, 0, 0, 0, 44)) rfl) ?_
        refine e_20 (f_194 (pc := 45) (e := (45, 20, 1, 0, 0, 0, 0, 46)) rfl) ?_
        refine e_26 (f_194 (pc := 46) (e := (46, 26, 2, 1, 0, 0, 0, 49)) rfl) (w := 1) rfl rfl ?_
        refine e_80 (f_194 (pc := 49) (e := (49, 80, 16, 0, 0, 0, 0, 52)) rfl) ?_
        refine e_lo [0, 1, 2] rfl ?_
        exact F

/-! isSaid(I)Z -/
set_option maxRecDepth 20000 in
theorem B_195_0 (hT : yLT T) (hR : yLR R) {x1 : Int} (F : yW l zSS D cy zFk z d 195 bc bs K 0 0 4 [(0, yr (some 102)), (1, yi x1), (2, yi 0), (3, yi 0)] [] (N, T, R, I)) :
    yW l zSS D cy zFk z d 195 bc bs K 0 0 0 [(0, yr (some 102)), (1, yi x1)] [] (N, T, R, I) := by
  refine e_0 (f_195 (pc := 0) (e := (0, 0, 0, 0, 0, 0, 0, 1)) rfl) (v := 0) rfl ?_
  refine e_20 (f_195 (pc := 1) (e := (1, 20, 2, 0, 0, 0, 0, 2)) rfl) ?_
  refine e_0 (f_195 (pc := 2) (e := (2, 0, 0, 0, 0, 0, 0, 3)) rfl) (v := 0) rfl ?_
  refine e_20 (f_195 (pc := 3) (e := (3, 20, 3, 0, 0, 0, 0, 4)) rfl) ?_
  refine e_lo [0, 1, 2, 3] rfl ?_
  exact F
set_option maxRecDepth 20000 in
theorem B_195_4 (hT : yLT T) (hR : yLR R) {x1 x2 x3 : Int} (F : ((I 104 1007) ≤ x3 → ((I 122 0) = 0 ∨ (I 122 0) = 1) ∧ K (some (yi (I 122 0))) (N, T, R, I)) ∧ (¬ ((I 104 1007) ≤ x3) → 0 ≤ (yadd 1008 (ymul 3 x3)) ∧ (yadd 1008 (ymul 3 x3)) < 1188 ∧ (((I 104 (yadd 1008 (ymul 3 x3)).toNat) ≠ 20 → 0 ≤ (yadd 1008 (ymul 3 x3)) ∧ (yadd 1008 (ymul 3 x3)) < 1188 ∧ (((I 104 (yadd 1008 (ymul 3 x3)).toNat) = 21 → yW l zSS D cy zFk z (d + 1) 195 bc bs K 0 0 88 [(0, yr (some 102)), (1, yi x1), (2, yi x2), (3, yi x3), (4, yi (yadd 1008 (ymul 3 x3)))] [] (N, T, R, I)) ∧ (¬ ((I 104 (yadd 1008 (ymul 3 x3)).toNat) = 21) → 0 ≤ (yadd 1008 (ymul 3 x3)) ∧ (yadd 1008 (ymul 3 x3)) < 1188 ∧ (((I 104 (yadd 1008 (ymul 3 x3)).toNat) ≠ 22 → 0 ≤ (yadd 1008 (ymul 3 x3)) ∧ (yadd 1008 (ymul 3 x3)) < 1188 ∧ (0 ≤ (yadd (yadd 1008 (ymul 3 x3)) 1) ∧ (yadd (yadd 1008 (ymul 3 x3)) 1) < 1188 ∧ (0 ≤ (yadd (yadd 1008 (ymul 3 x3)) 2) ∧ (yadd (yadd 1008 (ymul 3 x3)) 2) < 1188 ∧ (yW l zSS D cy zFk z d 192 0 0 (fun r h' => ∃ r18 I17, r = some (yi r18) ∧ h' = (N, T, R, I17) ∧ (0 ≤ x2 ∧ x2 < 45 ∧ (∀ I21, I21 = yU I17 122 x2.toNat (ynar 3 r18) → (yW l zSS D cy zFk z (d + 1) 195 bc bs K 0 0 206 [(0, yr (some 102)), (1, yi x1), (2, yi (yadd x2 1)), (3, yi x3)] [] (N, T, R, I21))))) 0 0 0 [(0, yr (some 102)), (1, yi x1), (2, yi (I 104 (yadd 1008 (ymul 3 x3)).toNat)), (3, yi (I 104 (yadd (yadd 1008 (ymul 3 x3)) 1).toNat)), (4, yi (I 104 (yadd (yadd 1008 (ymul 3 x3)) 2).toNat))] [] (N, T, R, I))))) ∧ (¬ ((I 104 (yadd 1008 (ymul 3 x3)).toNat) ≠ 22) → yW l zSS D cy zFk z (d + 1) 195 bc bs K 0 0 88 [(0, yr (some 102)), (1, yi x1), (2, yi x2), (3, yi x3), (4, yi (yadd 1008 (ymul 3 x3)))] [] (N, T, R, I)))))) ∧ (¬ ((I 104 (yadd 1008 (ymul 3 x3)).toNat) ≠ 20) → 0 ≤ (ysub x2 1) ∧ (ysub x2 1) < 45 ∧ (((I 122 (ysub x2 1).toNat) ≠ 0 → 0 ≤ (ysub x2 1) ∧ (ysub x2 1) < 45 ∧ (∀ I27, I27 = yU I 122 ((ysub x2 1).toNat) (ynar 3 0) → (yW l zSS D cy zFk z (d + 1) 195 bc bs K 0 0 206 [(0, yr (some 102)), (1, yi x1), (2, yi x2), (3, yi x3)] [] (N, T, R, I27)))) ∧ (¬ ((I 122 (ysub x2 1).toNat) ≠ 0) → 0 ≤ (ysub x2 1) ∧ (ysub x2 1) < 45 ∧ (∀ I30, I30 = yU I 122 ((ysub x2 1).toNat) (ynar 3 1) → (yW l zSS D cy zFk z (d + 1) 195 bc bs K 0 0 206 [(0, yr (some 102)), (1, yi x1), (2, yi x2), (3, yi x3)] [] (N, T, R, I30))))))))) :
    yW l zSS D cy zFk z (d + 1) 195 bc bs K 0 0 4 [(0, yr (some 102)), (1, yi x1), (2, yi x2), (3, yi x3)] [] (N, T, R, I) := by
  refine e_10 (f_195 (pc := 4) (e := (4, 10, 3, 0, 0, 0, 0, 5)) rfl) rfl ?_
  refine e_12 (f_195 (pc := 5) (e := (5, 12, 0, 0, 0, 0, 0, 6)) rfl) rfl ?_
  refine e_90r zA (f_195 (pc := 6) (e := (6, 90, 11, 6, 3, 33, 1159, 9)) rfl) rfl (hT 102 rfl) rfl rfl (hR 102 6 rfl) ?_
  refine e_2 (f_195 (pc := 9) (e := (9, 2, 1007, 0, 0, 0, 0, 12)) rfl) (v := 1007) rfl ?_
  refine e_110 (f_195 (pc := 12) (e := (12, 110, 0, 0, 0, 0, 0, 13)) rfl) rfl (hT 104 rfl) (by decide) (by decide) ?_
  refine e_73 (f_195 (pc := 13) (e := (13, 73, 212, 0, 0, 0, 0, 16)) rfl) (fun c1 => ?_) (fun c1 => ?_)
  · replace F := F.1 c1
    refine e_12 (f_195 (pc := 212) (e := (212, 12, 0, 0, 0, 0, 0, 213)) rfl) rfl ?_
    refine e_90r zA (f_195 (pc := 213) (e := (213, 90, 11, 53, 3, 90, 1178, 216)) rfl) rfl (hT 102 rfl) rfl rfl (hR 102 53 rfl) ?_
    refine e_0 (f_195 (pc := 216) (e := (216, 0, 0, 0, 0, 0, 0, 217)) rfl) (v := 0) rfl ?_
    refine e_112 (f_195 (pc := 217) (e := (217, 112, 0, 0, 0, 0, 0, 218)) rfl) rfl (hT 122 rfl) (by decide) (by decide) (.inr rfl) ?_
    exact e_121 (f_195 (pc := 218) (e := (218, 121, 0, 0, 0, 0, 0, 0)) rfl) F.1 F.2
  · replace F := F.2 c1
    refine e_2 (f_195 (pc := 16) (e := (16, 2, 1008, 0, 0, 0, 0, 19)) rfl) (v := 1008) rfl ?_
    refine e_0 (f_195 (pc := 19) (e := (19, 0, 3, 0, 0, 0, 0, 20)) rfl) (v := 3) rfl ?_
    refine e_10 (f_195 (pc := 20) (e := (20, 10, 3, 0, 0, 0, 0, 21)) rfl) rfl ?_
    refine e_32 (f_195 (pc := 21) (e := (21, 32, 0, 0, 0, 0, 0, 22)) rfl) ?_
    refine e_30 (f_195 (pc := 22) (e := (22, 30, 0, 0, 0, 0, 0, 23)) rfl) ?_
    refine e_21 (f_195 (pc := 23) (e := (23, 21, 4, 0, 0, 0, 0, 25)) rfl) ?_
    refine e_12 (f_195 (pc := 25) (e := (25, 12, 0, 0, 0, 0, 0, 26)) rfl) rfl ?_
    refine e_90r zA (f_195 (pc := 26) (e := (26, 90, 11, 6, 3, 33, 1159, 29)) rfl) rfl (hT 102 rfl) rfl rfl (hR 102 6 rfl) ?_
    refine e_11 (f_195 (pc := 29) (e := (29, 11, 4, 0, 0, 0, 0, 31)) rfl) rfl ?_
    obtain ⟨b2, b3, F⟩ := F
    refine e_110 (f_195 (pc := 31) (e := (31, 110, 0, 0, 0, 0, 0, 32)) rfl) rfl (hT 104 rfl) b2 b3 ?_
    refine e_1 (f_195 (pc := 32) (e := (32, 1, 20, 0, 0, 0, 0, 34)) rfl) (v := 20) rfl ?_
    refine e_71 (f_195 (pc := 34) (e := (34, 71, 64, 0, 0, 0, 0, 37)) rfl) (fun c4 => ?_) (fun c4 => ?_)
    · replace F := F.1 c4
      refine e_12 (f_195 (pc := 64) (e := (64, 12, 0, 0, 0, 0, 0, 65)) rfl) rfl ?_
      refine e_90r zA (f_195 (pc := 65) (e := (65, 90, 11, 6, 3, 33, 1159, 68)) rfl) rfl (hT 102 rfl) rfl rfl (hR 102 6 rfl) ?_
      refine e_11 (f_195 (pc := 68) (e := (68, 11, 4, 0, 0, 0, 0, 70)) rfl) rfl ?_
      obtain ⟨b5, b6, F⟩ := F
      refine e_110 (f_195 (pc := 70) (e := (70, 110, 0, 0, 0, 0, 0, 71)) rfl) rfl (hT 104 rfl) b5 b6 ?_
      refine e_1 (f_195 (pc := 71) (e := (71, 1, 21, 0, 0, 0, 0, 73)) rfl) (v := 21) rfl ?_
      refine e_70 (f_195 (pc := 73) (e := (73, 70, 88, 0, 0, 0, 0, 76)) rfl) (fun c7 => ?_) (fun c7 => ?_)
      · replace F := F.1 c7
        refine e_lo [0, 1, 2, 3, 4] rfl ?_
        exact F
      · replace F := F.2 c7
        refine e_12 (f_195 (pc := 76) (e := (76, 12, 0, 0, 0, 0, 0, 77)) rfl) rfl ?_
        refine e_90r zA (f_195 (pc := 77) (e := (77, 90, 11, 6, 3, 33, 1159, 80)) rfl) rfl (hT 102 rfl) rfl rfl (hR 102 6 rfl) ?_
        refine e_11 (f_195 (pc := 80) (e := (80, 11, 4, 0, 0, 0, 0, 82)) rfl) rfl ?_
        obtain ⟨b8, b9, F⟩ := F
        refine e_110 (f_195 (pc := 82) (e := (82, 110, 0, 0, 0, 0, 0, 83)) rfl) rfl (hT 104 rfl) b8 b9 ?_
        refine e_1 (f_195 (pc := 83) (e := (83, 1, 22, 0, 0, 0, 0, 85)) rfl) (v := 22) rfl ?_
        refine e_71 (f_195 (pc := 85) (e := (85, 71, 167, 0, 0, 0, 0, 88)) rfl) (fun c10 => ?_) (fun c10 => ?_)
        · replace F := F.1 c10
          refine e_12 (f_195 (pc := 167) (e := (167, 12, 0, 0, 0, 0, 0, 168)) rfl) rfl ?_
          refine e_90r zA (f_195 (pc := 168) (e := (168, 90, 11, 53, 3, 90, 1178, 171)) rfl) rfl (hT 102 rfl) rfl rfl (hR 102 53 rfl) ?_
          refine e_10 (f_195 (pc := 171) (e := (171, 10, 2, 0, 0, 0, 0, 172)) rfl) rfl ?_
          refine e_12 (f_195 (pc := 172) (e := (172, 12, 0, 0, 0, 0, 0, 173)) rfl) rfl ?_
          refine e_10 (f_195 (pc := 173) (e := (173, 10, 1, 0, 0, 0, 0, 174)) rfl) rfl ?_
          refine e_12 (f_195 (pc := 174) (e := (174, 12, 0, 0, 0, 0, 0, 175)) rfl) rfl ?_
          refine e_90r zA (f_195 (pc := 175) (e := (175, 90, 11, 6, 3, 33, 1159, 178)) rfl) rfl (hT 102 rfl) rfl rfl (hR 102 6 rfl) ?_
          refine e_11 (f_195 (pc := 178) (e := (178, 11, 4, 0, 0, 0, 0, 180)) rfl) rfl ?_
          obtain ⟨b11, b12, F⟩ := F
          refine e_110 (f_195 (pc := 180) (e := (180, 110, 0, 0, 0, 0, 0, 181)) rfl) rfl (hT 104 rfl) b11 b12 ?_
          refine e_12 (f_195 (pc := 181) (e := (181, 12, 0, 0, 0, 0, 0, 182)) rfl) rfl ?_
          refine e_90r zA (f_195 (pc := 182) (e := (182, 90, 11, 6, 3, 33, 1159, 185)) rfl) rfl (hT 102 rfl) rfl rfl (hR 102 6 rfl) ?_
          refine e_11 (f_195 (pc := 185) (e := (185, 11, 4, 0, 0, 0, 0, 187)) rfl) rfl ?_
          refine e_0 (f_195 (pc := 187) (e := (187, 0, 1, 0, 0, 0, 0, 188)) rfl) (v := 1) rfl ?_
          refine e_30 (f_195 (pc := 188) (e := (188, 30, 0, 0, 0, 0, 0, 189)) rfl) ?_
          obtain ⟨b13, b14, F⟩ := F
          refine e_110 (f_195 (pc := 189) (e := (189, 110, 0, 0, 0, 0, 0, 190)) rfl) rfl (hT 104 rfl) b13 b14 ?_
          refine e_12 (f_195 (pc := 190) (e := (190, 12, 0, 0, 0, 0, 0, 191)) rfl) rfl ?_
          refine e_90r zA (f_195 (pc := 191) (e := (191, 90, 11, 6, 3, 33, 1159, 194)) rfl) rfl (hT 102 rfl) rfl rfl (hR 102 6 rfl) ?_
          refine e_11 (f_195 (pc := 194) (e := (194, 11, 4, 0, 0, 0, 0, 196)) rfl) rfl ?_
          refine e_0 (f_195 (pc := 196) (e := (196, 0, 2, 0, 0, 0, 0, 197)) rfl) (v := 2) rfl ?_
          refine e_30 (f_195 (pc := 197) (e := (197, 30, 0, 0, 0, 0, 0, 198)) rfl) ?_
          obtain ⟨b15, b16, F⟩ := F
          refine e_110 (f_195 (pc := 198) (e := (198, 110, 0, 0, 0, 0, 0, 199)) rfl) rfl (hT 104 rfl) b15 b16 ?_
          refine e_130 (f_195 (pc := 199) (e := (199, 130, 192, 0, 11, 447, 1270, 202)) rfl) zA (as := [yr (some 102), yi x1, yi _, yi _, yi _]) (rest := [yi x2, yr (some 122)]) rfl rfl rfl rfl (Nat.le_of_ble_eq_true rfl) (Nat.le_of_ble_eq_true rfl) ⟨_, _, _, rfl, (hT 102 rfl)⟩ (mc := 0) (ms := 0) (Nat.zero_le _) (Nat.zero_le _) ?_
          refine e_K ?_ F
          rintro r h' ⟨r18, I17, rfl, rfl, F⟩
          obtain ⟨b19, b20, F⟩ := F
          refine e_113 (f_195 (pc := 202) (e := (202, 113, 0, 0, 0, 0, 0, 203)) rfl) rfl (hT 122 rfl) b19 b20 (.inr rfl) ?_
          replace F := F _ rfl
          refine e_26 (f_195 (pc := 203) (e := (203, 26, 2, 1, 0, 0, 0, 206)) rfl) (w := 1) rfl rfl ?_
          refine e_lo [0, 1, 2, 3] rfl ?_
          exact F
        · replace F := F.2 c10
          refine e_lo [0, 1, 2, 3, 4] rfl ?_
          exact F
    · replace F := F.2 c4
      refine e_12 (f_195 (pc := 37) (e := (37, 12, 0, 0, 0, 0, 0, 38)) rfl) rfl ?_
      refine e_90r zA (f_195 (pc := 38) (e := (38, 90, 11, 53, 3, 90, 1178, 41)) rfl) rfl (hT 102 rfl) rfl rfl (hR 102 53 rfl) ?_
      refine e_10 (f_195 (pc := 41) (e := (41, 10, 2, 0, 0, 0, 0, 42)) rfl) rfl ?_
      refine e_0 (f_195 (pc := 42) (e := (42, 0, 1, 0, 0, 0, 0, 43)) rfl) (v := 1) rfl ?_
      refine e_31 (f_195 (pc := 43) (e := (43, 31, 0, 0, 0, 0, 0, 44)) rfl) ?_
      refine e_12 (f_195 (pc := 44) (e := (44, 12, 0, 0, 0, 0, 0, 45)) rfl) rfl ?_
      refine e_90r zA (f_195 (pc := 45) (e := (45, 90, 11, 53, 3, 90, 1178, 48)) rfl) rfl (hT 102 rfl) rfl rfl (hR 102 53 rfl) ?_
      refine e_10 (f_195 (pc := 48) (e := (48, 10, 2, 0, 0, 0, 0, 49)) rfl) rfl ?_
      refine e_0 (f_195 (pc := 49) (e := (49, 0, 1, 0, 0, 0, 0, 50)) rfl) (v := 1) rfl ?_
      refine e_31 (f_195 (pc := 50) (e := (50, 31, 0, 0, 0, 0, 0, 51)) rfl) ?_
      obtain ⟨b22, b23, F⟩ := F
      refine e_112 (f_195 (pc := 51) (e := (51, 112, 0, 0, 0, 0, 0, 52)) rfl) rfl (hT 122 rfl) b22 b23 (.inr rfl) ?_
      refine e_61 (f_195 (pc := 52) (e := (52, 61, 59, 0, 0, 0, 0, 55)) rfl) (fun c24 => ?_) (fun c24 => ?_)
      · replace F := F.1 c24
        refine e_0 (f_195 (pc := 59) (e := (59, 0, 0, 0, 0, 0, 0, 60)) rfl) (v := 0) rfl ?_
        obtain ⟨b25, b26, F⟩ := F
        refine e_113 (f_195 (pc := 60) (e := (60, 113, 0, 0, 0, 0, 0, 61)) rfl) rfl (hT 122 rfl) b25 b26 (.inr rfl) ?_
        replace F := F _ rfl
        refine e_80 (f_195 (pc := 61) (e := (61, 80, 206, 0, 0, 0, 0, 64)) rfl) ?_
        refine e_lo [0, 1, 2, 3] rfl ?_
        exact F
      · replace F := F.2 c24
        refine e_0 (f_195 (pc := 55) (e := (55, 0, 1, 0, 0, 0, 0, 56)) rfl) (v := 1) rfl ?_
        refine e_80 (f_195 (pc := 56) (e := (56, 80, 60, 0, 0, 0, 0, 59)) rfl) ?_
        obtain ⟨b28, b29, F⟩ := F
        refine e_113 (f_195 (pc := 60) (e := (60, 113, 0, 0, 0, 0, 0, 61)) rfl) rfl (hT 122 rfl) b28 b29 (.inr rfl) ?_
        replace F := F _ rfl
        refine e_80 (f_195 (pc := 61) (e := (61, 80, 206, 0, 0, 0, 0, 64)) rfl) ?_
        refine e_lo [0, 1, 2, 3] rfl ?_
        exact F
set_option maxRecDepth 20000 in
theorem B_195_88 (hT : yLT T) (hR : yLR R) {x1 x2 x3 x4 : Int} (F : 0 ≤ x4 ∧ x4 < 1188 ∧ (((I 104 x4.toNat) ≠ 21 → 0 ≤ (ysub (yadd x2 (-1)) 1) ∧ (ysub (yadd x2 (-1)) 1) < 45 ∧ (((I 122 (ysub (yadd x2 (-1)) 1).toNat) ≠ 0 → 0 ≤ (ysub (yadd x2 (-1)) 1) ∧ (ysub (yadd x2 (-1)) 1) < 45 ∧ (∀ I9, I9 = yU I 122 ((ysub (yadd x2 (-1)) 1).toNat) (ynar 3 1) → (yW l zSS D cy zFk z d 195 bc bs K 0 0 206 [(0, yr (some 102)), (1, yi x1), (2, yi (yadd x2 (-1))), (3, yi x3)] [] (N, T, R, I9)))) ∧ (¬ ((I 122 (ysub (yadd x2 (-1)) 1).toNat) ≠ 0) → 0 ≤ (yadd x2 (-1)) ∧ (yadd x2 (-1)) < 45 ∧ (((I 122 (yadd x2 (-1)).toNat) = 0 → 0 ≤ (ysub (yadd x2 (-1)) 1) ∧ (ysub (yadd x2 (-1)) 1) < 45 ∧ (∀ I15, I15 = yU I 122 ((ysub (yadd x2 (-1)) 1).toNat) (ynar 3 0) → (yW l zSS D cy zFk z d 195 bc bs K 0 0 206 [(0, yr (some 102)), (1, yi x1), (2, yi (yadd x2 (-1))), (3, yi x3)] [] (N, T, R, I15)))) ∧ (¬ ((I 122 (yadd x2 (-1)).toNat) = 0) → 0 ≤ (ysub (yadd x2 (-1)) 1) ∧ (ysub (yadd x2 (-1)) 1) < 45 ∧ (∀ I18, I18 = yU I 122 ((ysub (yadd x2 (-1)) 1).toNat) (ynar 3 1) → (yW l zSS D cy zFk z d 195 bc bs K 0 0 206 [(0, yr (some 102)), (1, yi x1), (2, yi (yadd x2 (-1))), (3, yi x3)] [] (N, T, R, I18)))))))) ∧ (¬ ((I 104 x4.toNat) ≠ 21) → 0 ≤ (ysub (yadd x2 (-1)) 1) ∧ (ysub (yadd x2 (-1)) 1) < 45 ∧ (((I 122 (ysub (yadd x2 (-1)) 1).toNat) = 0 → 0 ≤ (ysub (yadd x2 (-1)) 1) ∧ (ysub (yadd x2 (-1)) 1) < 45 ∧ (∀ I24, I24 = yU I 122 ((ysub (yadd x2 (-1)) 1).toNat) (ynar 3 0) → (yW l zSS D cy zFk z d 195 bc bs K 0 0 206 [(0, yr (some 102)), (1, yi x1), (2, yi (yadd x2 (-1))), (3, yi x3)] [] (N, T, R, I24)))) ∧ (¬ ((I 122 (ysub (yadd x2 (-1)) 1).toNat) = 0) → 0 ≤ (yadd x2 (-1)) ∧ (yadd x2 (-1)) < 45 ∧ (((I 122 (yadd x2 (-1)).toNat) = 0 → 0 ≤ (ysub (yadd x2 (-1)) 1) ∧ (ysub (yadd x2 (-1)) 1) < 45 ∧ (∀ I30, I30 = yU I 122 ((ysub (yadd x2 (-1)) 1).toNat) (ynar 3 0) → (yW l zSS D cy zFk z d 195 bc bs K 0 0 206 [(0, yr (some 102)), (1, yi x1), (2, yi (yadd x2 (-1))), (3, yi x3)] [] (N, T, R, I30)))) ∧ (¬ ((I 122 (yadd x2 (-1)).toNat) = 0) → 0 ≤ (ysub (yadd x2 (-1)) 1) ∧ (ysub (yadd x2 (-1)) 1) < 45 ∧ (∀ I33, I33 = yU I 122 ((ysub (yadd x2 (-1)) 1).toNat) (ynar 3 1) → (yW l zSS D cy zFk z d 195 bc bs K 0 0 206 [(0, yr (some 102)), (1, yi x1), (2, yi (yadd x2 (-1))), (3, yi x3)] [] (N, T, R, I33)))))))))) :
    yW l zSS D cy zFk z d 195 bc bs K 0 0 88 [(0, yr (some 102)), (1, yi x1), (2, yi x2), (3, yi x3), (4, yi x4)] [] (N, T, R, I) := by
  refine e_26 (f_195 (pc := 88) (e := (88, 26, 2, 4294967295, 0, 0, 0, 91)) rfl) (w := (-1)) rfl rfl ?_
  refine e_12 (f_195 (pc := 91) (e := (91, 12, 0, 0, 0, 0, 0, 92)) rfl) rfl ?_
  refine e_90r zA (f_195 (pc := 92) (e := (92, 90, 11, 53, 3, 90, 1178, 95)) rfl) rfl (hT 102 rfl) rfl rfl (hR 102 53 rfl) ?_
  refine e_10 (f_195 (pc := 95) (e := (95, 10, 2, 0, 0, 0, 0, 96)) rfl) rfl ?_
  refine e_0 (f_195 (pc := 96) (e := (96, 0, 1, 0, 0, 0, 0, 97)) rfl) (v := 1) rfl ?_
  refine e_31 (f_195 (pc := 97) (e := (97, 31, 0, 0, 0, 0, 0, 98)) rfl) ?_
  refine e_12 (f_195 (pc := 98) (e := (98, 12, 0, 0, 0, 0, 0, 99)) rfl) rfl ?_
  refine e_90r zA (f_195 (pc := 99) (e := (99, 90, 11, 6, 3, 33, 1159, 102)) rfl) rfl (hT 102 rfl) rfl rfl (hR 102 6 rfl) ?_
  refine e_11 (f_195 (pc := 102) (e := (102, 11, 4, 0, 0, 0, 0, 104)) rfl) rfl ?_
  obtain ⟨b1, b2, F⟩ := F
  refine e_110 (f_195 (pc := 104) (e := (104, 110, 0, 0, 0, 0, 0, 105)) rfl) rfl (hT 104 rfl) b1 b2 ?_
  refine e_1 (f_195 (pc := 105) (e := (105, 1, 21, 0, 0, 0, 0, 107)) rfl) (v := 21) rfl ?_
  refine e_71 (f_195 (pc := 107) (e := (107, 71, 138, 0, 0, 0, 0, 110)) rfl) (fun c3 => ?_) (fun c3 => ?_)
  · replace F := F.1 c3
    refine e_12 (f_195 (pc := 138) (e := (138, 12, 0, 0, 0, 0, 0, 139)) rfl) rfl ?_
    refine e_90r zA (f_195 (pc := 139) (e := (139, 90, 11, 53, 3, 90, 1178, 142)) rfl) rfl (hT 102 rfl) rfl rfl (hR 102 53 rfl) ?_
    refine e_10 (f_195 (pc := 142) (e := (142, 10, 2, 0, 0, 0, 0, 143)) rfl) rfl ?_
    refine e_0 (f_195 (pc := 143) (e := (143, 0, 1, 0, 0, 0, 0, 144)) rfl) (v := 1) rfl ?_
    refine e_31 (f_195 (pc := 144) (e := (144, 31, 0, 0, 0, 0, 0, 145)) rfl) ?_
    obtain ⟨b4, b5, F⟩ := F
    refine e_112 (f_195 (pc := 145) (e := (145, 112, 0, 0, 0, 0, 0, 146)) rfl) rfl (hT 122 rfl) b4 b5 (.inr rfl) ?_
    refine e_61 (f_195 (pc := 146) (e := (146, 61, 158, 0, 0, 0, 0, 149)) rfl) (fun c6 => ?_) (fun c6 => ?_)
    · replace F := F.1 c6
      refine e_0 (f_195 (pc := 158) (e := (158, 0, 1, 0, 0, 0, 0, 159)) rfl) (v := 1) rfl ?_
      refine e_80 (f_195 (pc := 159) (e := (159, 80, 163, 0, 0, 0, 0, 162)) rfl) ?_
      obtain ⟨b7, b8, F⟩ := F
      refine e_113 (f_195 (pc := 163) (e := (163, 113, 0, 0, 0, 0, 0, 164)) rfl) rfl (hT 122 rfl) b7 b8 (.inr rfl) ?_
      replace F := F _ rfl
      refine e_80 (f_195 (pc := 164) (e := (164, 80, 206, 0, 0, 0, 0, 167)) rfl) ?_
      refine e_lo [0, 1, 2, 3] rfl ?_
      exact F
    · replace F := F.2 c6
      refine e_12 (f_195 (pc := 149) (e := (149, 12, 0, 0, 0, 0, 0, 150)) rfl) rfl ?_
      refine e_90r zA (f_195 (pc := 150) (e := (150, 90, 11, 53, 3, 90, 1178, 153)) rfl) rfl (hT 102 rfl) rfl rfl (hR 102 53 rfl) ?_
      refine e_10 (f_195 (pc := 153) (e := (153, 10, 2, 0, 0, 0, 0, 154)) rfl) rfl ?_
      obtain ⟨b10, b11, F⟩ := F
      refine e_112 (f_195 (pc := 154) (e := (154, 112, 0, 0, 0, 0, 0, 155)) rfl) rfl (hT 122 rfl) b10 b11 (.inr rfl) ?_
      refine e_60 (f_195 (pc := 155) (e := (155, 60, 162, 0, 0, 0, 0, 158)) rfl) (fun c12 => ?_) (fun c12 => ?_)
      · replace F := F.1 c12
        refine e_0 (f_195 (pc := 162) (e := (162, 0, 0, 0, 0, 0, 0, 163)) rfl) (v := 0) rfl ?_
        obtain ⟨b13, b14, F⟩ := F
        refine e_113 (f_195 (pc := 163) (e := (163, 113, 0, 0, 0, 0, 0, 164)) rfl) rfl (hT 122 rfl) b13 b14 (.inr rfl) ?_
        replace F := F _ rfl
        refine e_80 (f_195 (pc := 164) (e := (164, 80, 206, 0, 0, 0, 0, 167)) rfl) ?_
        refine e_lo [0, 1, 2, 3] rfl ?_
        exact F
      · replace F := F.2 c12
        refine e_0 (f_195 (pc := 158) (e := (158, 0, 1, 0, 0, 0, 0, 159)) rfl) (v := 1) rfl ?_
        refine e_80 (f_195 (pc := 159) (e := (159, 80, 163, 0, 0, 0, 0, 162)) rfl) ?_
        obtain ⟨b16, b17, F⟩ := F
        refine e_113 (f_195 (pc := 163) (e := (163, 113, 0, 0, 0, 0, 0, 164)) rfl) rfl (hT 122 rfl) b16 b17 (.inr rfl) ?_
        replace F := F _ rfl
        refine e_80 (f_195 (pc := 164) (e := (164, 80, 206, 0, 0, 0, 0, 167)) rfl) ?_
        refine e_lo [0, 1, 2, 3] rfl ?_
        exact F
  · replace F := F.2 c3
    refine e_12 (f_195 (pc := 110) (e := (110, 12, 0, 0, 0, 0, 0, 111)) rfl) rfl ?_
    refine e_90r zA (f_195 (pc := 111) (e := (111, 90, 11, 53, 3, 90, 1178, 114)) rfl) rfl (hT 102 rfl) rfl rfl (hR 102 53 rfl) ?_
    refine e_10 (f_195 (pc := 114) (e := (114, 10, 2, 0, 0, 0, 0, 115)) rfl) rfl ?_
    refine e_0 (f_195 (pc := 115) (e := (115, 0, 1, 0, 0, 0, 0, 116)) rfl) (v := 1) rfl ?_
    refine e_31 (f_195 (pc := 116) (e := (116, 31, 0, 0, 0, 0, 0, 117)) rfl) ?_
    obtain ⟨b19, b20, F⟩ := F
    refine e_112 (f_195 (pc := 117) (e := (117, 112, 0, 0, 0, 0, 0, 118)) rfl) rfl (hT 122 rfl) b19 b20 (.inr rfl) ?_
    refine e_60 (f_195 (pc := 118) (e := (118, 60, 134, 0, 0, 0, 0, 121)) rfl) (fun c21 => ?_) (fun c21 => ?_)
    · replace F := F.1 c21
      refine e_0 (f_195 (pc := 134) (e := (134, 0, 0, 0, 0, 0, 0, 135)) rfl) (v := 0) rfl ?_
      refine e_80 (f_195 (pc := 135) (e := (135, 80, 163, 0, 0, 0, 0, 138)) rfl) ?_
      obtain ⟨b22, b23, F⟩ := F
      refine e_113 (f_195 (pc := 163) (e := (163, 113, 0, 0, 0, 0, 0, 164)) rfl) rfl (hT 122 rfl) b22 b23 (.inr rfl) ?_
      replace F := F _ rfl
      refine e_80 (f_195 (pc := 164) (e := (164, 80, 206, 0, 0, 0, 0, 167)) rfl) ?_
      refine e_lo [0, 1, 2, 3] rfl ?_
      exact F
    · replace F := F.2 c21
      refine e_12 (f_195 (pc := 121) (e := (121, 12, 0, 0, 0, 0, 0, 122)) rfl) rfl ?_
      refine e_90r zA (f_195 (pc := 122) (e := (122, 90, 11, 53, 3, 90, 1178, 125)) rfl) rfl (hT 102 rfl) rfl rfl (hR 102 53 rfl) ?_
      refine e_10 (f_195 (pc := 125) (e := (125, 10, 2, 0, 0, 0, 0, 126)) rfl) rfl ?_
      obtain ⟨b25, b26, F⟩ := F
      refine e_112 (f_195 (pc := 126) (e := (126, 112, 0, 0, 0, 0, 0, 127)) rfl) rfl (hT 122 rfl) b25 b26 (.inr rfl) ?_
      refine e_60 (f_195 (pc := 127) (e := (127, 60, 134, 0, 0, 0, 0, 130)) rfl) (fun c27 => ?_) (fun c27 => ?_)
      · replace F := F.1 c27
        refine e_0 (f_195 (pc := 134) (e := (134, 0, 0, 0, 0, 0, 0, 135)) rfl) (v := 0) rfl ?_
        refine e_80 (f_195 (pc := 135) (e := (135, 80, 163, 0, 0, 0, 0, 138)) rfl) ?_
        obtain ⟨b28, b29, F⟩ := F
        refine e_113 (f_195 (pc := 163) (e := (163, 113, 0, 0, 0, 0, 0, 164)) rfl) rfl (hT 122 rfl) b28 b29 (.inr rfl) ?_
        replace F := F _ rfl
        refine e_80 (f_195 (pc := 164) (e := (164, 80, 206, 0, 0, 0, 0, 167)) rfl) ?_
        refine e_lo [0, 1, 2, 3] rfl ?_
        exact F
      · replace F := F.2 c27
        refine e_0 (f_195 (pc := 130) (e := (130, 0, 1, 0, 0, 0, 0, 131)) rfl) (v := 1) rfl ?_
        refine e_80 (f_195 (pc := 131) (e := (131, 80, 163, 0, 0, 0, 0, 134)) rfl) ?_
        obtain ⟨b31, b32, F⟩ := F
        refine e_113 (f_195 (pc := 163) (e := (163, 113, 0, 0, 0, 0, 0, 164)) rfl) rfl (hT 122 rfl) b31 b32 (.inr rfl) ?_
        replace F := F _ rfl
        refine e_80 (f_195 (pc := 164) (e := (164, 80, 206, 0, 0, 0, 0, 167)) rfl) ?_
        refine e_lo [0, 1, 2, 3] rfl ?_
        exact F
set_option maxRecDepth 20000 in
theorem B_195_206 (hT : yLT T) (hR : yLR R) {x1 x2 x3 : Int} (F : yW l zSS D cy zFk z d 195 bc bs K 0 0 4 [(0, yr (some 102)), (1, yi x1), (2, yi x2), (3, yi (yadd x3 1))] [] (N, T, R, I)) :
    yW l zSS D cy zFk z d 195 bc bs K 0 0 206 [(0, yr (some 102)), (1, yi x1), (2, yi x2), (3, yi x3)] [] (N, T, R, I) := by
  refine e_26 (f_195 (pc := 206) (e := (206, 26, 3, 1, 0, 0, 0, 209)) rfl) (w := 1) rfl rfl ?_
  refine e_80 (f_195 (pc := 209) (e := (209, 80, 4, 0, 0, 0, 0, 212)) rfl) ?_
  refine e_lo [0, 1, 2, 3] rfl ?_
  exact F

/-! isSign(I)Z -/
set_option maxRecDepth 20000 in
theorem B_196_0 (hT : yLT T) (hR : yLR R) {x1 : Int} (F : ((I 102 11) ≠ 3 → K (some (yi 0)) (N, T, R, I)) ∧ (¬ ((I 102 11) ≠ 3) → ((I 102 14) ≠ x1 → K (some (yi 0)) (N, T, R, I)) ∧ (¬ ((I 102 14) ≠ x1) → K (some (yi 1)) (N, T, R, I)))) :
    yW l zSS D cy zFk z d 196 bc bs K 0 0 0 [(0, yr (some 102)), (1, yi x1)] [] (N, T, R, I) := by
  refine e_12 (f_196 (pc := 0) (e := (0, 12, 0, 0, 0, 0, 0, 1)) rfl) rfl ?_
  refine e_90 zA (f_196 (pc := 1) (e := (1, 90, 11, 11, 0, 161, 1225, 4)) rfl) rfl (hT 102 rfl) rfl rfl ?_
  refine e_0 (f_196 (pc := 4) (e := (4, 0, 3, 0, 0, 0, 0, 5)) rfl) (v := 3) rfl ?_
  refine e_71 (f_196 (pc := 5) (e := (5, 71, 20, 0, 0, 0, 0, 8)) rfl) (fun c1 => ?_) (fun c1 => ?_)
  · replace F := F.1 c1
    refine e_0 (f_196 (pc := 20) (e := (20, 0, 0, 0, 0, 0, 0, 21)) rfl) (v := 0) rfl ?_
    exact e_121 (f_196 (pc := 21) (e := (21, 121, 0, 0, 0, 0, 0, 0)) rfl) (.inl rfl) F
  · replace F := F.2 c1
    refine e_12 (f_196 (pc := 8) (e := (8, 12, 0, 0, 0, 0, 0, 9)) rfl) rfl ?_
    refine e_90 zA (f_196 (pc := 9) (e := (9, 90, 11, 14, 0, 171, 1266, 12)) rfl) rfl (hT 102 rfl) rfl rfl ?_
    refine e_10 (f_196 (pc := 12) (e := (12, 10, 1, 0, 0, 0, 0, 13)) rfl) rfl ?_
    refine e_71 (f_196 (pc := 13) (e := (13, 71, 20, 0, 0, 0, 0, 16)) rfl) (fun c2 => ?_) (fun c2 => ?_)
    · replace F := F.1 c2
      refine e_0 (f_196 (pc := 20) (e := (20, 0, 0, 0, 0, 0, 0, 21)) rfl) (v := 0) rfl ?_
      exact e_121 (f_196 (pc := 21) (e := (21, 121, 0, 0, 0, 0, 0, 0)) rfl) (.inl rfl) F
    · replace F := F.2 c2
      refine e_0 (f_196 (pc := 16) (e := (16, 0, 1, 0, 0, 0, 0, 17)) rfl) (v := 1) rfl ?_
      refine e_80 (f_196 (pc := 17) (e := (17, 80, 21, 0, 0, 0, 0, 20)) rfl) ?_
      exact e_121 (f_196 (pc := 21) (e := (21, 121, 0, 0, 0, 0, 0, 0)) rfl) (.inr rfl) F

/-! isSmall(I)Z -/
set_option maxRecDepth 20000 in
theorem B_197_0 (hT : yLT T) (hR : yLR R) {x0 : Int} (F : (x0 < 97 → K (some (yi 0)) (N, T, R, I)) ∧ (¬ (x0 < 97) → (122 < x0 → K (some (yi 0)) (N, T, R, I)) ∧ (¬ (122 < x0) → K (some (yi 1)) (N, T, R, I)))) :
    yW l zSS D cy zFk z d 197 bc bs K 0 0 0 [(0, yi x0)] [] (N, T, R, I) := by
  refine e_10 (f_197 (pc := 0) (e := (0, 10, 0, 0, 0, 0, 0, 1)) rfl) rfl ?_
  refine e_1 (f_197 (pc := 1) (e := (1, 1, 97, 0, 0, 0, 0, 3)) rfl) (v := 97) rfl ?_
  refine e_72 (f_197 (pc := 3) (e := (3, 72, 16, 0, 0, 0, 0, 6)) rfl) (fun c1 => ?_) (fun c1 => ?_)
  · replace F := F.1 c1
    refine e_0 (f_197 (pc := 16) (e := (16, 0, 0, 0, 0, 0, 0, 17)) rfl) (v := 0) rfl ?_
    exact e_121 (f_197 (pc := 17) (e := (17, 121, 0, 0, 0, 0, 0, 0)) rfl) (.inl rfl) F
  · replace F := F.2 c1
    refine e_10 (f_197 (pc := 6) (e := (6, 10, 0, 0, 0, 0, 0, 7)) rfl) rfl ?_
    refine e_1 (f_197 (pc := 7) (e := (7, 1, 122, 0, 0, 0, 0, 9)) rfl) (v := 122) rfl ?_
    refine e_74 (f_197 (pc := 9) (e := (9, 74, 16, 0, 0, 0, 0, 12)) rfl) (fun c2 => ?_) (fun c2 => ?_)
    · replace F := F.1 c2
      refine e_0 (f_197 (pc := 16) (e := (16, 0, 0, 0, 0, 0, 0, 17)) rfl) (v := 0) rfl ?_
      exact e_121 (f_197 (pc := 17) (e := (17, 121, 0, 0, 0, 0, 0, 0)) rfl) (.inl rfl) F
    · replace F := F.2 c2
      refine e_0 (f_197 (pc := 12) (e := (12, 0, 1, 0, 0, 0, 0, 13)) rfl) (v := 1) rfl ?_
      refine e_80 (f_197 (pc := 13) (e := (13, 80, 17, 0, 0, 0, 0, 16)) rfl) ?_
      exact e_121 (f_197 (pc := 17) (e := (17, 121, 0, 0, 0, 0, 0, 0)) rfl) (.inr rfl) F

/-! isToCome(I)Z -/
set_option maxRecDepth 20000 in
theorem B_198_0 (hT : yLT T) (hR : yLR R) {x1 : Int} (F : 0 ≤ (yadd 510 x1) ∧ (yadd 510 x1) < 1188 ∧ ((0 ≤ (I 104 (yadd 510 x1).toNat) → K (some (yi 0)) (N, T, R, I)) ∧ (¬ (0 ≤ (I 104 (yadd 510 x1).toNat)) → yW l zSS D cy zFk z d 164 0 0 (fun r h' => ∃ r5 I4, r = some (yi r5) ∧ h' = (N, T, R, I4) ∧ ((r5 ≠ 0 → K (some (yi 0)) (N, T, R, I4)) ∧ (¬ (r5 ≠ 0) → K (some (yi 1)) (N, T, R, I4)))) 0 0 0 [(0, yi (I 102 28)), (1, yi x1)] [] (N, T, R, I)))) :
    yW l zSS D cy zFk z (d + 1) 198 bc bs K 0 0 0 [(0, yr (some 102)), (1, yi x1)] [] (N, T, R, I) := by
  refine e_12 (f_198 (pc := 0) (e := (0, 12, 0, 0, 0, 0, 0, 1)) rfl) rfl ?_
  refine e_90r zA (f_198 (pc := 1) (e := (1, 90, 11, 6, 3, 33, 1159, 4)) rfl) rfl (hT 102 rfl) rfl rfl (hR 102 6 rfl) ?_
  refine e_2 (f_198 (pc := 4) (e := (4, 2, 510, 0, 0, 0, 0, 7)) rfl) (v := 510) rfl ?_
  refine e_10 (f_198 (pc := 7) (e := (7, 10, 1, 0, 0, 0, 0, 8)) rfl) rfl ?_
  refine e_30 (f_198 (pc := 8) (e := (8, 30, 0, 0, 0, 0, 0, 9)) rfl) ?_
  obtain ⟨b1, b2, F⟩ := F
  refine e_110 (f_198 (pc := 9) (e := (9, 110, 0, 0, 0, 0, 0, 10)) rfl) rfl (hT 104 rfl) b1 b2 ?_
  refine e_63 (f_198 (pc := 10) (e := (10, 63, 28, 0, 0, 0, 0, 13)) rfl) (fun c3 => ?_) (fun c3 => ?_)
  · replace F := F.1 c3
    refine e_0 (f_198 (pc := 28) (e := (28, 0, 0, 0, 0, 0, 0, 29)) rfl) (v := 0) rfl ?_
    exact e_121 (f_198 (pc := 29) (e := (29, 121, 0, 0, 0, 0, 0, 0)) rfl) (.inl rfl) F
  · replace F := F.2 c3
    refine e_12 (f_198 (pc := 13) (e := (13, 12, 0, 0, 0, 0, 0, 14)) rfl) rfl ?_
    refine e_90 zA (f_198 (pc := 14) (e := (14, 90, 11, 28, 0, 301, 1232, 17)) rfl) rfl (hT 102 rfl) rfl rfl ?_
    refine e_10 (f_198 (pc := 17) (e := (17, 10, 1, 0, 0, 0, 0, 18)) rfl) rfl ?_
    refine e_132 (f_198 (pc := 18) (e := (18, 132, 164, 2, 11, 238, 1207, 21)) rfl) zA (as := [yi _, yi x1]) (rest := []) rfl rfl rfl rfl (Nat.le_of_ble_eq_true rfl) (Nat.le_of_ble_eq_true rfl) (mc := 0) (ms := 0) (Nat.zero_le _) (Nat.zero_le _) ?_
    refine e_K ?_ F
    rintro r h' ⟨r5, I4, rfl, rfl, F⟩
    refine e_61 (f_198 (pc := 21) (e := (21, 61, 28, 0, 0, 0, 0, 24)) rfl) (fun c6 => ?_) (fun c6 => ?_)
    · replace F := F.1 c6
      refine e_0 (f_198 (pc := 28) (e := (28, 0, 0, 0, 0, 0, 0, 29)) rfl) (v := 0) rfl ?_
      exact e_121 (f_198 (pc := 29) (e := (29, 121, 0, 0, 0, 0, 0, 0)) rfl) (.inl rfl) F
    · replace F := F.2 c6
      refine e_0 (f_198 (pc := 24) (e := (24, 0, 1, 0, 0, 0, 0, 25)) rfl) (v := 1) rfl ?_
      refine e_80 (f_198 (pc := 25) (e := (25, 80, 29, 0, 0, 0, 0, 28)) rfl) ?_
      exact e_121 (f_198 (pc := 29) (e := (29, 121, 0, 0, 0, 0, 0, 0)) rfl) (.inr rfl) F

/-! isWord(J)Z -/
set_option maxRecDepth 20000 in
theorem B_199_0 (hT : yLT T) (hR : yLR R) {x1 : Int} (F : ((I 102 11) ≠ 1 → K (some (yi 0)) (N, T, R, I)) ∧ (¬ ((I 102 11) ≠ 1) → ((ylcmp (I 102 17) x1) ≠ 0 → K (some (yi 0)) (N, T, R, I)) ∧ (¬ ((ylcmp (I 102 17) x1) ≠ 0) → K (some (yi 1)) (N, T, R, I)))) :
    yW l zSS D cy zFk z d 199 bc bs K 0 0 0 [(0, yr (some 102)), (1, yj x1)] [] (N, T, R, I) := by
  refine e_12 (f_199 (pc := 0) (e := (0, 12, 0, 0, 0, 0, 0, 1)) rfl) rfl ?_
  refine e_90 zA (f_199 (pc := 1) (e := (1, 90, 11, 11, 0, 161, 1225, 4)) rfl) rfl (hT 102 rfl) rfl rfl ?_
  refine e_0 (f_199 (pc := 4) (e := (4, 0, 1, 0, 0, 0, 0, 5)) rfl) (v := 1) rfl ?_
  refine e_71 (f_199 (pc := 5) (e := (5, 71, 21, 0, 0, 0, 0, 8)) rfl) (fun c1 => ?_) (fun c1 => ?_)
  · replace F := F.1 c1
    refine e_0 (f_199 (pc := 21) (e := (21, 0, 0, 0, 0, 0, 0, 22)) rfl) (v := 0) rfl ?_
    exact e_121 (f_199 (pc := 22) (e := (22, 121, 0, 0, 0, 0, 0, 0)) rfl) (.inl rfl) F
  · replace F := F.2 c1
    refine e_12 (f_199 (pc := 8) (e := (8, 12, 0, 0, 0, 0, 0, 9)) rfl) rfl ?_
    refine e_90 zA (f_199 (pc := 9) (e := (9, 90, 11, 17, 1, 174, 1258, 12)) rfl) rfl (hT 102 rfl) rfl rfl ?_
    refine e_14 (f_199 (pc := 12) (e := (12, 14, 1, 0, 0, 0, 0, 13)) rfl) rfl ?_
    refine e_55 (f_199 (pc := 13) (e := (13, 55, 0, 0, 0, 0, 0, 14)) rfl) ?_
    refine e_61 (f_199 (pc := 14) (e := (14, 61, 21, 0, 0, 0, 0, 17)) rfl) (fun c2 => ?_) (fun c2 => ?_)
    · replace F := F.1 c2
      refine e_0 (f_199 (pc := 21) (e := (21, 0, 0, 0, 0, 0, 0, 22)) rfl) (v := 0) rfl ?_
      exact e_121 (f_199 (pc := 22) (e := (22, 121, 0, 0, 0, 0, 0, 0)) rfl) (.inl rfl) F
    · replace F := F.2 c2
      refine e_0 (f_199 (pc := 17) (e := (17, 0, 1, 0, 0, 0, 0, 18)) rfl) (v := 1) rfl ?_
      refine e_80 (f_199 (pc := 18) (e := (18, 80, 22, 0, 0, 0, 0, 21)) rfl) ?_
      exact e_121 (f_199 (pc := 22) (e := (22, 121, 0, 0, 0, 0, 0, 0)) rfl) (.inr rfl) F

/-! joins(I)V -/
set_option maxRecDepth 20000 in
theorem B_200_0 (hT : yLT T) (hR : yLR R) {x1 : Int} (F : ((I 102 50) ≤ 0 → K none (N, T, R, I)) ∧ (¬ ((I 102 50) ≤ 0) → 0 ≤ (ysub (I 102 50) 1) ∧ (ysub (I 102 50) 1) < 45 ∧ (((I 121 (ysub (I 102 50) 1).toNat) = 21 → ∀ I5, I5 = yU I 102 50 (ysub (I 102 50) 1) → (0 ≤ (I5 102 50) ∧ (I5 102 50) < 45 ∧ (yW l zSS D cy zFk z d 169 0 0 (fun r h' => ∃ I8, r = none ∧ h' = (N, T, R, I8) ∧ (yW l zSS D cy zFk z (d + 1) 200 bc bs K 0 0 0 [(0, yr (some 102)), (1, yi x1)] [] (N, T, R, I8))) 0 0 0 [(0, yr (some 102)), (1, yi (I5 121 (I5 102 50).toNat)), (2, yi 0), (3, yi 0)] [] (N, T, R, I5)))) ∧ (¬ ((I 121 (ysub (I 102 50) 1).toNat) = 21) → 0 ≤ (ysub (I 102 50) 1) ∧ (ysub (I 102 50) 1) < 45 ∧ (((I 121 (ysub (I 102 50) 1).toNat) ≠ 22 → K none (N, T, R, I)) ∧ (¬ ((I 121 (ysub (I 102 50) 1).toNat) ≠ 22) → (x1 ≠ 22 → K none (N, T, R, I)) ∧ (¬ (x1 ≠ 22) → ∀ I13, I13 = yU I 102 50 (ysub (I 102 50) 1) → (0 ≤ (I13 102 50) ∧ (I13 102 50) < 45 ∧ (yW l zSS D cy zFk z d 169 0 0 (fun r h' => ∃ I16, r = none ∧ h' = (N, T, R, I16) ∧ (yW l zSS D cy zFk z (d + 1) 200 bc bs K 0 0 0 [(0, yr (some 102)), (1, yi x1)] [] (N, T, R, I16))) 0 0 0 [(0, yr (some 102)), (1, yi (I13 121 (I13 102 50).toNat)), (2, yi 0), (3, yi 0)] [] (N, T, R, I13)))))))))) :
    yW l zSS D cy zFk z (d + 1) 200 bc bs K 0 0 0 [(0, yr (some 102)), (1, yi x1)] [] (N, T, R, I) := by
  refine e_12 (f_200 (pc := 0) (e := (0, 12, 0, 0, 0, 0, 0, 1)) rfl) rfl ?_
  refine e_90 zA (f_200 (pc := 1) (e := (1, 90, 11, 50, 0, 417, 1240, 4)) rfl) rfl (hT 102 rfl) rfl rfl ?_
  refine e_65 (f_200 (pc := 4) (e := (4, 65, 73, 0, 0, 0, 0, 7)) rfl) (fun c1 => ?_) (fun c1 => ?_)
  · replace F := F.1 c1
    exact e_122 (f_200 (pc := 73) (e := (73, 122, 0, 0, 0, 0, 0, 0)) rfl) F
  · replace F := F.2 c1
    refine e_12 (f_200 (pc := 7) (e := (7, 12, 0, 0, 0, 0, 0, 8)) rfl) rfl ?_
    refine e_90r zA (f_200 (pc := 8) (e := (8, 90, 11, 47, 3, 87, 1177, 11)) rfl) rfl (hT 102 rfl) rfl rfl (hR 102 47 rfl) ?_
    refine e_12 (f_200 (pc := 11) (e := (11, 12, 0, 0, 0, 0, 0, 12)) rfl) rfl ?_
    refine e_90 zA (f_200 (pc := 12) (e := (12, 90, 11, 50, 0, 417, 1240, 15)) rfl) rfl (hT 102 rfl) rfl rfl ?_
    refine e_0 (f_200 (pc := 15) (e := (15, 0, 1, 0, 0, 0, 0, 16)) rfl) (v := 1) rfl ?_
    refine e_31 (f_200 (pc := 16) (e := (16, 31, 0, 0, 0, 0, 0, 17)) rfl) ?_
    obtain ⟨b2, b3, F⟩ := F
    refine e_110 (f_200 (pc := 17) (e := (17, 110, 0, 0, 0, 0, 0, 18)) rfl) rfl (hT 121 rfl) b2 b3 ?_
    refine e_1 (f_200 (pc := 18) (e := (18, 1, 21, 0, 0, 0, 0, 20)) rfl) (v := 21) rfl ?_
    refine e_70 (f_200 (pc := 20) (e := (20, 70, 45, 0, 0, 0, 0, 23)) rfl) (fun c4 => ?_) (fun c4 => ?_)
    · replace F := F.1 c4
      refine e_12 (f_200 (pc := 45) (e := (45, 12, 0, 0, 0, 0, 0, 46)) rfl) rfl ?_
      refine e_50 (f_200 (pc := 46) (e := (46, 50, 0, 0, 0, 0, 0, 47)) rfl) rfl ?_
      refine e_90 zA (f_200 (pc := 47) (e := (47, 90, 11, 50, 0, 417, 1240, 50)) rfl) rfl (hT 102 rfl) rfl rfl ?_
      refine e_0 (f_200 (pc := 50) (e := (50, 0, 1, 0, 0, 0, 0, 51)) rfl) (v := 1) rfl ?_
      refine e_31 (f_200 (pc := 51) (e := (51, 31, 0, 0, 0, 0, 0, 52)) rfl) ?_
      refine e_91 zA (f_200 (pc := 52) (e := (52, 91, 11, 50, 0, 417, 1240, 55)) rfl) rfl (hT 102 rfl) rfl rfl trivial ?_
      replace F := F _ rfl
      refine e_12 (f_200 (pc := 55) (e := (55, 12, 0, 0, 0, 0, 0, 56)) rfl) rfl ?_
      refine e_12 (f_200 (pc := 56) (e := (56, 12, 0, 0, 0, 0, 0, 57)) rfl) rfl ?_
      refine e_90r zA (f_200 (pc := 57) (e := (57, 90, 11, 47, 3, 87, 1177, 60)) rfl) rfl (hT 102 rfl) rfl rfl (hR 102 47 rfl) ?_
      refine e_12 (f_200 (pc := 60) (e := (60, 12, 0, 0, 0, 0, 0, 61)) rfl) rfl ?_
      refine e_90 zA (f_200 (pc := 61) (e := (61, 90, 11, 50, 0, 417, 1240, 64)) rfl) rfl (hT 102 rfl) rfl rfl ?_
      obtain ⟨b6, b7, F⟩ := F
      refine e_110 (f_200 (pc := 64) (e := (64, 110, 0, 0, 0, 0, 0, 65)) rfl) rfl (hT 121 rfl) b6 b7 ?_
      refine e_0 (f_200 (pc := 65) (e := (65, 0, 0, 0, 0, 0, 0, 66)) rfl) (v := 0) rfl ?_
      refine e_0 (f_200 (pc := 66) (e := (66, 0, 0, 0, 0, 0, 0, 67)) rfl) (v := 0) rfl ?_
      refine e_130 (f_200 (pc := 67) (e := (67, 130, 169, 0, 11, 420, 1271, 70)) rfl) zA (as := [yr (some 102), yi _, yi 0, yi 0]) (rest := []) rfl rfl rfl rfl (Nat.le_of_ble_eq_true rfl) (Nat.le_of_ble_eq_true rfl) ⟨_, _, _, rfl, (hT 102 rfl)⟩ (mc := 0) (ms := 0) (Nat.zero_le _) (Nat.zero_le _) ?_
      refine e_K ?_ F
      rintro r h' ⟨I8, rfl, rfl, F⟩
      refine e_80 (f_200 (pc := 70) (e := (70, 80, 0, 0, 0, 0, 0, 73)) rfl) ?_
      refine e_lo [0, 1] rfl ?_
      exact F
    · replace F := F.2 c4
      refine e_12 (f_200 (pc := 23) (e := (23, 12, 0, 0, 0, 0, 0, 24)) rfl) rfl ?_
      refine e_90r zA (f_200 (pc := 24) (e := (24, 90, 11, 47, 3, 87, 1177, 27)) rfl) rfl (hT 102 rfl) rfl rfl (hR 102 47 rfl) ?_
      refine e_12 (f_200 (pc := 27) (e := (27, 12, 0, 0, 0, 0, 0, 28)) rfl) rfl ?_
      refine e_90 zA (f_200 (pc := 28) (e := (28, 90, 11, 50, 0, 417, 1240, 31)) rfl) rfl (hT 102 rfl) rfl rfl ?_
      refine e_0 (f_200 (pc := 31) (e := (31, 0, 1, 0, 0, 0, 0, 32)) rfl) (v := 1) rfl ?_
      refine e_31 (f_200 (pc := 32) (e := (32, 31, 0, 0, 0, 0, 0, 33)) rfl) ?_
      obtain ⟨b9, b10, F⟩ := F
      refine e_110 (f_200 (pc := 33) (e := (33, 110, 0, 0, 0, 0, 0, 34)) rfl) rfl (hT 121 rfl) b9 b10 ?_
      refine e_1 (f_200 (pc := 34) (e := (34, 1, 22, 0, 0, 0, 0, 36)) rfl) (v := 22) rfl ?_
      refine e_71 (f_200 (pc := 36) (e := (36, 71, 73, 0, 0, 0, 0, 39)) rfl) (fun c11 => ?_) (fun c11 => ?_)
      · replace F := F.1 c11
        exact e_122 (f_200 (pc := 73) (e := (73, 122, 0, 0, 0, 0, 0, 0)) rfl) F
      · replace F := F.2 c11
        refine e_10 (f_200 (pc := 39) (e := (39, 10, 1, 0, 0, 0, 0, 40)) rfl) rfl ?_
        refine e_1 (f_200 (pc := 40) (e := (40, 1, 22, 0, 0, 0, 0, 42)) rfl) (v := 22) rfl ?_
        refine e_71 (f_200 (pc := 42) (e := (42, 71, 73, 0, 0, 0, 0, 45)) rfl) (fun c12 => ?_) (fun c12 => ?_)
        · replace F := F.1 c12
          exact e_122 (f_200 (pc := 73) (e := (73, 122, 0, 0, 0, 0, 0, 0)) rfl) F
        · replace F := F.2 c12
          refine e_12 (f_200 (pc := 45) (e := (45, 12, 0, 0, 0, 0, 0, 46)) rfl) rfl ?_
          refine e_50 (f_200 (pc := 46) (e := (46, 50, 0, 0, 0, 0, 0, 47)) rfl) rfl ?_
          refine e_90 zA (f_200 (pc := 47) (e := (47, 90, 11, 50, 0, 417, 1240, 50)) rfl) rfl (hT 102 rfl) rfl rfl ?_
          refine e_0 (f_200 (pc := 50) (e := (50, 0, 1, 0, 0, 0, 0, 51)) rfl) (v := 1) rfl ?_
          refine e_31 (f_200 (pc := 51) (e := (51, 31, 0, 0, 0, 0, 0, 52)) rfl) ?_
          refine e_91 zA (f_200 (pc := 52) (e := (52, 91, 11, 50, 0, 417, 1240, 55)) rfl) rfl (hT 102 rfl) rfl rfl trivial ?_
          replace F := F _ rfl
          refine e_12 (f_200 (pc := 55) (e := (55, 12, 0, 0, 0, 0, 0, 56)) rfl) rfl ?_
          refine e_12 (f_200 (pc := 56) (e := (56, 12, 0, 0, 0, 0, 0, 57)) rfl) rfl ?_
          refine e_90r zA (f_200 (pc := 57) (e := (57, 90, 11, 47, 3, 87, 1177, 60)) rfl) rfl (hT 102 rfl) rfl rfl (hR 102 47 rfl) ?_
          refine e_12 (f_200 (pc := 60) (e := (60, 12, 0, 0, 0, 0, 0, 61)) rfl) rfl ?_
          refine e_90 zA (f_200 (pc := 61) (e := (61, 90, 11, 50, 0, 417, 1240, 64)) rfl) rfl (hT 102 rfl) rfl rfl ?_
          obtain ⟨b14, b15, F⟩ := F
          refine e_110 (f_200 (pc := 64) (e := (64, 110, 0, 0, 0, 0, 0, 65)) rfl) rfl (hT 121 rfl) b14 b15 ?_
          refine e_0 (f_200 (pc := 65) (e := (65, 0, 0, 0, 0, 0, 0, 66)) rfl) (v := 0) rfl ?_
          refine e_0 (f_200 (pc := 66) (e := (66, 0, 0, 0, 0, 0, 0, 67)) rfl) (v := 0) rfl ?_
          refine e_130 (f_200 (pc := 67) (e := (67, 130, 169, 0, 11, 420, 1271, 70)) rfl) zA (as := [yr (some 102), yi _, yi 0, yi 0]) (rest := []) rfl rfl rfl rfl (Nat.le_of_ble_eq_true rfl) (Nat.le_of_ble_eq_true rfl) ⟨_, _, _, rfl, (hT 102 rfl)⟩ (mc := 0) (ms := 0) (Nat.zero_le _) (Nat.zero_le _) ?_
          refine e_K ?_ F
          rintro r h' ⟨I16, rfl, rfl, F⟩
          refine e_80 (f_200 (pc := 70) (e := (70, 80, 0, 0, 0, 0, 0, 73)) rfl) ?_
          refine e_lo [0, 1] rfl ?_
          exact F

/-! judge(I)I -/
set_option maxRecDepth 20000 in
theorem B_201_0 (hT : yLT T) (hR : yLR R) {x1 : Int} (F : ∀ I1, I1 = yU I 102 0 0 → (yW l zSS D cy zFk z d 191 0 0 (fun r h' => ∃ r3 I2, r = some (yi r3) ∧ h' = (N, T, R, I2) ∧ ((r3 ≠ 0 → yW l zSS D cy zFk z d 249 0 0 (fun r h' => ∃ I5, r = none ∧ h' = (N, T, R, I5) ∧ (yW l zSS D cy zFk z (d + 1) 201 bc bs K 0 0 23 [(0, yr (some 102)), (1, yi x1), (2, yi 0)] [] (N, T, R, I5))) 0 0 0 [(0, yr (some 102))] [] (N, T, R, I2)) ∧ (¬ (r3 ≠ 0) → K (some (yi (-2))) (N, T, R, I2)))) 0 0 0 [(0, yi x1), (1, yi 0), (2, yi 1)] [] (N, T, R, I1))) :
    yW l zSS D cy zFk z (d + 1) 201 bc bs K 0 0 0 [(0, yr (some 102)), (1, yi x1)] [] (N, T, R, I) := by
  refine e_12 (f_201 (pc := 0) (e := (0, 12, 0, 0, 0, 0, 0, 1)) rfl) rfl ?_
  refine e_0 (f_201 (pc := 1) (e := (1, 0, 0, 0, 0, 0, 0, 2)) rfl) (v := 0) rfl ?_
  refine e_91 zA (f_201 (pc := 2) (e := (2, 91, 11, 0, 0, 1, 1216, 5)) rfl) rfl (hT 102 rfl) rfl rfl trivial ?_
  replace F := F _ rfl
  refine e_10 (f_201 (pc := 5) (e := (5, 10, 1, 0, 0, 0, 0, 6)) rfl) rfl ?_
  refine e_0 (f_201 (pc := 6) (e := (6, 0, 0, 0, 0, 0, 0, 7)) rfl) (v := 0) rfl ?_
  refine e_0 (f_201 (pc := 7) (e := (7, 0, 1, 0, 0, 0, 0, 8)) rfl) (v := 1) rfl ?_
  refine e_132 (f_201 (pc := 8) (e := (8, 132, 191, 2, 11, 193, 1245, 11)) rfl) zA (as := [yi x1, yi 0, yi 1]) (rest := []) rfl rfl rfl rfl (Nat.le_of_ble_eq_true rfl) (Nat.le_of_ble_eq_true rfl) (mc := 0) (ms := 0) (Nat.zero_le _) (Nat.zero_le _) ?_
  refine e_K ?_ F
  rintro r h' ⟨r3, I2, rfl, rfl, F⟩
  refine e_61 (f_201 (pc := 11) (e := (11, 61, 17, 0, 0, 0, 0, 14)) rfl) (fun c4 => ?_) (fun c4 => ?_)
  · replace F := F.1 c4
    refine e_12 (f_201 (pc := 17) (e := (17, 12, 0, 0, 0, 0, 0, 18)) rfl) rfl ?_
    refine e_130 (f_201 (pc := 18) (e := (18, 130, 249, 0, 11, 374, 1234, 21)) rfl) zA (as := [yr (some 102)]) (rest := []) rfl rfl rfl rfl (Nat.le_of_ble_eq_true rfl) (Nat.le_of_ble_eq_true rfl) ⟨_, _, _, rfl, (hT 102 rfl)⟩ (mc := 0) (ms := 0) (Nat.zero_le _) (Nat.zero_le _) ?_
    refine e_K ?_ F
    rintro r h' ⟨I5, rfl, rfl, F⟩
    refine e_0 (f_201 (pc := 21) (e := (21, 0, 0, 0, 0, 0, 0, 22)) rfl) (v := 0) rfl ?_
    refine e_20 (f_201 (pc := 22) (e := (22, 20, 2, 0, 0, 0, 0, 23)) rfl) ?_
    refine e_lo [0, 1, 2] rfl ?_
    exact F
  · replace F := F.2 c4
    refine e_1 (f_201 (pc := 14) (e := (14, 1, 4294967294, 0, 0, 0, 0, 16)) rfl) (v := (-2)) rfl ?_
    exact e_120 (f_201 (pc := 16) (e := (16, 120, 0, 0, 0, 0, 0, 17)) rfl) F
set_option maxRecDepth 20000 in
theorem B_201_23 (hT : yLT T) (hR : yLR R) {x1 x2 : Int} (F : (3 ≤ x2 → yW l zSS D cy zFk z d 201 bc bs K 0 0 45 [(0, yr (some 102)), (1, yi x1), (2, yi (-1)), (3, yi 0)] [] (N, T, R, I)) ∧ (¬ (3 ≤ x2) → 0 ≤ x2 ∧ x2 < 3 ∧ (∀ I4, I4 = yU I 120 x2.toNat (ynar 1 0) → (yW l zSS D cy zFk z d 201 bc bs K 0 0 23 [(0, yr (some 102)), (1, yi x1), (2, yi (yadd x2 1))] [] (N, T, R, I4))))) :
    yW l zSS D cy zFk z d 201 bc bs K 0 0 23 [(0, yr (some 102)), (1, yi x1), (2, yi x2)] [] (N, T, R, I) := by
  refine e_10 (f_201 (pc := 23) (e := (23, 10, 2, 0, 0, 0, 0, 24)) rfl) rfl ?_
  refine e_0 (f_201 (pc := 24) (e := (24, 0, 3, 0, 0, 0, 0, 25)) rfl) (v := 3) rfl ?_
  refine e_73 (f_201 (pc := 25) (e := (25, 73, 41, 0, 0, 0, 0, 28)) rfl) (fun c1 => ?_) (fun c1 => ?_)
  · replace F := F.1 c1
    refine e_0 (f_201 (pc := 41) (e := (41, 0, 4294967295, 0, 0, 0, 0, 42)) rfl) (v := (-1)) rfl ?_
    refine e_20 (f_201 (pc := 42) (e := (42, 20, 2, 0, 0, 0, 0, 43)) rfl) ?_
    refine e_0 (f_201 (pc := 43) (e := (43, 0, 0, 0, 0, 0, 0, 44)) rfl) (v := 0) rfl ?_
    refine e_20 (f_201 (pc := 44) (e := (44, 20, 3, 0, 0, 0, 0, 45)) rfl) ?_
    refine e_lo [0, 1, 2, 3] rfl ?_
    exact F
  · replace F := F.2 c1
    refine e_12 (f_201 (pc := 28) (e := (28, 12, 0, 0, 0, 0, 0, 29)) rfl) rfl ?_
    refine e_90r zA (f_201 (pc := 29) (e := (29, 90, 11, 45, 3, 84, 1176, 32)) rfl) rfl (hT 102 rfl) rfl rfl (hR 102 45 rfl) ?_
    refine e_10 (f_201 (pc := 32) (e := (32, 10, 2, 0, 0, 0, 0, 33)) rfl) rfl ?_
    refine e_0 (f_201 (pc := 33) (e := (33, 0, 0, 0, 0, 0, 0, 34)) rfl) (v := 0) rfl ?_
    obtain ⟨b2, b3, F⟩ := F
    refine e_111 (f_201 (pc := 34) (e := (34, 111, 0, 0, 0, 0, 0, 35)) rfl) rfl (hT 120 rfl) b2 b3 ?_
    replace F := F _ rfl
    refine e_26 (f_201 (pc := 35) (e := (35, 26, 2, 1, 0, 0, 0, 38)) rfl) (w := 1) rfl rfl ?_
    refine e_80 (f_201 (pc := 38) (e := (38, 80, 23, 0, 0, 0, 0, 41)) rfl) ?_
    refine e_lo [0, 1, 2] rfl ?_
    exact F
set_option maxRecDepth 20000 in
theorem B_201_45 (hT : yLT T) (hR : yLR R) {x1 x2 x3 : Int} (F : ((I 104 926) ≤ x3 → ∀ I2, I2 = yU I 120 2 (ynar 1 0) → (yW l zSS D cy zFk z (d + 1) 201 bc bs K 0 0 134 [(0, yr (some 102)), (1, yi x1), (2, yi x2), (3, yi 0)] [] (N, T, R, I2))) ∧ (¬ ((I 104 926) ≤ x3) → (0 ≤ x2 → ∀ I4, I4 = yU I 120 2 (ynar 1 0) → (yW l zSS D cy zFk z (d + 1) 201 bc bs K 0 0 134 [(0, yr (some 102)), (1, yi x1), (2, yi x2), (3, yi 0)] [] (N, T, R, I4))) ∧ (¬ (0 ≤ x2) → 0 ≤ (yadd 927 (ymul 2 x3)) ∧ (yadd 927 (ymul 2 x3)) < 1188 ∧ (0 ≤ (yadd 928 (ymul 2 x3)) ∧ (yadd 928 (ymul 2 x3)) < 1188 ∧ (yW l zSS D cy zFk z d 173 0 0 (fun r h' => ∃ r10 I9, r = some (yi r10) ∧ h' = (N, T, R, I9) ∧ (∀ I11, I11 = yU I9 120 0 (ynar 1 r10) → (((I11 120 0) ≤ 0 → ∀ I13, I13 = yU I11 120 1 (ynar 1 (yadd (I11 120 1) 1)) → (yW l zSS D cy zFk z (d + 1) 201 bc bs K 0 0 45 [(0, yr (some 102)), (1, yi x1), (2, yi x2), (3, yi (yadd x3 1))] [] (N, T, R, I13))) ∧ (¬ ((I11 120 0) ≤ 0) → yW l zSS D cy zFk z (d + 1) 201 bc bs K 0 0 45 [(0, yr (some 102)), (1, yi x1), (2, yi x3), (3, yi (yadd x3 1))] [] (N, T, R, I11))))) 0 0 0 [(0, yr (some 102)), (1, yi (I 104 (yadd 927 (ymul 2 x3)).toNat)), (2, yi (I 104 (yadd 928 (ymul 2 x3)).toNat))] [] (N, T, R, I)))))) :
    yW l zSS D cy zFk z (d + 1) 201 bc bs K 0 0 45 [(0, yr (some 102)), (1, yi x1), (2, yi x2), (3, yi x3)] [] (N, T, R, I) := by
  refine e_10 (f_201 (pc := 45) (e := (45, 10, 3, 0, 0, 0, 0, 46)) rfl) rfl ?_
  refine e_12 (f_201 (pc := 46) (e := (46, 12, 0, 0, 0, 0, 0, 47)) rfl) rfl ?_
  refine e_90r zA (f_201 (pc := 47) (e := (47, 90, 11, 6, 3, 33, 1159, 50)) rfl) rfl (hT 102 rfl) rfl rfl (hR 102 6 rfl) ?_
  refine e_2 (f_201 (pc := 50) (e := (50, 2, 926, 0, 0, 0, 0, 53)) rfl) (v := 926) rfl ?_
  refine e_110 (f_201 (pc := 53) (e := (53, 110, 0, 0, 0, 0, 0, 54)) rfl) rfl (hT 104 rfl) (by decide) (by decide) ?_
  refine e_73 (f_201 (pc := 54) (e := (54, 73, 125, 0, 0, 0, 0, 57)) rfl) (fun c1 => ?_) (fun c1 => ?_)
  · replace F := F.1 c1
    refine e_12 (f_201 (pc := 125) (e := (125, 12, 0, 0, 0, 0, 0, 126)) rfl) rfl ?_
    refine e_90r zA (f_201 (pc := 126) (e := (126, 90, 11, 45, 3, 84, 1176, 129)) rfl) rfl (hT 102 rfl) rfl rfl (hR 102 45 rfl) ?_
    refine e_0 (f_201 (pc := 129) (e := (129, 0, 2, 0, 0, 0, 0, 130)) rfl) (v := 2) rfl ?_
    refine e_0 (f_201 (pc := 130) (e := (130, 0, 0, 0, 0, 0, 0, 131)) rfl) (v := 0) rfl ?_
    refine e_111 (f_201 (pc := 131) (e := (131, 111, 0, 0, 0, 0, 0, 132)) rfl) rfl (hT 120 rfl) (by decide) (by decide) ?_
    replace F := F _ rfl
    refine e_0 (f_201 (pc := 132) (e := (132, 0, 0, 0, 0, 0, 0, 133)) rfl) (v := 0) rfl ?_
    refine e_20 (f_201 (pc := 133) (e := (133, 20, 3, 0, 0, 0, 0, 134)) rfl) ?_
    refine e_lo [0, 1, 2, 3] rfl ?_
    exact F
  · replace F := F.2 c1
    refine e_10 (f_201 (pc := 57) (e := (57, 10, 2, 0, 0, 0, 0, 58)) rfl) rfl ?_
    refine e_63 (f_201 (pc := 58) (e := (58, 63, 125, 0, 0, 0, 0, 61)) rfl) (fun c3 => ?_) (fun c3 => ?_)
    · replace F := F.1 c3
      refine e_12 (f_201 (pc := 125) (e := (125, 12, 0, 0, 0, 0, 0, 126)) rfl) rfl ?_
      refine e_90r zA (f_201 (pc := 126) (e := (126, 90, 11, 45, 3, 84, 1176, 129)) rfl) rfl (hT 102 rfl) rfl rfl (hR 102 45 rfl) ?_
      refine e_0 (f_201 (pc := 129) (e := (129, 0, 2, 0, 0, 0, 0, 130)) rfl) (v := 2) rfl ?_
      refine e_0 (f_201 (pc := 130) (e := (130, 0, 0, 0, 0, 0, 0, 131)) rfl) (v := 0) rfl ?_
      refine e_111 (f_201 (pc := 131) (e := (131, 111, 0, 0, 0, 0, 0, 132)) rfl) rfl (hT 120 rfl) (by decide) (by decide) ?_
      replace F := F _ rfl
      refine e_0 (f_201 (pc := 132) (e := (132, 0, 0, 0, 0, 0, 0, 133)) rfl) (v := 0) rfl ?_
      refine e_20 (f_201 (pc := 133) (e := (133, 20, 3, 0, 0, 0, 0, 134)) rfl) ?_
      refine e_lo [0, 1, 2, 3] rfl ?_
      exact F
    · replace F := F.2 c3
      refine e_12 (f_201 (pc := 61) (e := (61, 12, 0, 0, 0, 0, 0, 62)) rfl) rfl ?_
      refine e_90r zA (f_201 (pc := 62) (e := (62, 90, 11, 45, 3, 84, 1176, 65)) rfl) rfl (hT 102 rfl) rfl rfl (hR 102 45 rfl) ?_
      refine e_0 (f_201 (pc := 65) (e := (65, 0, 0, 0, 0, 0, 0, 66)) rfl) (v := 0) rfl ?_
      refine e_12 (f_201 (pc := 66) (e := (66, 12, 0, 0, 0, 0, 0, 67)) rfl) rfl ?_
      refine e_12 (f_201 (pc := 67) (e := (67, 12, 0, 0, 0, 0, 0, 68)) rfl) rfl ?_
      refine e_90r zA (f_201 (pc := 68) (e := (68, 90, 11, 6, 3, 33, 1159, 71)) rfl) rfl (hT 102 rfl) rfl rfl (hR 102 6 rfl) ?_
      refine e_2 (f_201 (pc := 71) (e := (71, 2, 927, 0, 0, 0, 0, 74)) rfl) (v := 927) rfl ?_
      refine e_0 (f_201 (pc := 74) (e := (74, 0, 2, 0, 0, 0, 0, 75)) rfl) (v := 2) rfl ?_
      refine e_10 (f_201 (pc := 75) (e := (75, 10, 3, 0, 0, 0, 0, 76)) rfl) rfl ?_
      refine e_32 (f_201 (pc := 76) (e := (76, 32, 0, 0, 0, 0, 0, 77)) rfl) ?_
      refine e_30 (f_201 (pc := 77) (e := (77, 30, 0, 0, 0, 0, 0, 78)) rfl) ?_
      obtain ⟨b5, b6, F⟩ := F
      refine e_110 (f_201 (pc := 78) (e := (78, 110, 0, 0, 0, 0, 0, 79)) rfl) rfl (hT 104 rfl) b5 b6 ?_
      refine e_12 (f_201 (pc := 79) (e := (79, 12, 0, 0, 0, 0, 0, 80)) rfl) rfl ?_
      refine e_90r zA (f_201 (pc := 80) (e := (80, 90, 11, 6, 3, 33, 1159, 83)) rfl) rfl (hT 102 rfl) rfl rfl (hR 102 6 rfl) ?_
      refine e_2 (f_201 (pc := 83) (e := (83, 2, 928, 0, 0, 0, 0, 86)) rfl) (v := 928) rfl ?_
      refine e_0 (f_201 (pc := 86) (e := (86, 0, 2, 0, 0, 0, 0, 87)) rfl) (v := 2) rfl ?_
      refine e_10 (f_201 (pc := 87) (e := (87, 10, 3, 0, 0, 0, 0, 88)) rfl) rfl ?_
      refine e_32 (f_201 (pc := 88) (e := (88, 32, 0, 0, 0, 0, 0, 89)) rfl) ?_
      refine e_30 (f_201 (pc := 89) (e := (89, 30, 0, 0, 0, 0, 0, 90)) rfl) ?_
      obtain ⟨b7, b8, F⟩ := F
      refine e_110 (f_201 (pc := 90) (e := (90, 110, 0, 0, 0, 0, 0, 91)) rfl) rfl (hT 104 rfl) b7 b8 ?_
      refine e_130 (f_201 (pc := 91) (e := (91, 130, 173, 0, 11, 408, 1272, 94)) rfl) zA (as := [yr (some 102), yi _, yi _]) (rest := [yi 0, yr (some 120)]) rfl rfl rfl rfl (Nat.le_of_ble_eq_true rfl) (Nat.le_of_ble_eq_true rfl) ⟨_, _, _, rfl, (hT 102 rfl)⟩ (mc := 0) (ms := 0) (Nat.zero_le _) (Nat.zero_le _) ?_
      refine e_K ?_ F
      rintro r h' ⟨r10, I9, rfl, rfl, F⟩
      refine e_111 (f_201 (pc := 94) (e := (94, 111, 0, 0, 0, 0, 0, 95)) rfl) rfl (hT 120 rfl) (by decide) (by decide) ?_
      replace F := F _ rfl
      refine e_12 (f_201 (pc := 95) (e := (95, 12, 0, 0, 0, 0, 0, 96)) rfl) rfl ?_
      refine e_90r zA (f_201 (pc := 96) (e := (96, 90, 11, 45, 3, 84, 1176, 99)) rfl) rfl (hT 102 rfl) rfl rfl (hR 102 45 rfl) ?_
      refine e_0 (f_201 (pc := 99) (e := (99, 0, 0, 0, 0, 0, 0, 100)) rfl) (v := 0) rfl ?_
      refine e_110 (f_201 (pc := 100) (e := (100, 110, 0, 0, 0, 0, 0, 101)) rfl) rfl (hT 120 rfl) (by decide) (by decide) ?_
      refine e_65 (f_201 (pc := 101) (e := (101, 65, 109, 0, 0, 0, 0, 104)) rfl) (fun c12 => ?_) (fun c12 => ?_)
      · replace F := F.1 c12
        refine e_12 (f_201 (pc := 109) (e := (109, 12, 0, 0, 0, 0, 0, 110)) rfl) rfl ?_
        refine e_90r zA (f_201 (pc := 110) (e := (110, 90, 11, 45, 3, 84, 1176, 113)) rfl) rfl (hT 102 rfl) rfl rfl (hR 102 45 rfl) ?_
        refine e_0 (f_201 (pc := 113) (e := (113, 0, 1, 0, 0, 0, 0, 114)) rfl) (v := 1) rfl ?_
        refine e_51 (f_201 (pc := 114) (e := (114, 51, 0, 0, 0, 0, 0, 115)) rfl) rfl rfl ?_
        refine e_110 (f_201 (pc := 115) (e := (115, 110, 0, 0, 0, 0, 0, 116)) rfl) rfl (hT 120 rfl) (by decide) (by decide) ?_
        refine e_0 (f_201 (pc := 116) (e := (116, 0, 1, 0, 0, 0, 0, 117)) rfl) (v := 1) rfl ?_
        refine e_30 (f_201 (pc := 117) (e := (117, 30, 0, 0, 0, 0, 0, 118)) rfl) ?_
        refine e_111 (f_201 (pc := 118) (e := (118, 111, 0, 0, 0, 0, 0, 119)) rfl) rfl (hT 120 rfl) (by decide) (by decide) ?_
        replace F := F _ rfl
        refine e_26 (f_201 (pc := 119) (e := (119, 26, 3, 1, 0, 0, 0, 122)) rfl) (w := 1) rfl rfl ?_
        refine e_80 (f_201 (pc := 122) (e := (122, 80, 45, 0, 0, 0, 0, 125)) rfl) ?_
        refine e_lo [0, 1, 2, 3] rfl ?_
        exact F
      · replace F := F.2 c12
        refine e_10 (f_201 (pc := 104) (e := (104, 10, 3, 0, 0, 0, 0, 105)) rfl) rfl ?_
        refine e_20 (f_201 (pc := 105) (e := (105, 20, 2, 0, 0, 0, 0, 106)) rfl) ?_
        refine e_80 (f_201 (pc := 106) (e := (106, 80, 119, 0, 0, 0, 0, 109)) rfl) ?_
        refine e_26 (f_201 (pc := 119) (e := (119, 26, 3, 1, 0, 0, 0, 122)) rfl) (w := 1) rfl rfl ?_
        refine e_80 (f_201 (pc := 122) (e := (122, 80, 45, 0, 0, 0, 0, 125)) rfl) ?_
        refine e_lo [0, 1, 2, 3] rfl ?_
        exact F
set_option maxRecDepth 20000 in
theorem B_201_134 (hT : yLT T) (hR : yLR R) {x1 x2 x3 : Int} (F : ((I 104 2) ≤ x3 → ∀ I2, I2 = yU I 102 46 1 → ((x1 ≠ 1 → (x1 ≠ 0 → K (some (yi x2)) (N, T, R, I2)) ∧ (¬ (x1 ≠ 0) → yW l zSS D cy zFk z d 158 0 0 (fun r h' => ∃ I5, r = none ∧ h' = (N, T, R, I5) ∧ (K (some (yi x2)) (N, T, R, I5))) 0 0 0 [(0, yr (some 102))] [] (N, T, R, I2))) ∧ (¬ (x1 ≠ 1) → ((I2 120 1) ≤ 0 → (x1 ≠ 0 → K (some (yi x2)) (N, T, R, I2)) ∧ (¬ (x1 ≠ 0) → yW l zSS D cy zFk z d 158 0 0 (fun r h' => ∃ I8, r = none ∧ h' = (N, T, R, I8) ∧ (K (some (yi x2)) (N, T, R, I8))) 0 0 0 [(0, yr (some 102))] [] (N, T, R, I2))) ∧ (¬ ((I2 120 1) ≤ 0) → yW l zSS D cy zFk z d 203 0 0 (fun r h' => ∃ I9, r = none ∧ h' = (N, T, R, I9) ∧ (yW l zSS D cy zFk z (d + 1) 201 bc bs K 0 0 202 [(0, yr (some 102)), (1, yi x1), (2, yi x2), (3, yi 0)] [] (N, T, R, I9))) 0 0 0 [(0, yr (some 102))] [] (N, T, R, I2))))) ∧ (¬ ((I 104 2) ≤ x3) → 0 ≤ (yadd 510 x3) ∧ (yadd 510 x3) < 1188 ∧ (((I 104 (yadd 510 x3).toNat) < 0 → ∀ I13, I13 = yU I 120 2 (ynar 1 (yadd (I 120 2) 0)) → (yW l zSS D cy zFk z (d + 1) 201 bc bs K 0 0 134 [(0, yr (some 102)), (1, yi x1), (2, yi x2), (3, yi (yadd x3 1))] [] (N, T, R, I13))) ∧ (¬ ((I 104 (yadd 510 x3).toNat) < 0) → ∀ I14, I14 = yU I 120 2 (ynar 1 (yadd (I 120 2) 1)) → (yW l zSS D cy zFk z (d + 1) 201 bc bs K 0 0 134 [(0, yr (some 102)), (1, yi x1), (2, yi x2), (3, yi (yadd x3 1))] [] (N, T, R, I14)))))) :
    yW l zSS D cy zFk z (d + 1) 201 bc bs K 0 0 134 [(0, yr (some 102)), (1, yi x1), (2, yi x2), (3, yi x3)] [] (N, T, R, I) := by
  refine e_10 (f_201 (pc := 134) (e := (134, 10, 3, 0, 0, 0, 0, 135)) rfl) rfl ?_
  refine e_12 (f_201 (pc := 135) (e := (135, 12, 0, 0, 0, 0, 0, 136)) rfl) rfl ?_
  refine e_90r zA (f_201 (pc := 136) (e := (136, 90, 11, 6, 3, 33, 1159, 139)) rfl) rfl (hT 102 rfl) rfl rfl (hR 102 6 rfl) ?_
  refine e_0 (f_201 (pc := 139) (e := (139, 0, 2, 0, 0, 0, 0, 140)) rfl) (v := 2) rfl ?_
  refine e_110 (f_201 (pc := 140) (e := (140, 110, 0, 0, 0, 0, 0, 141)) rfl) rfl (hT 104 rfl) (by decide) (by decide) ?_
  refine e_73 (f_201 (pc := 141) (e := (141, 73, 177, 0, 0, 0, 0, 144)) rfl) (fun c1 => ?_) (fun c1 => ?_)
  · replace F := F.1 c1
    refine e_12 (f_201 (pc := 177) (e := (177, 12, 0, 0, 0, 0, 0, 178)) rfl) rfl ?_
    refine e_0 (f_201 (pc := 178) (e := (178, 0, 1, 0, 0, 0, 0, 179)) rfl) (v := 1) rfl ?_
    refine e_91 zA (f_201 (pc := 179) (e := (179, 91, 11, 46, 2, 411, 1273, 182)) rfl) rfl (hT 102 rfl) rfl rfl (.inr rfl) ?_
    replace F := F _ rfl
    refine e_10 (f_201 (pc := 182) (e := (182, 10, 1, 0, 0, 0, 0, 183)) rfl) rfl ?_
    refine e_0 (f_201 (pc := 183) (e := (183, 0, 1, 0, 0, 0, 0, 184)) rfl) (v := 1) rfl ?_
    refine e_71 (f_201 (pc := 184) (e := (184, 71, 238, 0, 0, 0, 0, 187)) rfl) (fun c3 => ?_) (fun c3 => ?_)
    · replace F := F.1 c3
      refine e_10 (f_201 (pc := 238) (e := (238, 10, 1, 0, 0, 0, 0, 239)) rfl) rfl ?_
      refine e_61 (f_201 (pc := 239) (e := (239, 61, 246, 0, 0, 0, 0, 242)) rfl) (fun c4 => ?_) (fun c4 => ?_)
      · replace F := F.1 c4
        refine e_10 (f_201 (pc := 246) (e := (246, 10, 2, 0, 0, 0, 0, 247)) rfl) rfl ?_
        exact e_120 (f_201 (pc := 247) (e := (247, 120, 0, 0, 0, 0, 0, 0)) rfl) F
      · replace F := F.2 c4
        refine e_12 (f_201 (pc := 242) (e := (242, 12, 0, 0, 0, 0, 0, 243)) rfl) rfl ?_
        refine e_130 (f_201 (pc := 243) (e := (243, 130, 158, 0, 11, 383, 1236, 246)) rfl) zA (as := [yr (some 102)]) (rest := []) rfl rfl rfl rfl (Nat.le_of_ble_eq_true rfl) (Nat.le_of_ble_eq_true rfl) ⟨_, _, _, rfl, (hT 102 rfl)⟩ (mc := 0) (ms := 0) (Nat.zero_le _) (Nat.zero_le _) ?_
        refine e_K ?_ F
        rintro r h' ⟨I5, rfl, rfl, F⟩
        refine e_10 (f_201 (pc := 246) (e := (246, 10, 2, 0, 0, 0, 0, 247)) rfl) rfl ?_
        exact e_120 (f_201 (pc := 247) (e := (247, 120, 0, 0, 0, 0, 0, 0)) rfl) F
    · replace F := F.2 c3
      refine e_12 (f_201 (pc := 187) (e := (187, 12, 0, 0, 0, 0, 0, 188)) rfl) rfl ?_
      refine e_90r zA (f_201 (pc := 188) (e := (188, 90, 11, 45, 3, 84, 1176, 191)) rfl) rfl (hT 102 rfl) rfl rfl (hR 102 45 rfl) ?_
      refine e_0 (f_201 (pc := 191) (e := (191, 0, 1, 0, 0, 0, 0, 192)) rfl) (v := 1) rfl ?_
      refine e_110 (f_201 (pc := 192) (e := (192, 110, 0, 0, 0, 0, 0, 193)) rfl) rfl (hT 120 rfl) (by decide) (by decide) ?_
      refine e_65 (f_201 (pc := 193) (e := (193, 65, 238, 0, 0, 0, 0, 196)) rfl) (fun c6 => ?_) (fun c6 => ?_)
      · replace F := F.1 c6
        refine e_10 (f_201 (pc := 238) (e := (238, 10, 1, 0, 0, 0, 0, 239)) rfl) rfl ?_
        refine e_61 (f_201 (pc := 239) (e := (239, 61, 246, 0, 0, 0, 0, 242)) rfl) (fun c7 => ?_) (fun c7 => ?_)
        · replace F := F.1 c7
          refine e_10 (f_201 (pc := 246) (e := (246, 10, 2, 0, 0, 0, 0, 247)) rfl) rfl ?_
          exact e_120 (f_201 (pc := 247) (e := (247, 120, 0, 0, 0, 0, 0, 0)) rfl) F
        · replace F := F.2 c7
          refine e_12 (f_201 (pc := 242) (e := (242, 12, 0, 0, 0, 0, 0, 243)) rfl) rfl ?_
          refine e_130 (f_201 (pc := 243) (e := (243, 130, 158, 0, 11, 383, 1236, 246)) rfl) zA (as := [yr (some 102)]) (rest := []) rfl rfl rfl rfl (Nat.le_of_ble_eq_true rfl) (Nat.le_of_ble_eq_true rfl) ⟨_, _, _, rfl, (hT 102 rfl)⟩ (mc := 0) (ms := 0) (Nat.zero_le _) (Nat.zero_le _) ?_
          refine e_K ?_ F
          rintro r h' ⟨I8, rfl, rfl, F⟩
          refine e_10 (f_201 (pc := 246) (e := (246, 10, 2, 0, 0, 0, 0, 247)) rfl) rfl ?_
          exact e_120 (f_201 (pc := 247) (e := (247, 120, 0, 0, 0, 0, 0, 0)) rfl) F
      · replace F := F.2 c6
        refine e_12 (f_201 (pc := 196) (e := (196, 12, 0, 0, 0, 0, 0, 197)) rfl) rfl ?_
        refine e_130 (f_201 (pc := 197) (e := (197, 130, 203, 0, 11, 342, 1255, 200)) rfl) zA (as := [yr (some 102)]) (rest := []) rfl rfl rfl rfl (Nat.le_of_ble_eq_true rfl) (Nat.le_of_ble_eq_true rfl) ⟨_, _, _, rfl, (hT 102 rfl)⟩ (mc := 0) (ms := 0) (Nat.zero_le _) (Nat.zero_le _) ?_
        refine e_K ?_ F
        rintro r h' ⟨I9, rfl, rfl, F⟩
        refine e_0 (f_201 (pc := 200) (e := (200, 0, 0, 0, 0, 0, 0, 201)) rfl) (v := 0) rfl ?_
        refine e_20 (f_201 (pc := 201) (e := (201, 20, 3, 0, 0, 0, 0, 202)) rfl) ?_
        refine e_lo [0, 1, 2, 3] rfl ?_
        exact F
  · replace F := F.2 c1
    refine e_12 (f_201 (pc := 144) (e := (144, 12, 0, 0, 0, 0, 0, 145)) rfl) rfl ?_
    refine e_90r zA (f_201 (pc := 145) (e := (145, 90, 11, 45, 3, 84, 1176, 148)) rfl) rfl (hT 102 rfl) rfl rfl (hR 102 45 rfl) ?_
    refine e_0 (f_201 (pc := 148) (e := (148, 0, 2, 0, 0, 0, 0, 149)) rfl) (v := 2) rfl ?_
    refine e_51 (f_201 (pc := 149) (e := (149, 51, 0, 0, 0, 0, 0, 150)) rfl) rfl rfl ?_
    refine e_110 (f_201 (pc := 150) (e := (150, 110, 0, 0, 0, 0, 0, 151)) rfl) rfl (hT 120 rfl) (by decide) (by decide) ?_
    refine e_12 (f_201 (pc := 151) (e := (151, 12, 0, 0, 0, 0, 0, 152)) rfl) rfl ?_
    refine e_90r zA (f_201 (pc := 152) (e := (152, 90, 11, 6, 3, 33, 1159, 155)) rfl) rfl (hT 102 rfl) rfl rfl (hR 102 6 rfl) ?_
    refine e_2 (f_201 (pc := 155) (e := (155, 2, 510, 0, 0, 0, 0, 158)) rfl) (v := 510) rfl ?_
    refine e_10 (f_201 (pc := 158) (e := (158, 10, 3, 0, 0, 0, 0, 159)) rfl) rfl ?_
    refine e_30 (f_201 (pc := 159) (e := (159, 30, 0, 0, 0, 0, 0, 160)) rfl) ?_
    obtain ⟨b10, b11, F⟩ := F
    refine e_110 (f_201 (pc := 160) (e := (160, 110, 0, 0, 0, 0, 0, 161)) rfl) rfl (hT 104 rfl) b10 b11 ?_
    refine e_62 (f_201 (pc := 161) (e := (161, 62, 168, 0, 0, 0, 0, 164)) rfl) (fun c12 => ?_) (fun c12 => ?_)
    · replace F := F.1 c12
      refine e_0 (f_201 (pc := 168) (e := (168, 0, 0, 0, 0, 0, 0, 169)) rfl) (v := 0) rfl ?_
      refine e_30 (f_201 (pc := 169) (e := (169, 30, 0, 0, 0, 0, 0, 170)) rfl) ?_
      refine e_111 (f_201 (pc := 170) (e := (170, 111, 0, 0, 0, 0, 0, 171)) rfl) rfl (hT 120 rfl) (by decide) (by decide) ?_
      replace F := F _ rfl
      refine e_26 (f_201 (pc := 171) (e := (171, 26, 3, 1, 0, 0, 0, 174)) rfl) (w := 1) rfl rfl ?_
      refine e_80 (f_201 (pc := 174) (e := (174, 80, 134, 0, 0, 0, 0, 177)) rfl) ?_
      refine e_lo [0, 1, 2, 3] rfl ?_
      exact F
    · replace F := F.2 c12
      refine e_0 (f_201 (pc := 164) (e := (164, 0, 1, 0, 0, 0, 0, 165)) rfl) (v := 1) rfl ?_
      refine e_80 (f_201 (pc := 165) (e := (165, 80, 169, 0, 0, 0, 0, 168)) rfl) ?_
      refine e_30 (f_201 (pc := 169) (e := (169, 30, 0, 0, 0, 0, 0, 170)) rfl) ?_
      refine e_111 (f_201 (pc := 170) (e := (170, 111, 0, 0, 0, 0, 0, 171)) rfl) rfl (hT 120 rfl) (by decide) (by decide) ?_
      replace F := F _ rfl
      refine e_26 (f_201 (pc := 171) (e := (171, 26, 3, 1, 0, 0, 0, 174)) rfl) (w := 1) rfl rfl ?_
      refine e_80 (f_201 (pc := 174) (e := (174, 80, 134, 0, 0, 0, 0, 177)) rfl) ?_
      refine e_lo [0, 1, 2, 3] rfl ?_
      exact F
set_option maxRecDepth 20000 in
theorem B_201_202 (hT : yLT T) (hR : yLR R) {x1 x2 x3 : Int} (F : (468 ≤ x3 → (x1 ≠ 0 → K (some (yi x2)) (N, T, R, I)) ∧ (¬ (x1 ≠ 0) → yW l zSS D cy zFk z d 158 0 0 (fun r h' => ∃ I3, r = none ∧ h' = (N, T, R, I3) ∧ (K (some (yi x2)) (N, T, R, I3))) 0 0 0 [(0, yr (some 102))] [] (N, T, R, I))) ∧ (¬ (468 ≤ x3) → 0 ≤ x3 ∧ x3 < 468 ∧ (0 ≤ (yadd (ymul 468 (ysub (I 102 35) 1)) x3) ∧ (yadd (ymul 468 (ysub (I 102 35) 1)) x3) < 3744 ∧ (∀ I8, I8 = yU I 113 ((yadd (ymul 468 (ysub (I 102 35) 1)) x3).toNat) (ynar 1 (I 114 x3.toNat)) → (yW l zSS D cy zFk z (d + 1) 201 bc bs K 0 0 202 [(0, yr (some 102)), (1, yi x1), (2, yi x2), (3, yi (yadd x3 1))] [] (N, T, R, I8)))))) :
    yW l zSS D cy zFk z (d + 1) 201 bc bs K 0 0 202 [(0, yr (some 102)), (1, yi x1), (2, yi x2), (3, yi x3)] [] (N, T, R, I) := by
  refine e_10 (f_201 (pc := 202) (e := (202, 10, 3, 0, 0, 0, 0, 203)) rfl) rfl ?_
  refine e_2 (f_201 (pc := 203) (e := (203, 2, 468, 0, 0, 0, 0, 206)) rfl) (v := 468) rfl ?_
  refine e_73 (f_201 (pc := 206) (e := (206, 73, 238, 0, 0, 0, 0, 209)) rfl) (fun c1 => ?_) (fun c1 => ?_)
  · replace F := F.1 c1
    refine e_10 (f_201 (pc := 238) (e := (238, 10, 1, 0, 0, 0, 0, 239)) rfl) rfl ?_
    refine e_61 (f_201 (pc := 239) (e := (239, 61, 246, 0, 0, 0, 0, 242)) rfl) (fun c2 => ?_) (fun c2 => ?_)
    · replace F := F.1 c2
      refine e_10 (f_201 (pc := 246) (e := (246, 10, 2, 0, 0, 0, 0, 247)) rfl) rfl ?_
      exact e_120 (f_201 (pc := 247) (e := (247, 120, 0, 0, 0, 0, 0, 0)) rfl) F
    · replace F := F.2 c2
      refine e_12 (f_201 (pc := 242) (e := (242, 12, 0, 0, 0, 0, 0, 243)) rfl) rfl ?_
      refine e_130 (f_201 (pc := 243) (e := (243, 130, 158, 0, 11, 383, 1236, 246)) rfl) zA (as := [yr (some 102)]) (rest := []) rfl rfl rfl rfl (Nat.le_of_ble_eq_true rfl) (Nat.le_of_ble_eq_true rfl) ⟨_, _, _, rfl, (hT 102 rfl)⟩ (mc := 0) (ms := 0) (Nat.zero_le _) (Nat.zero_le _) ?_
      refine e_K ?_ F
      rintro r h' ⟨I3, rfl, rfl, F⟩
      refine e_10 (f_201 (pc := 246) (e := (246, 10, 2, 0, 0, 0, 0, 247)) rfl) rfl ?_
      exact e_120 (f_201 (pc := 247) (e := (247, 120, 0, 0, 0, 0, 0, 0)) rfl) F
  · replace F := F.2 c1
    refine e_12 (f_201 (pc := 209) (e := (209, 12, 0, 0, 0, 0, 0, 210)) rfl) rfl ?_
    refine e_90r zA (f_201 (pc := 210) (e := (210, 90, 11, 33, 3, 62, 1168, 213)) rfl) rfl (hT 102 rfl) rfl rfl (hR 102 33 rfl) ?_
    refine e_2 (f_201 (pc := 213) (e := (213, 2, 468, 0, 0, 0, 0, 216)) rfl) (v := 468) rfl ?_
    refine e_12 (f_201 (pc := 216) (e := (216, 12, 0, 0, 0, 0, 0, 217)) rfl) rfl ?_
    refine e_90 zA (f_201 (pc := 217) (e := (217, 90, 11, 35, 0, 259, 1230, 220)) rfl) rfl (hT 102 rfl) rfl rfl ?_
    refine e_0 (f_201 (pc := 220) (e := (220, 0, 1, 0, 0, 0, 0, 221)) rfl) (v := 1) rfl ?_
    refine e_31 (f_201 (pc := 221) (e := (221, 31, 0, 0, 0, 0, 0, 222)) rfl) ?_
    refine e_32 (f_201 (pc := 222) (e := (222, 32, 0, 0, 0, 0, 0, 223)) rfl) ?_
    refine e_10 (f_201 (pc := 223) (e := (223, 10, 3, 0, 0, 0, 0, 224)) rfl) rfl ?_
    refine e_30 (f_201 (pc := 224) (e := (224, 30, 0, 0, 0, 0, 0, 225)) rfl) ?_
    refine e_12 (f_201 (pc := 225) (e := (225, 12, 0, 0, 0, 0, 0, 226)) rfl) rfl ?_
    refine e_90r zA (f_201 (pc := 226) (e := (226, 90, 11, 34, 3, 65, 1169, 229)) rfl) rfl (hT 102 rfl) rfl rfl (hR 102 34 rfl) ?_
    refine e_10 (f_201 (pc := 229) (e := (229, 10, 3, 0, 0, 0, 0, 230)) rfl) rfl ?_
    obtain ⟨b4, b5, F⟩ := F
    refine e_110 (f_201 (pc := 230) (e := (230, 110, 0, 0, 0, 0, 0, 231)) rfl) rfl (hT 114 rfl) b4 b5 ?_
    obtain ⟨b6, b7, F⟩ := F
    refine e_111 (f_201 (pc := 231) (e := (231, 111, 0, 0, 0, 0, 0, 232)) rfl) rfl (hT 113 rfl) b6 b7 ?_
    replace F := F _ rfl
    refine e_26 (f_201 (pc := 232) (e := (232, 26, 3, 1, 0, 0, 0, 235)) rfl) (w := 1) rfl rfl ?_
    refine e_80 (f_201 (pc := 235) (e := (235, 80, 202, 0, 0, 0, 0, 238)) rfl) ?_
    refine e_lo [0, 1, 2, 3] rfl ?_
    exact F

/-! judged(I)I -/
set_option maxRecDepth 20000 in
theorem B_202_0 (hT : yLT T) (hR : yLR R) {x1 : Int} (F : ∀ I1, I1 = yU I 102 0 0 → (((I1 102 46) = 0 → K (some (yi (-1))) (N, T, R, I1)) ∧ (¬ ((I1 102 46) = 0) → yW l zSS D cy zFk z d 191 0 0 (fun r h' => ∃ r4 I3, r = some (yi r4) ∧ h' = (N, T, R, I3) ∧ ((r4 = 0 → K (some (yi (-1))) (N, T, R, I3)) ∧ (¬ (r4 = 0) → 0 ≤ x1 ∧ x1 < 3 ∧ (K (some (yi (I3 120 x1.toNat))) (N, T, R, I3))))) 0 0 0 [(0, yi x1), (1, yi 0), (2, yi 2)] [] (N, T, R, I1)))) :
    yW l zSS D cy zFk z (d + 1) 202 bc bs K 0 0 0 [(0, yr (some 102)), (1, yi x1)] [] (N, T, R, I) := by
  refine e_12 (f_202 (pc := 0) (e := (0, 12, 0, 0, 0, 0, 0, 1)) rfl) rfl ?_
  refine e_0 (f_202 (pc := 1) (e := (1, 0, 0, 0, 0, 0, 0, 2)) rfl) (v := 0) rfl ?_
  refine e_91 zA (f_202 (pc := 2) (e := (2, 91, 11, 0, 0, 1, 1216, 5)) rfl) rfl (hT 102 rfl) rfl rfl trivial ?_
  replace F := F _ rfl
  refine e_12 (f_202 (pc := 5) (e := (5, 12, 0, 0, 0, 0, 0, 6)) rfl) rfl ?_
  refine e_90 zA (f_202 (pc := 6) (e := (6, 90, 11, 46, 2, 411, 1273, 9)) rfl) rfl (hT 102 rfl) rfl rfl ?_
  refine e_60 (f_202 (pc := 9) (e := (9, 60, 30, 0, 0, 0, 0, 12)) rfl) (fun c2 => ?_) (fun c2 => ?_)
  · replace F := F.1 c2
    refine e_0 (f_202 (pc := 30) (e := (30, 0, 4294967295, 0, 0, 0, 0, 31)) rfl) (v := (-1)) rfl ?_
    exact e_120 (f_202 (pc := 31) (e := (31, 120, 0, 0, 0, 0, 0, 0)) rfl) F
  · replace F := F.2 c2
    refine e_10 (f_202 (pc := 12) (e := (12, 10, 1, 0, 0, 0, 0, 13)) rfl) rfl ?_
    refine e_0 (f_202 (pc := 13) (e := (13, 0, 0, 0, 0, 0, 0, 14)) rfl) (v := 0) rfl ?_
    refine e_0 (f_202 (pc := 14) (e := (14, 0, 2, 0, 0, 0, 0, 15)) rfl) (v := 2) rfl ?_
    refine e_132 (f_202 (pc := 15) (e := (15, 132, 191, 2, 11, 193, 1245, 18)) rfl) zA (as := [yi x1, yi 0, yi 2]) (rest := []) rfl rfl rfl rfl (Nat.le_of_ble_eq_true rfl) (Nat.le_of_ble_eq_true rfl) (mc := 0) (ms := 0) (Nat.zero_le _) (Nat.zero_le _) ?_
    refine e_K ?_ F
    rintro r h' ⟨r4, I3, rfl, rfl, F⟩
    refine e_60 (f_202 (pc := 18) (e := (18, 60, 30, 0, 0, 0, 0, 21)) rfl) (fun c5 => ?_) (fun c5 => ?_)
    · replace F := F.1 c5
      refine e_0 (f_202 (pc := 30) (e := (30, 0, 4294967295, 0, 0, 0, 0, 31)) rfl) (v := (-1)) rfl ?_
      exact e_120 (f_202 (pc := 31) (e := (31, 120, 0, 0, 0, 0, 0, 0)) rfl) F
    · replace F := F.2 c5
      refine e_12 (f_202 (pc := 21) (e := (21, 12, 0, 0, 0, 0, 0, 22)) rfl) rfl ?_
      refine e_90r zA (f_202 (pc := 22) (e := (22, 90, 11, 45, 3, 84, 1176, 25)) rfl) rfl (hT 102 rfl) rfl rfl (hR 102 45 rfl) ?_
      refine e_10 (f_202 (pc := 25) (e := (25, 10, 1, 0, 0, 0, 0, 26)) rfl) rfl ?_
      obtain ⟨b6, b7, F⟩ := F
      refine e_110 (f_202 (pc := 26) (e := (26, 110, 0, 0, 0, 0, 0, 27)) rfl) rfl (hT 120 rfl) b6 b7 ?_
      refine e_80 (f_202 (pc := 27) (e := (27, 80, 31, 0, 0, 0, 0, 30)) rfl) ?_
      exact e_120 (f_202 (pc := 31) (e := (31, 120, 0, 0, 0, 0, 0, 0)) rfl) F

/-! keep()V -/
set_option maxRecDepth 20000 in
theorem B_203_0 (hT : yLT T) (hR : yLR R) (F : ((I 102 35) ≠ 8 → yW l zSS D cy zFk z d 203 bc bs K 0 0 48 [(0, yr (some 102)), (1, yi 0)] [] (N, T, R, I)) ∧ (¬ ((I 102 35) ≠ 8) → yW l zSS D cy zFk z d 203 bc bs K 0 0 11 [(0, yr (some 102)), (1, yi 0)] [] (N, T, R, I))) :
    yW l zSS D cy zFk z d 203 bc bs K 0 0 0 [(0, yr (some 102))] [] (N, T, R, I) := by
  refine e_12 (f_203 (pc := 0) (e := (0, 12, 0, 0, 0, 0, 0, 1)) rfl) rfl ?_
  refine e_90 zA (f_203 (pc := 1) (e := (1, 90, 11, 35, 0, 259, 1230, 4)) rfl) rfl (hT 102 rfl) rfl rfl ?_
  refine e_1 (f_203 (pc := 4) (e := (4, 1, 8, 0, 0, 0, 0, 6)) rfl) (v := 8) rfl ?_
  refine e_71 (f_203 (pc := 6) (e := (6, 71, 46, 0, 0, 0, 0, 9)) rfl) (fun c1 => ?_) (fun c1 => ?_)
  · replace F := F.1 c1
    refine e_0 (f_203 (pc := 46) (e := (46, 0, 0, 0, 0, 0, 0, 47)) rfl) (v := 0) rfl ?_
    refine e_20 (f_203 (pc := 47) (e := (47, 20, 1, 0, 0, 0, 0, 48)) rfl) ?_
    refine e_lo [0, 1] rfl ?_
    exact F
  · replace F := F.2 c1
    refine e_0 (f_203 (pc := 9) (e := (9, 0, 0, 0, 0, 0, 0, 10)) rfl) (v := 0) rfl ?_
    refine e_20 (f_203 (pc := 10) (e := (10, 20, 1, 0, 0, 0, 0, 11)) rfl) ?_
    refine e_lo [0, 1] rfl ?_
    exact F
set_option maxRecDepth 20000 in
theorem B_203_11 (hT : yLT T) (hR : yLR R) {x1 : Int} (F : (3276 ≤ x1 → ∀ I2, I2 = yU I 102 35 7 → (yW l zSS D cy zFk z d 203 bc bs K 0 0 48 [(0, yr (some 102)), (1, yi 0)] [] (N, T, R, I2))) ∧ (¬ (3276 ≤ x1) → 0 ≤ (yadd x1 468) ∧ (yadd x1 468) < 3744 ∧ (0 ≤ x1 ∧ x1 < 3744 ∧ (∀ I7, I7 = yU I 113 x1.toNat (ynar 1 (I 113 (yadd x1 468).toNat)) → (yW l zSS D cy zFk z d 203 bc bs K 0 0 11 [(0, yr (some 102)), (1, yi (yadd x1 1))] [] (N, T, R, I7)))))) :
    yW l zSS D cy zFk z d 203 bc bs K 0 0 11 [(0, yr (some 102)), (1, yi x1)] [] (N, T, R, I) := by
  refine e_10 (f_203 (pc := 11) (e := (11, 10, 1, 0, 0, 0, 0, 12)) rfl) rfl ?_
  refine e_2 (f_203 (pc := 12) (e := (12, 2, 3276, 0, 0, 0, 0, 15)) rfl) (v := 3276) rfl ?_
  refine e_73 (f_203 (pc := 15) (e := (15, 73, 40, 0, 0, 0, 0, 18)) rfl) (fun c1 => ?_) (fun c1 => ?_)
  · replace F := F.1 c1
    refine e_12 (f_203 (pc := 40) (e := (40, 12, 0, 0, 0, 0, 0, 41)) rfl) rfl ?_
    refine e_1 (f_203 (pc := 41) (e := (41, 1, 7, 0, 0, 0, 0, 43)) rfl) (v := 7) rfl ?_
    refine e_91 zA (f_203 (pc := 43) (e := (43, 91, 11, 35, 0, 259, 1230, 46)) rfl) rfl (hT 102 rfl) rfl rfl trivial ?_
    replace F := F _ rfl
    refine e_0 (f_203 (pc := 46) (e := (46, 0, 0, 0, 0, 0, 0, 47)) rfl) (v := 0) rfl ?_
    refine e_20 (f_203 (pc := 47) (e := (47, 20, 1, 0, 0, 0, 0, 48)) rfl) ?_
    refine e_lo [0, 1] rfl ?_
    exact F
  · replace F := F.2 c1
    refine e_12 (f_203 (pc := 18) (e := (18, 12, 0, 0, 0, 0, 0, 19)) rfl) rfl ?_
    refine e_90r zA (f_203 (pc := 19) (e := (19, 90, 11, 33, 3, 62, 1168, 22)) rfl) rfl (hT 102 rfl) rfl rfl (hR 102 33 rfl) ?_
    refine e_10 (f_203 (pc := 22) (e := (22, 10, 1, 0, 0, 0, 0, 23)) rfl) rfl ?_
    refine e_12 (f_203 (pc := 23) (e := (23, 12, 0, 0, 0, 0, 0, 24)) rfl) rfl ?_
    refine e_90r zA (f_203 (pc := 24) (e := (24, 90, 11, 33, 3, 62, 1168, 27)) rfl) rfl (hT 102 rfl) rfl rfl (hR 102 33 rfl) ?_
    refine e_10 (f_203 (pc := 27) (e := (27, 10, 1, 0, 0, 0, 0, 28)) rfl) rfl ?_
    refine e_2 (f_203 (pc := 28) (e := (28, 2, 468, 0, 0, 0, 0, 31)) rfl) (v := 468) rfl ?_
    refine e_30 (f_203 (pc := 31) (e := (31, 30, 0, 0, 0, 0, 0, 32)) rfl) ?_
    obtain ⟨b3, b4, F⟩ := F
    refine e_110 (f_203 (pc := 32) (e := (32, 110, 0, 0, 0, 0, 0, 33)) rfl) rfl (hT 113 rfl) b3 b4 ?_
    obtain ⟨b5, b6, F⟩ := F
    refine e_111 (f_203 (pc := 33) (e := (33, 111, 0, 0, 0, 0, 0, 34)) rfl) rfl (hT 113 rfl) b5 b6 ?_
    replace F := F _ rfl
    refine e_26 (f_203 (pc := 34) (e := (34, 26, 1, 1, 0, 0, 0, 37)) rfl) (w := 1) rfl rfl ?_
    refine e_80 (f_203 (pc := 37) (e := (37, 80, 11, 0, 0, 0, 0, 40)) rfl) ?_
    refine e_lo [0, 1] rfl ?_
    exact F
set_option maxRecDepth 20000 in
theorem B_203_48 (hT : yLT T) (hR : yLR R) {x1 : Int} (F : (468 ≤ x1 → ∀ I2, I2 = yU I 102 35 (yadd (I 102 35) 1) → (K none (N, T, R, I2))) ∧ (¬ (468 ≤ x1) → 0 ≤ (yadd 458 x1) ∧ (yadd 458 x1) < 1188 ∧ (0 ≤ (yadd (ymul 468 (I 102 35)) x1) ∧ (yadd (ymul 468 (I 102 35)) x1) < 3744 ∧ (∀ I7, I7 = yU I 113 ((yadd (ymul 468 (I 102 35)) x1).toNat) (ynar 1 (I 104 (yadd 458 x1).toNat)) → (yW l zSS D cy zFk z d 203 bc bs K 0 0 48 [(0, yr (some 102)), (1, yi (yadd x1 1))] [] (N, T, R, I7)))))) :
    yW l zSS D cy zFk z d 203 bc bs K 0 0 48 [(0, yr (some 102)), (1, yi x1)] [] (N, T, R, I) := by
  refine e_10 (f_203 (pc := 48) (e := (48, 10, 1, 0, 0, 0, 0, 49)) rfl) rfl ?_
  refine e_2 (f_203 (pc := 49) (e := (49, 2, 468, 0, 0, 0, 0, 52)) rfl) (v := 468) rfl ?_
  refine e_73 (f_203 (pc := 52) (e := (52, 73, 86, 0, 0, 0, 0, 55)) rfl) (fun c1 => ?_) (fun c1 => ?_)
  · replace F := F.1 c1
    refine e_12 (f_203 (pc := 86) (e := (86, 12, 0, 0, 0, 0, 0, 87)) rfl) rfl ?_
    refine e_50 (f_203 (pc := 87) (e := (87, 50, 0, 0, 0, 0, 0, 88)) rfl) rfl ?_
    refine e_90 zA (f_203 (pc := 88) (e := (88, 90, 11, 35, 0, 259, 1230, 91)) rfl) rfl (hT 102 rfl) rfl rfl ?_
    refine e_0 (f_203 (pc := 91) (e := (91, 0, 1, 0, 0, 0, 0, 92)) rfl) (v := 1) rfl ?_
    refine e_30 (f_203 (pc := 92) (e := (92, 30, 0, 0, 0, 0, 0, 93)) rfl) ?_
    refine e_91 zA (f_203 (pc := 93) (e := (93, 91, 11, 35, 0, 259, 1230, 96)) rfl) rfl (hT 102 rfl) rfl rfl trivial ?_
    replace F := F _ rfl
    exact e_122 (f_203 (pc := 96) (e := (96, 122, 0, 0, 0, 0, 0, 0)) rfl) F
  · replace F := F.2 c1
    refine e_12 (f_203 (pc := 55) (e := (55, 12, 0, 0, 0, 0, 0, 56)) rfl) rfl ?_
    refine e_90r zA (f_203 (pc := 56) (e := (56, 90, 11, 33, 3, 62, 1168, 59)) rfl) rfl (hT 102 rfl) rfl rfl (hR 102 33 rfl) ?_
    refine e_2 (f_203 (pc := 59) (e := (59, 2, 468, 0, 0, 0, 0, 62)) rfl) (v := 468) rfl ?_
    refine e_12 (f_203 (pc := 62) (e := (62, 12, 0, 0, 0, 0, 0, 63)) rfl) rfl ?_
    refine e_90 zA (f_203 (pc := 63) (e := (63, 90, 11, 35, 0, 259, 1230, 66)) rfl) rfl (hT 102 rfl) rfl rfl ?_
    refine e_32 (f_203 (pc := 66) (e := (66, 32, 0, 0, 0, 0, 0, 67)) rfl) ?_
    refine e_10 (f_203 (pc := 67) (e := (67, 10, 1, 0, 0, 0, 0, 68)) rfl) rfl ?_
    refine e_30 (f_203 (pc := 68) (e := (68, 30, 0, 0, 0, 0, 0, 69)) rfl) ?_
    refine e_12 (f_203 (pc := 69) (e := (69, 12, 0, 0, 0, 0, 0, 70)) rfl) rfl ?_
    refine e_90r zA (f_203 (pc := 70) (e := (70, 90, 11, 6, 3, 33, 1159, 73)) rfl) rfl (hT 102 rfl) rfl rfl (hR 102 6 rfl) ?_
    refine e_2 (f_203 (pc := 73) (e := (73, 2, 458, 0, 0, 0, 0, 76)) rfl) (v := 458) rfl ?_
    refine e_10 (f_203 (pc := 76) (e := (76, 10, 1, 0, 0, 0, 0, 77)) rfl) rfl ?_
    refine e_30 (f_203 (pc := 77) (e := (77, 30, 0, 0, 0, 0, 0, 78)) rfl) ?_
    obtain ⟨b3, b4, F⟩ := F
    refine e_110 (f_203 (pc := 78) (e := (78, 110, 0, 0, 0, 0, 0, 79)) rfl) rfl (hT 104 rfl) b3 b4 ?_
    obtain ⟨b5, b6, F⟩ := F
    refine e_111 (f_203 (pc := 79) (e := (79, 111, 0, 0, 0, 0, 0, 80)) rfl) rfl (hT 113 rfl) b5 b6 ?_
    replace F := F _ rfl
    refine e_26 (f_203 (pc := 80) (e := (80, 26, 1, 1, 0, 0, 0, 83)) rfl) (w := 1) rfl rfl ?_
    refine e_80 (f_203 (pc := 83) (e := (83, 80, 48, 0, 0, 0, 0, 86)) rfl) ?_
    refine e_lo [0, 1] rfl ?_
    exact F
end Sy
