/-! BLOCKS of the class, printed by wip/whole/y/gen74.py (1) -/
section Sy
variable {l : Launch} {D : va_G} {cy : Nat → ClassId} {z d bc bs N : Nat} {T : Nat → Nat × Nat} {R : Nat → Nat → Option Nat} {I : Nat → Nat → Int} {K : yKo}
/-! ChairAlley$Reader.isSign(C)Z -/
set_option maxRecDepth 20000 in
theorem B_38_0 (hT : yLT T) (hR : yLR R) {x1 : Int} (F : ((I 1 5) ≠ 4 → K (some (yi 0)) (N, T, R, I)) ∧ (¬ ((I 1 5) ≠ 4) → ((I 1 9) ≠ x1 → K (some (yi 0)) (N, T, R, I)) ∧ (¬ ((I 1 9) ≠ x1) → K (some (yi 1)) (N, T, R, I)))) :
    yW l zSS D cy zFk z d 38 bc bs K 0 0 0 [(0, yr (some 1)), (1, yi x1)] [] (N, T, R, I) := by
  refine e_12 (f_38 (pc := 0) (e := (0, 12, 0, 0, 0, 0, 0, 1)) rfl) rfl ?_
  refine e_90 zA (f_38 (pc := 1) (e := (1, 90, 3, 5, 0, 43, 865, 4)) rfl) rfl (hT 1 rfl) rfl rfl ?_
  refine e_0 (f_38 (pc := 4) (e := (4, 0, 4, 0, 0, 0, 0, 5)) rfl) (v := 4) rfl ?_
  refine e_71 (f_38 (pc := 5) (e := (5, 71, 20, 0, 0, 0, 0, 8)) rfl) (fun c1 => ?_) (fun c1 => ?_)
  · replace F := F.1 c1
    refine e_0 (f_38 (pc := 20) (e := (20, 0, 0, 0, 0, 0, 0, 21)) rfl) (v := 0) rfl ?_
    exact e_121 (f_38 (pc := 21) (e := (21, 121, 0, 0, 0, 0, 0, 0)) rfl) (.inl rfl) F
  · replace F := F.2 c1
    refine e_12 (f_38 (pc := 8) (e := (8, 12, 0, 0, 0, 0, 0, 9)) rfl) rfl ?_
    refine e_90 zA (f_38 (pc := 9) (e := (9, 90, 3, 9, 0, 62, 875, 12)) rfl) rfl (hT 1 rfl) rfl rfl ?_
    refine e_10 (f_38 (pc := 12) (e := (12, 10, 1, 0, 0, 0, 0, 13)) rfl) rfl ?_
    refine e_71 (f_38 (pc := 13) (e := (13, 71, 20, 0, 0, 0, 0, 16)) rfl) (fun c2 => ?_) (fun c2 => ?_)
    · replace F := F.1 c2
      refine e_0 (f_38 (pc := 20) (e := (20, 0, 0, 0, 0, 0, 0, 21)) rfl) (v := 0) rfl ?_
      exact e_121 (f_38 (pc := 21) (e := (21, 121, 0, 0, 0, 0, 0, 0)) rfl) (.inl rfl) F
    · replace F := F.2 c2
      refine e_0 (f_38 (pc := 16) (e := (16, 0, 1, 0, 0, 0, 0, 17)) rfl) (v := 1) rfl ?_
      refine e_80 (f_38 (pc := 17) (e := (17, 80, 21, 0, 0, 0, 0, 20)) rfl) ?_
      exact e_121 (f_38 (pc := 21) (e := (21, 121, 0, 0, 0, 0, 0, 0)) rfl) (.inr rfl) F

/-! ChairAlley$Reader.isWord(II)Z -/
set_option maxRecDepth 20000 in
theorem B_39_0 (hT : yLT T) (hR : yLR R) {x1 x2 : Int} (F : ((I 1 5) ≠ 2 → K (some (yi 0)) (N, T, R, I)) ∧ (¬ ((I 1 5) ≠ 2) → ((I 1 6) < x1 → K (some (yi 0)) (N, T, R, I)) ∧ (¬ ((I 1 6) < x1) → (x2 < (I 1 6) → K (some (yi 0)) (N, T, R, I)) ∧ (¬ (x2 < (I 1 6)) → K (some (yi 1)) (N, T, R, I))))) :
    yW l zSS D cy zFk z d 39 bc bs K 0 0 0 [(0, yr (some 1)), (1, yi x1), (2, yi x2)] [] (N, T, R, I) := by
  refine e_12 (f_39 (pc := 0) (e := (0, 12, 0, 0, 0, 0, 0, 1)) rfl) rfl ?_
  refine e_90 zA (f_39 (pc := 1) (e := (1, 90, 3, 5, 0, 43, 865, 4)) rfl) rfl (hT 1 rfl) rfl rfl ?_
  refine e_0 (f_39 (pc := 4) (e := (4, 0, 2, 0, 0, 0, 0, 5)) rfl) (v := 2) rfl ?_
  refine e_71 (f_39 (pc := 5) (e := (5, 71, 28, 0, 0, 0, 0, 8)) rfl) (fun c1 => ?_) (fun c1 => ?_)
  · replace F := F.1 c1
    refine e_0 (f_39 (pc := 28) (e := (28, 0, 0, 0, 0, 0, 0, 29)) rfl) (v := 0) rfl ?_
    exact e_121 (f_39 (pc := 29) (e := (29, 121, 0, 0, 0, 0, 0, 0)) rfl) (.inl rfl) F
  · replace F := F.2 c1
    refine e_12 (f_39 (pc := 8) (e := (8, 12, 0, 0, 0, 0, 0, 9)) rfl) rfl ?_
    refine e_90 zA (f_39 (pc := 9) (e := (9, 90, 3, 6, 0, 46, 866, 12)) rfl) rfl (hT 1 rfl) rfl rfl ?_
    refine e_10 (f_39 (pc := 12) (e := (12, 10, 1, 0, 0, 0, 0, 13)) rfl) rfl ?_
    refine e_72 (f_39 (pc := 13) (e := (13, 72, 28, 0, 0, 0, 0, 16)) rfl) (fun c2 => ?_) (fun c2 => ?_)
    · replace F := F.1 c2
      refine e_0 (f_39 (pc := 28) (e := (28, 0, 0, 0, 0, 0, 0, 29)) rfl) (v := 0) rfl ?_
      exact e_121 (f_39 (pc := 29) (e := (29, 121, 0, 0, 0, 0, 0, 0)) rfl) (.inl rfl) F
    · replace F := F.2 c2
      refine e_12 (f_39 (pc := 16) (e := (16, 12, 0, 0, 0, 0, 0, 17)) rfl) rfl ?_
      refine e_90 zA (f_39 (pc := 17) (e := (17, 90, 3, 6, 0, 46, 866, 20)) rfl) rfl (hT 1 rfl) rfl rfl ?_
      refine e_10 (f_39 (pc := 20) (e := (20, 10, 2, 0, 0, 0, 0, 21)) rfl) rfl ?_
      refine e_74 (f_39 (pc := 21) (e := (21, 74, 28, 0, 0, 0, 0, 24)) rfl) (fun c3 => ?_) (fun c3 => ?_)
      · replace F := F.1 c3
        refine e_0 (f_39 (pc := 28) (e := (28, 0, 0, 0, 0, 0, 0, 29)) rfl) (v := 0) rfl ?_
        exact e_121 (f_39 (pc := 29) (e := (29, 121, 0, 0, 0, 0, 0, 0)) rfl) (.inl rfl) F
      · replace F := F.2 c3
        refine e_0 (f_39 (pc := 24) (e := (24, 0, 1, 0, 0, 0, 0, 25)) rfl) (v := 1) rfl ?_
        refine e_80 (f_39 (pc := 25) (e := (25, 80, 29, 0, 0, 0, 0, 28)) rfl) ?_
        exact e_121 (f_39 (pc := 29) (e := (29, 121, 0, 0, 0, 0, 0, 0)) rfl) (.inr rfl) F

/-! ChairAlley$Reader.open(I)V -/
set_option maxRecDepth 20000 in
theorem B_40_0 (hT : yLT T) (hR : yLR R) {x1 : Int} (F : ∀ I1, I1 = yU I 1 2 x1 → (∀ I2, I2 = yU I1 1 3 0 → (∀ I3, I3 = yU I2 1 10 0 → (∀ I4, I4 = yU I3 1 11 0 → (yW l zSS D cy zFk z d 31 0 0 (fun r h' => ∃ I5, r = none ∧ h' = (N, T, R, I5) ∧ (K none (N, T, R, I5))) 0 0 0 [(0, yr (some 1))] [] (N, T, R, I4)))))) :
    yW l zSS D cy zFk z (d + 1) 40 bc bs K 0 0 0 [(0, yr (some 1)), (1, yi x1)] [] (N, T, R, I) := by
  refine e_12 (f_40 (pc := 0) (e := (0, 12, 0, 0, 0, 0, 0, 1)) rfl) rfl ?_
  refine e_10 (f_40 (pc := 1) (e := (1, 10, 1, 0, 0, 0, 0, 2)) rfl) rfl ?_
  refine e_91 zA (f_40 (pc := 2) (e := (2, 91, 3, 2, 0, 19, 861, 5)) rfl) rfl (hT 1 rfl) rfl rfl trivial ?_
  replace F := F _ rfl
  refine e_12 (f_40 (pc := 5) (e := (5, 12, 0, 0, 0, 0, 0, 6)) rfl) rfl ?_
  refine e_0 (f_40 (pc := 6) (e := (6, 0, 0, 0, 0, 0, 0, 7)) rfl) (v := 0) rfl ?_
  refine e_91 zA (f_40 (pc := 7) (e := (7, 91, 3, 3, 0, 22, 863, 10)) rfl) rfl (hT 1 rfl) rfl rfl trivial ?_
  replace F := F _ rfl
  refine e_12 (f_40 (pc := 10) (e := (10, 12, 0, 0, 0, 0, 0, 11)) rfl) rfl ?_
  refine e_0 (f_40 (pc := 11) (e := (11, 0, 0, 0, 0, 0, 0, 12)) rfl) (v := 0) rfl ?_
  refine e_91 zA (f_40 (pc := 12) (e := (12, 91, 3, 10, 0, 25, 870, 15)) rfl) rfl (hT 1 rfl) rfl rfl trivial ?_
  replace F := F _ rfl
  refine e_12 (f_40 (pc := 15) (e := (15, 12, 0, 0, 0, 0, 0, 16)) rfl) rfl ?_
  refine e_0 (f_40 (pc := 16) (e := (16, 0, 0, 0, 0, 0, 0, 17)) rfl) (v := 0) rfl ?_
  refine e_91 zA (f_40 (pc := 17) (e := (17, 91, 3, 11, 0, 28, 871, 20)) rfl) rfl (hT 1 rfl) rfl rfl trivial ?_
  replace F := F _ rfl
  refine e_12 (f_40 (pc := 20) (e := (20, 12, 0, 0, 0, 0, 0, 21)) rfl) rfl ?_
  refine e_130 (f_40 (pc := 21) (e := (21, 130, 31, 0, 3, 31, 876, 24)) rfl) zA (as := [yr (some 1)]) (rest := []) rfl rfl rfl rfl (Nat.le_of_ble_eq_true rfl) (Nat.le_of_ble_eq_true rfl) ⟨_, _, _, rfl, (hT 1 rfl)⟩ (mc := 0) (ms := 0) (Nat.zero_le _) (Nat.zero_le _) ?_
  refine e_K ?_ F
  rintro r h' ⟨I5, rfl, rfl, F⟩
  exact e_122 (f_40 (pc := 24) (e := (24, 122, 0, 0, 0, 0, 0, 0)) rfl) F

/-! ChairAlley$Reader.passDir()I -/
set_option maxRecDepth 20000 in
theorem B_41_0 (hT : yLT T) (hR : yLR R) (F : yW l zSS D cy zFk z d 39 0 0 (fun r h' => ∃ r2 I1, r = some (yi r2) ∧ h' = (N, T, R, I1) ∧ ((r2 ≠ 0 → yW l zSS D cy zFk z d 31 0 0 (fun r h' => ∃ I4, r = none ∧ h' = (N, T, R, I4) ∧ (K (some (yi (ysub (I1 1 6) 12))) (N, T, R, I4))) 0 0 0 [(0, yr (some 1))] [] (N, T, R, I1)) ∧ (¬ (r2 ≠ 0) → yW l zSS D cy zFk z d 34 0 0 (fun r h' => ∃ r6 I5, r = some (yi r6) ∧ h' = (N, T, R, I5) ∧ (K (some (yi (-1))) (N, T, R, I5))) 0 0 0 [(0, yr (some 1)), (1, yi 1)] [] (N, T, R, I1)))) 0 0 0 [(0, yr (some 1)), (1, yi 12), (2, yi 15)] [] (N, T, R, I)) :
    yW l zSS D cy zFk z (d + 1) 41 bc bs K 0 0 0 [(0, yr (some 1))] [] (N, T, R, I) := by
  refine e_12 (f_41 (pc := 0) (e := (0, 12, 0, 0, 0, 0, 0, 1)) rfl) rfl ?_
  refine e_1 (f_41 (pc := 1) (e := (1, 1, 12, 0, 0, 0, 0, 3)) rfl) (v := 12) rfl ?_
  refine e_1 (f_41 (pc := 3) (e := (3, 1, 15, 0, 0, 0, 0, 5)) rfl) (v := 15) rfl ?_
  refine e_130 (f_41 (pc := 5) (e := (5, 130, 39, 0, 3, 90, 877, 8)) rfl) zA (as := [yr (some 1), yi 12, yi 15]) (rest := []) rfl rfl rfl rfl (Nat.le_of_ble_eq_true rfl) (Nat.le_of_ble_eq_true rfl) ⟨_, _, _, rfl, (hT 1 rfl)⟩ (mc := 0) (ms := 0) (Nat.zero_le _) (Nat.zero_le _) ?_
  refine e_K ?_ F
  rintro r h' ⟨r2, I1, rfl, rfl, F⟩
  refine e_61 (f_41 (pc := 8) (e := (8, 61, 19, 0, 0, 0, 0, 11)) rfl) (fun c3 => ?_) (fun c3 => ?_)
  · replace F := F.1 c3
    refine e_12 (f_41 (pc := 19) (e := (19, 12, 0, 0, 0, 0, 0, 20)) rfl) rfl ?_
    refine e_90 zA (f_41 (pc := 20) (e := (20, 90, 3, 6, 0, 46, 866, 23)) rfl) rfl (hT 1 rfl) rfl rfl ?_
    refine e_1 (f_41 (pc := 23) (e := (23, 1, 12, 0, 0, 0, 0, 25)) rfl) (v := 12) rfl ?_
    refine e_31 (f_41 (pc := 25) (e := (25, 31, 0, 0, 0, 0, 0, 26)) rfl) ?_
    refine e_20 (f_41 (pc := 26) (e := (26, 20, 1, 0, 0, 0, 0, 27)) rfl) ?_
    refine e_12 (f_41 (pc := 27) (e := (27, 12, 0, 0, 0, 0, 0, 28)) rfl) rfl ?_
    refine e_130 (f_41 (pc := 28) (e := (28, 130, 31, 0, 3, 31, 876, 31)) rfl) zA (as := [yr (some 1)]) (rest := []) rfl rfl rfl rfl (Nat.le_of_ble_eq_true rfl) (Nat.le_of_ble_eq_true rfl) ⟨_, _, _, rfl, (hT 1 rfl)⟩ (mc := 0) (ms := 0) (Nat.zero_le _) (Nat.zero_le _) ?_
    refine e_K ?_ F
    rintro r h' ⟨I4, rfl, rfl, F⟩
    refine e_10 (f_41 (pc := 31) (e := (31, 10, 1, 0, 0, 0, 0, 32)) rfl) rfl ?_
    exact e_120 (f_41 (pc := 32) (e := (32, 120, 0, 0, 0, 0, 0, 0)) rfl) F
  · replace F := F.2 c3
    refine e_12 (f_41 (pc := 11) (e := (11, 12, 0, 0, 0, 0, 0, 12)) rfl) rfl ?_
    refine e_0 (f_41 (pc := 12) (e := (12, 0, 1, 0, 0, 0, 0, 13)) rfl) (v := 1) rfl ?_
    refine e_130 (f_41 (pc := 13) (e := (13, 130, 34, 0, 3, 78, 869, 16)) rfl) zA (as := [yr (some 1), yi 1]) (rest := []) rfl rfl rfl rfl (Nat.le_of_ble_eq_true rfl) (Nat.le_of_ble_eq_true rfl) ⟨_, _, _, rfl, (hT 1 rfl)⟩ (mc := 0) (ms := 0) (Nat.zero_le _) (Nat.zero_le _) ?_
    refine e_K ?_ F
    rintro r h' ⟨r6, I5, rfl, rfl, F⟩
    refine e_52 (f_41 (pc := 16) (e := (16, 52, 0, 0, 0, 0, 0, 17)) rfl) rfl ?_
    refine e_0 (f_41 (pc := 17) (e := (17, 0, 4294967295, 0, 0, 0, 0, 18)) rfl) (v := (-1)) rfl ?_
    exact e_120 (f_41 (pc := 18) (e := (18, 120, 0, 0, 0, 0, 0, 19)) rfl) F

/-! ChairAlley$Reader.passNumber(II)I -/
set_option maxRecDepth 20000 in
theorem B_42_0 (hT : yLT T) (hR : yLR R) {x1 x2 : Int} (F : yW l zSS D cy zFk z d 37 0 0 (fun r h' => ∃ r2 I1, r = some (yi r2) ∧ h' = (N, T, R, I1) ∧ ((r2 ≠ 0 → yW l zSS D cy zFk z d 31 0 0 (fun r h' => ∃ I4, r = none ∧ h' = (N, T, R, I4) ∧ (K (some (yi (I1 1 8))) (N, T, R, I4))) 0 0 0 [(0, yr (some 1))] [] (N, T, R, I1)) ∧ (¬ (r2 ≠ 0) → K (some (yi (-1))) (N, T, R, I1)))) 0 0 0 [(0, yr (some 1)), (1, yi x1), (2, yi x2)] [] (N, T, R, I)) :
    yW l zSS D cy zFk z (d + 1) 42 bc bs K 0 0 0 [(0, yr (some 1)), (1, yi x1), (2, yi x2)] [] (N, T, R, I) := by
  refine e_12 (f_42 (pc := 0) (e := (0, 12, 0, 0, 0, 0, 0, 1)) rfl) rfl ?_
  refine e_10 (f_42 (pc := 1) (e := (1, 10, 1, 0, 0, 0, 0, 2)) rfl) rfl ?_
  refine e_10 (f_42 (pc := 2) (e := (2, 10, 2, 0, 0, 0, 0, 3)) rfl) rfl ?_
  refine e_130 (f_42 (pc := 3) (e := (3, 130, 37, 0, 3, 86, 878, 6)) rfl) zA (as := [yr (some 1), yi x1, yi x2]) (rest := []) rfl rfl rfl rfl (Nat.le_of_ble_eq_true rfl) (Nat.le_of_ble_eq_true rfl) ⟨_, _, _, rfl, (hT 1 rfl)⟩ (mc := 0) (ms := 0) (Nat.zero_le _) (Nat.zero_le _) ?_
  refine e_K ?_ F
  rintro r h' ⟨r2, I1, rfl, rfl, F⟩
  refine e_61 (f_42 (pc := 6) (e := (6, 61, 11, 0, 0, 0, 0, 9)) rfl) (fun c3 => ?_) (fun c3 => ?_)
  · replace F := F.1 c3
    refine e_12 (f_42 (pc := 11) (e := (11, 12, 0, 0, 0, 0, 0, 12)) rfl) rfl ?_
    refine e_90 zA (f_42 (pc := 12) (e := (12, 90, 3, 8, 0, 59, 874, 15)) rfl) rfl (hT 1 rfl) rfl rfl ?_
    refine e_20 (f_42 (pc := 15) (e := (15, 20, 3, 0, 0, 0, 0, 16)) rfl) ?_
    refine e_12 (f_42 (pc := 16) (e := (16, 12, 0, 0, 0, 0, 0, 17)) rfl) rfl ?_
    refine e_130 (f_42 (pc := 17) (e := (17, 130, 31, 0, 3, 31, 876, 20)) rfl) zA (as := [yr (some 1)]) (rest := []) rfl rfl rfl rfl (Nat.le_of_ble_eq_true rfl) (Nat.le_of_ble_eq_true rfl) ⟨_, _, _, rfl, (hT 1 rfl)⟩ (mc := 0) (ms := 0) (Nat.zero_le _) (Nat.zero_le _) ?_
    refine e_K ?_ F
    rintro r h' ⟨I4, rfl, rfl, F⟩
    refine e_10 (f_42 (pc := 20) (e := (20, 10, 3, 0, 0, 0, 0, 21)) rfl) rfl ?_
    exact e_120 (f_42 (pc := 21) (e := (21, 120, 0, 0, 0, 0, 0, 0)) rfl) F
  · replace F := F.2 c3
    refine e_0 (f_42 (pc := 9) (e := (9, 0, 4294967295, 0, 0, 0, 0, 10)) rfl) (v := (-1)) rfl ?_
    exact e_120 (f_42 (pc := 10) (e := (10, 120, 0, 0, 0, 0, 0, 11)) rfl) F

/-! ChairAlley$Reader.passSign(C)Z -/
set_option maxRecDepth 20000 in
theorem B_43_0 (hT : yLT T) (hR : yLR R) {x1 : Int} (F : yW l zSS D cy zFk z d 38 0 0 (fun r h' => ∃ r2 I1, r = some (yi r2) ∧ h' = (N, T, R, I1) ∧ ((r2 ≠ 0 → yW l zSS D cy zFk z d 31 0 0 (fun r h' => ∃ I4, r = none ∧ h' = (N, T, R, I4) ∧ (K (some (yi 1)) (N, T, R, I4))) 0 0 0 [(0, yr (some 1))] [] (N, T, R, I1)) ∧ (¬ (r2 ≠ 0) → yW l zSS D cy zFk z d 34 0 0 (fun r h' => ∃ r6 I5, r = some (yi r6) ∧ h' = (N, T, R, I5) ∧ ((r6 = 0 ∨ r6 = 1) ∧ K (some (yi r6)) (N, T, R, I5))) 0 0 0 [(0, yr (some 1)), (1, yi 1)] [] (N, T, R, I1)))) 0 0 0 [(0, yr (some 1)), (1, yi x1)] [] (N, T, R, I)) :
    yW l zSS D cy zFk z (d + 1) 43 bc bs K 0 0 0 [(0, yr (some 1)), (1, yi x1)] [] (N, T, R, I) := by
  refine e_12 (f_43 (pc := 0) (e := (0, 12, 0, 0, 0, 0, 0, 1)) rfl) rfl ?_
  refine e_10 (f_43 (pc := 1) (e := (1, 10, 1, 0, 0, 0, 0, 2)) rfl) rfl ?_
  refine e_130 (f_43 (pc := 2) (e := (2, 130, 38, 0, 3, 82, 879, 5)) rfl) zA (as := [yr (some 1), yi x1]) (rest := []) rfl rfl rfl rfl (Nat.le_of_ble_eq_true rfl) (Nat.le_of_ble_eq_true rfl) ⟨_, _, _, rfl, (hT 1 rfl)⟩ (mc := 0) (ms := 0) (Nat.zero_le _) (Nat.zero_le _) ?_
  refine e_K ?_ F
  rintro r h' ⟨r2, I1, rfl, rfl, F⟩
  refine e_61 (f_43 (pc := 5) (e := (5, 61, 14, 0, 0, 0, 0, 8)) rfl) (fun c3 => ?_) (fun c3 => ?_)
  · replace F := F.1 c3
    refine e_12 (f_43 (pc := 14) (e := (14, 12, 0, 0, 0, 0, 0, 15)) rfl) rfl ?_
    refine e_130 (f_43 (pc := 15) (e := (15, 130, 31, 0, 3, 31, 876, 18)) rfl) zA (as := [yr (some 1)]) (rest := []) rfl rfl rfl rfl (Nat.le_of_ble_eq_true rfl) (Nat.le_of_ble_eq_true rfl) ⟨_, _, _, rfl, (hT 1 rfl)⟩ (mc := 0) (ms := 0) (Nat.zero_le _) (Nat.zero_le _) ?_
    refine e_K ?_ F
    rintro r h' ⟨I4, rfl, rfl, F⟩
    refine e_0 (f_43 (pc := 18) (e := (18, 0, 1, 0, 0, 0, 0, 19)) rfl) (v := 1) rfl ?_
    exact e_121 (f_43 (pc := 19) (e := (19, 121, 0, 0, 0, 0, 0, 0)) rfl) (.inr rfl) F
  · replace F := F.2 c3
    refine e_12 (f_43 (pc := 8) (e := (8, 12, 0, 0, 0, 0, 0, 9)) rfl) rfl ?_
    refine e_0 (f_43 (pc := 9) (e := (9, 0, 1, 0, 0, 0, 0, 10)) rfl) (v := 1) rfl ?_
    refine e_130 (f_43 (pc := 10) (e := (10, 130, 34, 0, 3, 78, 869, 13)) rfl) zA (as := [yr (some 1), yi 1]) (rest := []) rfl rfl rfl rfl (Nat.le_of_ble_eq_true rfl) (Nat.le_of_ble_eq_true rfl) ⟨_, _, _, rfl, (hT 1 rfl)⟩ (mc := 0) (ms := 0) (Nat.zero_le _) (Nat.zero_le _) ?_
    refine e_K ?_ F
    rintro r h' ⟨r6, I5, rfl, rfl, F⟩
    exact e_121 (f_43 (pc := 13) (e := (13, 121, 0, 0, 0, 0, 0, 14)) rfl) F.1 F.2

/-! ChairAlley$Reader.readToken()V -/
set_option maxRecDepth 20000 in
theorem B_44_0 (hT : yLT T) (hR : yLR R) (F : ∀ I1, I1 = yU I 1 7 0 → (∀ I2, I2 = yU I1 1 8 0 → (yW l zSS D cy zFk z d 44 bc bs K 0 0 14 [(0, yr (some 1)), (1, yi 0), (2, yi 0)] [] (N, T, R, I2)))) :
    yW l zSS D cy zFk z d 44 bc bs K 0 0 0 [(0, yr (some 1))] [] (N, T, R, I) := by
  refine e_0 (f_44 (pc := 0) (e := (0, 0, 0, 0, 0, 0, 0, 1)) rfl) (v := 0) rfl ?_
  refine e_20 (f_44 (pc := 1) (e := (1, 20, 1, 0, 0, 0, 0, 2)) rfl) ?_
  refine e_0 (f_44 (pc := 2) (e := (2, 0, 0, 0, 0, 0, 0, 3)) rfl) (v := 0) rfl ?_
  refine e_20 (f_44 (pc := 3) (e := (3, 20, 2, 0, 0, 0, 0, 4)) rfl) ?_
  refine e_12 (f_44 (pc := 4) (e := (4, 12, 0, 0, 0, 0, 0, 5)) rfl) rfl ?_
  refine e_6 (f_44 (pc := 5) (e := (5, 6, 0, 0, 0, 0, 0, 6)) rfl) (v := 0) rfl ?_
  refine e_91 zA (f_44 (pc := 6) (e := (6, 91, 3, 7, 1, 55, 873, 9)) rfl) rfl (hT 1 rfl) rfl rfl trivial ?_
  replace F := F _ rfl
  refine e_12 (f_44 (pc := 9) (e := (9, 12, 0, 0, 0, 0, 0, 10)) rfl) rfl ?_
  refine e_0 (f_44 (pc := 10) (e := (10, 0, 0, 0, 0, 0, 0, 11)) rfl) (v := 0) rfl ?_
  refine e_91 zA (f_44 (pc := 11) (e := (11, 91, 3, 8, 0, 59, 874, 14)) rfl) rfl (hT 1 rfl) rfl rfl trivial ?_
  replace F := F _ rfl
  refine e_lo [0, 1, 2] rfl ?_
  exact F
set_option maxRecDepth 20000 in
theorem B_44_14 (hT : yLT T) (hR : yLR R) {x1 x2 : Int} (F : ((I 1 1) ≤ (I 1 3) → yW l zSS D cy zFk z d 44 bc bs K 0 0 150 [(0, yr (some 1)), (1, yi x1), (2, yi x2)] [] (N, T, R, I)) ∧ (¬ ((I 1 1) ≤ (I 1 3)) → (940 ≤ (I 1 3) → yW l zSS D cy zFk z d 44 bc bs K 0 0 150 [(0, yr (some 1)), (1, yi x1), (2, yi x2)] [] (N, T, R, I)) ∧ (¬ (940 ≤ (I 1 3)) → 0 ≤ (I 1 3) ∧ (I 1 3) < 940 ∧ (∀ I5, I5 = yU I 1 9 (I 2 (I 1 3).toNat) → (((I5 1 9) < 97 → yW l zSS D cy zFk z d 44 bc bs K 0 0 97 [(0, yr (some 1)), (1, yi x1), (2, yi x2)] [] (N, T, R, I5)) ∧ (¬ ((I5 1 9) < 97) → (122 < (I5 1 9) → yW l zSS D cy zFk z d 44 bc bs K 0 0 97 [(0, yr (some 1)), (1, yi x1), (2, yi x2)] [] (N, T, R, I5)) ∧ (¬ (122 < (I5 1 9)) → ∀ I8, I8 = yU I5 1 7 (yladd (ylmul (I5 1 7) 32) (yi2l (yadd (ysub (I5 1 9) 97) 1))) → (yW l zSS D cy zFk z d 44 bc bs K 0 0 137 [(0, yr (some 1)), (1, yi (yadd x1 1)), (2, yi x2)] [] (N, T, R, I8))))))))) :
    yW l zSS D cy zFk z d 44 bc bs K 0 0 14 [(0, yr (some 1)), (1, yi x1), (2, yi x2)] [] (N, T, R, I) := by
  refine e_12 (f_44 (pc := 14) (e := (14, 12, 0, 0, 0, 0, 0, 15)) rfl) rfl ?_
  refine e_90 zA (f_44 (pc := 15) (e := (15, 90, 3, 3, 0, 22, 863, 18)) rfl) rfl (hT 1 rfl) rfl rfl ?_
  refine e_12 (f_44 (pc := 18) (e := (18, 12, 0, 0, 0, 0, 0, 19)) rfl) rfl ?_
  refine e_90 zA (f_44 (pc := 19) (e := (19, 90, 3, 1, 0, 15, 860, 22)) rfl) rfl (hT 1 rfl) rfl rfl ?_
  refine e_73 (f_44 (pc := 22) (e := (22, 73, 150, 0, 0, 0, 0, 25)) rfl) (fun c1 => ?_) (fun c1 => ?_)
  · replace F := F.1 c1
    refine e_lo [0, 1, 2] rfl ?_
    exact F
  · replace F := F.2 c1
    refine e_12 (f_44 (pc := 25) (e := (25, 12, 0, 0, 0, 0, 0, 26)) rfl) rfl ?_
    refine e_90 zA (f_44 (pc := 26) (e := (26, 90, 3, 3, 0, 22, 863, 29)) rfl) rfl (hT 1 rfl) rfl rfl ?_
    refine e_12 (f_44 (pc := 29) (e := (29, 12, 0, 0, 0, 0, 0, 30)) rfl) rfl ?_
    refine e_90r zA (f_44 (pc := 30) (e := (30, 90, 3, 0, 3, 9, 859, 33)) rfl) rfl (hT 1 rfl) rfl rfl (hR 1 0 rfl) ?_
    refine e_103 (f_44 (pc := 33) (e := (33, 103, 0, 0, 0, 0, 0, 34)) rfl) rfl (hT 2 rfl) (by decide) (by decide) ?_
    refine e_73 (f_44 (pc := 34) (e := (34, 73, 150, 0, 0, 0, 0, 37)) rfl) (fun c2 => ?_) (fun c2 => ?_)
    · replace F := F.1 c2
      refine e_lo [0, 1, 2] rfl ?_
      exact F
    · replace F := F.2 c2
      refine e_12 (f_44 (pc := 37) (e := (37, 12, 0, 0, 0, 0, 0, 38)) rfl) rfl ?_
      refine e_12 (f_44 (pc := 38) (e := (38, 12, 0, 0, 0, 0, 0, 39)) rfl) rfl ?_
      refine e_90r zA (f_44 (pc := 39) (e := (39, 90, 3, 0, 3, 9, 859, 42)) rfl) rfl (hT 1 rfl) rfl rfl (hR 1 0 rfl) ?_
      refine e_12 (f_44 (pc := 42) (e := (42, 12, 0, 0, 0, 0, 0, 43)) rfl) rfl ?_
      refine e_90 zA (f_44 (pc := 43) (e := (43, 90, 3, 3, 0, 22, 863, 46)) rfl) rfl (hT 1 rfl) rfl rfl ?_
      obtain ⟨b3, b4, F⟩ := F
      refine e_112 (f_44 (pc := 46) (e := (46, 112, 0, 0, 0, 0, 0, 47)) rfl) rfl (hT 2 rfl) b3 b4 (.inl rfl) ?_
      refine e_91 zA (f_44 (pc := 47) (e := (47, 91, 3, 9, 0, 62, 875, 50)) rfl) rfl (hT 1 rfl) rfl rfl trivial ?_
      replace F := F _ rfl
      refine e_12 (f_44 (pc := 50) (e := (50, 12, 0, 0, 0, 0, 0, 51)) rfl) rfl ?_
      refine e_90 zA (f_44 (pc := 51) (e := (51, 90, 3, 9, 0, 62, 875, 54)) rfl) rfl (hT 1 rfl) rfl rfl ?_
      refine e_1 (f_44 (pc := 54) (e := (54, 1, 97, 0, 0, 0, 0, 56)) rfl) (v := 97) rfl ?_
      refine e_72 (f_44 (pc := 56) (e := (56, 72, 97, 0, 0, 0, 0, 59)) rfl) (fun c6 => ?_) (fun c6 => ?_)
      · replace F := F.1 c6
        refine e_lo [0, 1, 2] rfl ?_
        exact F
      · replace F := F.2 c6
        refine e_12 (f_44 (pc := 59) (e := (59, 12, 0, 0, 0, 0, 0, 60)) rfl) rfl ?_
        refine e_90 zA (f_44 (pc := 60) (e := (60, 90, 3, 9, 0, 62, 875, 63)) rfl) rfl (hT 1 rfl) rfl rfl ?_
        refine e_1 (f_44 (pc := 63) (e := (63, 1, 122, 0, 0, 0, 0, 65)) rfl) (v := 122) rfl ?_
        refine e_74 (f_44 (pc := 65) (e := (65, 74, 97, 0, 0, 0, 0, 68)) rfl) (fun c7 => ?_) (fun c7 => ?_)
        · replace F := F.1 c7
          refine e_lo [0, 1, 2] rfl ?_
          exact F
        · replace F := F.2 c7
          refine e_26 (f_44 (pc := 68) (e := (68, 26, 1, 1, 0, 0, 0, 71)) rfl) (w := 1) rfl rfl ?_
          refine e_12 (f_44 (pc := 71) (e := (71, 12, 0, 0, 0, 0, 0, 72)) rfl) rfl ?_
          refine e_12 (f_44 (pc := 72) (e := (72, 12, 0, 0, 0, 0, 0, 73)) rfl) rfl ?_
          refine e_90 zA (f_44 (pc := 73) (e := (73, 90, 3, 7, 1, 55, 873, 76)) rfl) rfl (hT 1 rfl) rfl rfl ?_
          refine e_5 (f_44 (pc := 76) (e := (76, 5, 32, 0, 0, 65, 872, 79)) rfl) (v := 32) rfl ?_
          refine e_44 (f_44 (pc := 79) (e := (79, 44, 0, 0, 0, 0, 0, 80)) rfl) ?_
          refine e_12 (f_44 (pc := 80) (e := (80, 12, 0, 0, 0, 0, 0, 81)) rfl) rfl ?_
          refine e_90 zA (f_44 (pc := 81) (e := (81, 90, 3, 9, 0, 62, 875, 84)) rfl) rfl (hT 1 rfl) rfl rfl ?_
          refine e_1 (f_44 (pc := 84) (e := (84, 1, 97, 0, 0, 0, 0, 86)) rfl) (v := 97) rfl ?_
          refine e_31 (f_44 (pc := 86) (e := (86, 31, 0, 0, 0, 0, 0, 87)) rfl) ?_
          refine e_0 (f_44 (pc := 87) (e := (87, 0, 1, 0, 0, 0, 0, 88)) rfl) (v := 1) rfl ?_
          refine e_30 (f_44 (pc := 88) (e := (88, 30, 0, 0, 0, 0, 0, 89)) rfl) ?_
          refine e_42 (f_44 (pc := 89) (e := (89, 42, 0, 0, 0, 0, 0, 90)) rfl) ?_
          refine e_43 (f_44 (pc := 90) (e := (90, 43, 0, 0, 0, 0, 0, 91)) rfl) ?_
          refine e_91 zA (f_44 (pc := 91) (e := (91, 91, 3, 7, 1, 55, 873, 94)) rfl) rfl (hT 1 rfl) rfl rfl trivial ?_
          replace F := F _ rfl
          refine e_80 (f_44 (pc := 94) (e := (94, 80, 137, 0, 0, 0, 0, 97)) rfl) ?_
          refine e_lo [0, 1, 2] rfl ?_
          exact F
set_option maxRecDepth 20000 in
theorem B_44_97 (hT : yLT T) (hR : yLR R) {x1 x2 : Int} (F : ((I 1 9) < 48 → yW l zSS D cy zFk z d 44 bc bs K 0 0 150 [(0, yr (some 1)), (1, yi x1), (2, yi x2)] [] (N, T, R, I)) ∧ (¬ ((I 1 9) < 48) → (57 < (I 1 9) → yW l zSS D cy zFk z d 44 bc bs K 0 0 150 [(0, yr (some 1)), (1, yi x1), (2, yi x2)] [] (N, T, R, I)) ∧ (¬ (57 < (I 1 9)) → ∀ I3, I3 = yU I 1 8 (yadd (ymul (I 1 8) 10) (ysub (I 1 9) 48)) → (yW l zSS D cy zFk z d 44 bc bs K 0 0 137 [(0, yr (some 1)), (1, yi x1), (2, yi (yadd x2 1))] [] (N, T, R, I3))))) :
    yW l zSS D cy zFk z d 44 bc bs K 0 0 97 [(0, yr (some 1)), (1, yi x1), (2, yi x2)] [] (N, T, R, I) := by
  refine e_12 (f_44 (pc := 97) (e := (97, 12, 0, 0, 0, 0, 0, 98)) rfl) rfl ?_
  refine e_90 zA (f_44 (pc := 98) (e := (98, 90, 3, 9, 0, 62, 875, 101)) rfl) rfl (hT 1 rfl) rfl rfl ?_
  refine e_1 (f_44 (pc := 101) (e := (101, 1, 48, 0, 0, 0, 0, 103)) rfl) (v := 48) rfl ?_
  refine e_72 (f_44 (pc := 103) (e := (103, 72, 150, 0, 0, 0, 0, 106)) rfl) (fun c1 => ?_) (fun c1 => ?_)
  · replace F := F.1 c1
    refine e_lo [0, 1, 2] rfl ?_
    exact F
  · replace F := F.2 c1
    refine e_12 (f_44 (pc := 106) (e := (106, 12, 0, 0, 0, 0, 0, 107)) rfl) rfl ?_
    refine e_90 zA (f_44 (pc := 107) (e := (107, 90, 3, 9, 0, 62, 875, 110)) rfl) rfl (hT 1 rfl) rfl rfl ?_
    refine e_1 (f_44 (pc := 110) (e := (110, 1, 57, 0, 0, 0, 0, 112)) rfl) (v := 57) rfl ?_
    refine e_74 (f_44 (pc := 112) (e := (112, 74, 150, 0, 0, 0, 0, 115)) rfl) (fun c2 => ?_) (fun c2 => ?_)
    · replace F := F.1 c2
      refine e_lo [0, 1, 2] rfl ?_
      exact F
    · replace F := F.2 c2
      refine e_26 (f_44 (pc := 115) (e := (115, 26, 2, 1, 0, 0, 0, 118)) rfl) (w := 1) rfl rfl ?_
      refine e_12 (f_44 (pc := 118) (e := (118, 12, 0, 0, 0, 0, 0, 119)) rfl) rfl ?_
      refine e_12 (f_44 (pc := 119) (e := (119, 12, 0, 0, 0, 0, 0, 120)) rfl) rfl ?_
      refine e_90 zA (f_44 (pc := 120) (e := (120, 90, 3, 8, 0, 59, 874, 123)) rfl) rfl (hT 1 rfl) rfl rfl ?_
      refine e_1 (f_44 (pc := 123) (e := (123, 1, 10, 0, 0, 0, 0, 125)) rfl) (v := 10) rfl ?_
      refine e_32 (f_44 (pc := 125) (e := (125, 32, 0, 0, 0, 0, 0, 126)) rfl) ?_
      refine e_12 (f_44 (pc := 126) (e := (126, 12, 0, 0, 0, 0, 0, 127)) rfl) rfl ?_
      refine e_90 zA (f_44 (pc := 127) (e := (127, 90, 3, 9, 0, 62, 875, 130)) rfl) rfl (hT 1 rfl) rfl rfl ?_
      refine e_1 (f_44 (pc := 130) (e := (130, 1, 48, 0, 0, 0, 0, 132)) rfl) (v := 48) rfl ?_
      refine e_31 (f_44 (pc := 132) (e := (132, 31, 0, 0, 0, 0, 0, 133)) rfl) ?_
      refine e_30 (f_44 (pc := 133) (e := (133, 30, 0, 0, 0, 0, 0, 134)) rfl) ?_
      refine e_91 zA (f_44 (pc := 134) (e := (134, 91, 3, 8, 0, 59, 874, 137)) rfl) rfl (hT 1 rfl) rfl rfl trivial ?_
      replace F := F _ rfl
      refine e_lo [0, 1, 2] rfl ?_
      exact F
set_option maxRecDepth 20000 in
theorem B_44_137 (hT : yLT T) (hR : yLR R) {x1 x2 : Int} (F : ∀ I1, I1 = yU I 1 3 (yadd (I 1 3) 1) → (yW l zSS D cy zFk z d 44 bc bs K 0 0 14 [(0, yr (some 1)), (1, yi x1), (2, yi x2)] [] (N, T, R, I1))) :
    yW l zSS D cy zFk z d 44 bc bs K 0 0 137 [(0, yr (some 1)), (1, yi x1), (2, yi x2)] [] (N, T, R, I) := by
  refine e_12 (f_44 (pc := 137) (e := (137, 12, 0, 0, 0, 0, 0, 138)) rfl) rfl ?_
  refine e_50 (f_44 (pc := 138) (e := (138, 50, 0, 0, 0, 0, 0, 139)) rfl) rfl ?_
  refine e_90 zA (f_44 (pc := 139) (e := (139, 90, 3, 3, 0, 22, 863, 142)) rfl) rfl (hT 1 rfl) rfl rfl ?_
  refine e_0 (f_44 (pc := 142) (e := (142, 0, 1, 0, 0, 0, 0, 143)) rfl) (v := 1) rfl ?_
  refine e_30 (f_44 (pc := 143) (e := (143, 30, 0, 0, 0, 0, 0, 144)) rfl) ?_
  refine e_91 zA (f_44 (pc := 144) (e := (144, 91, 3, 3, 0, 22, 863, 147)) rfl) rfl (hT 1 rfl) rfl rfl trivial ?_
  replace F := F _ rfl
  refine e_80 (f_44 (pc := 147) (e := (147, 80, 14, 0, 0, 0, 0, 150)) rfl) ?_
  refine e_lo [0, 1, 2] rfl ?_
  exact F
set_option maxRecDepth 20000 in
theorem B_44_150 (hT : yLT T) (hR : yLR R) {x1 x2 : Int} (F : ∀ I1, I1 = yU I 1 5 1 → (((yadd x1 x2) ≠ 0 → (x2 ≠ 0 → yW l zSS D cy zFk z d 44 bc bs K 0 0 247 [(0, yr (some 1)), (1, yi x1), (2, yi x2)] [] (N, T, R, I1)) ∧ (¬ (x2 ≠ 0) → (7 < x1 → yW l zSS D cy zFk z d 44 bc bs K 0 0 247 [(0, yr (some 1)), (1, yi x1), (2, yi x2)] [] (N, T, R, I1)) ∧ (¬ (7 < x1) → ∀ I5, I5 = yU I1 1 5 2 → (yW l zSS D cy zFk z d 44 bc bs K 0 0 261 [] [] (N, T, R, I5))))) ∧ (¬ ((yadd x1 x2) ≠ 0) → ∀ I6, I6 = yU I1 1 3 (yadd (I1 1 3) 1) → (((I6 1 9) < 59 → yW l zSS D cy zFk z d 44 bc bs K 0 0 189 [(0, yr (some 1))] [] (N, T, R, I6)) ∧ (¬ ((I6 1 9) < 59) → ((I6 1 9) ≤ 62 → yW l zSS D cy zFk z d 44 bc bs K 0 0 207 [(0, yr (some 1))] [] (N, T, R, I6)) ∧ (¬ ((I6 1 9) ≤ 62) → yW l zSS D cy zFk z d 44 bc bs K 0 0 189 [(0, yr (some 1))] [] (N, T, R, I6))))))) :
    yW l zSS D cy zFk z d 44 bc bs K 0 0 150 [(0, yr (some 1)), (1, yi x1), (2, yi x2)] [] (N, T, R, I) := by
  refine e_12 (f_44 (pc := 150) (e := (150, 12, 0, 0, 0, 0, 0, 151)) rfl) rfl ?_
  refine e_0 (f_44 (pc := 151) (e := (151, 0, 1, 0, 0, 0, 0, 152)) rfl) (v := 1) rfl ?_
  refine e_91 zA (f_44 (pc := 152) (e := (152, 91, 3, 5, 0, 43, 865, 155)) rfl) rfl (hT 1 rfl) rfl rfl trivial ?_
  replace F := F _ rfl
  refine e_10 (f_44 (pc := 155) (e := (155, 10, 1, 0, 0, 0, 0, 156)) rfl) rfl ?_
  refine e_10 (f_44 (pc := 156) (e := (156, 10, 2, 0, 0, 0, 0, 157)) rfl) rfl ?_
  refine e_30 (f_44 (pc := 157) (e := (157, 30, 0, 0, 0, 0, 0, 158)) rfl) ?_
  refine e_61 (f_44 (pc := 158) (e := (158, 61, 229, 0, 0, 0, 0, 161)) rfl) (fun c2 => ?_) (fun c2 => ?_)
  · replace F := F.1 c2
    refine e_10 (f_44 (pc := 229) (e := (229, 10, 2, 0, 0, 0, 0, 230)) rfl) rfl ?_
    refine e_61 (f_44 (pc := 230) (e := (230, 61, 247, 0, 0, 0, 0, 233)) rfl) (fun c3 => ?_) (fun c3 => ?_)
    · replace F := F.1 c3
      refine e_lo [0, 1, 2] rfl ?_
      exact F
    · replace F := F.2 c3
      refine e_10 (f_44 (pc := 233) (e := (233, 10, 1, 0, 0, 0, 0, 234)) rfl) rfl ?_
      refine e_1 (f_44 (pc := 234) (e := (234, 1, 7, 0, 0, 0, 0, 236)) rfl) (v := 7) rfl ?_
      refine e_74 (f_44 (pc := 236) (e := (236, 74, 247, 0, 0, 0, 0, 239)) rfl) (fun c4 => ?_) (fun c4 => ?_)
      · replace F := F.1 c4
        refine e_lo [0, 1, 2] rfl ?_
        exact F
      · replace F := F.2 c4
        refine e_12 (f_44 (pc := 239) (e := (239, 12, 0, 0, 0, 0, 0, 240)) rfl) rfl ?_
        refine e_0 (f_44 (pc := 240) (e := (240, 0, 2, 0, 0, 0, 0, 241)) rfl) (v := 2) rfl ?_
        refine e_91 zA (f_44 (pc := 241) (e := (241, 91, 3, 5, 0, 43, 865, 244)) rfl) rfl (hT 1 rfl) rfl rfl trivial ?_
        replace F := F _ rfl
        refine e_80 (f_44 (pc := 244) (e := (244, 80, 261, 0, 0, 0, 0, 247)) rfl) ?_
        refine e_lo [] rfl ?_
        exact F
  · replace F := F.2 c2
    refine e_12 (f_44 (pc := 161) (e := (161, 12, 0, 0, 0, 0, 0, 162)) rfl) rfl ?_
    refine e_50 (f_44 (pc := 162) (e := (162, 50, 0, 0, 0, 0, 0, 163)) rfl) rfl ?_
    refine e_90 zA (f_44 (pc := 163) (e := (163, 90, 3, 3, 0, 22, 863, 166)) rfl) rfl (hT 1 rfl) rfl rfl ?_
    refine e_0 (f_44 (pc := 166) (e := (166, 0, 1, 0, 0, 0, 0, 167)) rfl) (v := 1) rfl ?_
    refine e_30 (f_44 (pc := 167) (e := (167, 30, 0, 0, 0, 0, 0, 168)) rfl) ?_
    refine e_91 zA (f_44 (pc := 168) (e := (168, 91, 3, 3, 0, 22, 863, 171)) rfl) rfl (hT 1 rfl) rfl rfl trivial ?_
    replace F := F _ rfl
    refine e_12 (f_44 (pc := 171) (e := (171, 12, 0, 0, 0, 0, 0, 172)) rfl) rfl ?_
    refine e_90 zA (f_44 (pc := 172) (e := (172, 90, 3, 9, 0, 62, 875, 175)) rfl) rfl (hT 1 rfl) rfl rfl ?_
    refine e_1 (f_44 (pc := 175) (e := (175, 1, 59, 0, 0, 0, 0, 177)) rfl) (v := 59) rfl ?_
    refine e_72 (f_44 (pc := 177) (e := (177, 72, 189, 0, 0, 0, 0, 180)) rfl) (fun c7 => ?_) (fun c7 => ?_)
    · replace F := F.1 c7
      refine e_lo [0] rfl ?_
      exact F
    · replace F := F.2 c7
      refine e_12 (f_44 (pc := 180) (e := (180, 12, 0, 0, 0, 0, 0, 181)) rfl) rfl ?_
      refine e_90 zA (f_44 (pc := 181) (e := (181, 90, 3, 9, 0, 62, 875, 184)) rfl) rfl (hT 1 rfl) rfl rfl ?_
      refine e_1 (f_44 (pc := 184) (e := (184, 1, 62, 0, 0, 0, 0, 186)) rfl) (v := 62) rfl ?_
      refine e_75 (f_44 (pc := 186) (e := (186, 75, 207, 0, 0, 0, 0, 189)) rfl) (fun c8 => ?_) (fun c8 => ?_)
      · replace F := F.1 c8
        refine e_lo [0] rfl ?_
        exact F
      · replace F := F.2 c8
        refine e_lo [0] rfl ?_
        exact F
set_option maxRecDepth 20000 in
theorem B_44_189 (hT : yLT T) (hR : yLR R) (F : ((I 1 9) = 40 → yW l zSS D cy zFk z d 44 bc bs K 0 0 207 [(0, yr (some 1))] [] (N, T, R, I)) ∧ (¬ ((I 1 9) = 40) → ((I 1 9) ≠ 41 → ∀ I3, I3 = yU I 1 5 1 → (yW l zSS D cy zFk z d 44 bc bs K 0 0 261 [] [] (N, T, R, I3))) ∧ (¬ ((I 1 9) ≠ 41) → yW l zSS D cy zFk z d 44 bc bs K 0 0 207 [(0, yr (some 1))] [] (N, T, R, I)))) :
    yW l zSS D cy zFk z d 44 bc bs K 0 0 189 [(0, yr (some 1))] [] (N, T, R, I) := by
  refine e_12 (f_44 (pc := 189) (e := (189, 12, 0, 0, 0, 0, 0, 190)) rfl) rfl ?_
  refine e_90 zA (f_44 (pc := 190) (e := (190, 90, 3, 9, 0, 62, 875, 193)) rfl) rfl (hT 1 rfl) rfl rfl ?_
  refine e_1 (f_44 (pc := 193) (e := (193, 1, 40, 0, 0, 0, 0, 195)) rfl) (v := 40) rfl ?_
  refine e_70 (f_44 (pc := 195) (e := (195, 70, 207, 0, 0, 0, 0, 198)) rfl) (fun c1 => ?_) (fun c1 => ?_)
  · replace F := F.1 c1
    refine e_lo [0] rfl ?_
    exact F
  · replace F := F.2 c1
    refine e_12 (f_44 (pc := 198) (e := (198, 12, 0, 0, 0, 0, 0, 199)) rfl) rfl ?_
    refine e_90 zA (f_44 (pc := 199) (e := (199, 90, 3, 9, 0, 62, 875, 202)) rfl) rfl (hT 1 rfl) rfl rfl ?_
    refine e_1 (f_44 (pc := 202) (e := (202, 1, 41, 0, 0, 0, 0, 204)) rfl) (v := 41) rfl ?_
    refine e_71 (f_44 (pc := 204) (e := (204, 71, 211, 0, 0, 0, 0, 207)) rfl) (fun c2 => ?_) (fun c2 => ?_)
    · replace F := F.1 c2
      refine e_0 (f_44 (pc := 211) (e := (211, 0, 0, 0, 0, 0, 0, 212)) rfl) (v := 0) rfl ?_
      refine e_20 (f_44 (pc := 212) (e := (212, 20, 3, 0, 0, 0, 0, 213)) rfl) ?_
      refine e_12 (f_44 (pc := 213) (e := (213, 12, 0, 0, 0, 0, 0, 214)) rfl) rfl ?_
      refine e_10 (f_44 (pc := 214) (e := (214, 10, 3, 0, 0, 0, 0, 215)) rfl) rfl ?_
      refine e_60 (f_44 (pc := 215) (e := (215, 60, 222, 0, 0, 0, 0, 218)) rfl) (fun _ => ?_) (fun g => absurd (by decide) g)
      refine e_0 (f_44 (pc := 222) (e := (222, 0, 1, 0, 0, 0, 0, 223)) rfl) (v := 1) rfl ?_
      refine e_91 zA (f_44 (pc := 223) (e := (223, 91, 3, 5, 0, 43, 865, 226)) rfl) rfl (hT 1 rfl) rfl rfl trivial ?_
      replace F := F _ rfl
      refine e_80 (f_44 (pc := 226) (e := (226, 80, 261, 0, 0, 0, 0, 229)) rfl) ?_
      refine e_lo [] rfl ?_
      exact F
    · replace F := F.2 c2
      refine e_lo [0] rfl ?_
      exact F
set_option maxRecDepth 20000 in
theorem B_44_207 (hT : yLT T) (hR : yLR R) (F : ∀ I1, I1 = yU I 1 5 4 → (yW l zSS D cy zFk z d 44 bc bs K 0 0 261 [] [] (N, T, R, I1))) :
    yW l zSS D cy zFk z d 44 bc bs K 0 0 207 [(0, yr (some 1))] [] (N, T, R, I) := by
  refine e_0 (f_44 (pc := 207) (e := (207, 0, 1, 0, 0, 0, 0, 208)) rfl) (v := 1) rfl ?_
  refine e_80 (f_44 (pc := 208) (e := (208, 80, 212, 0, 0, 0, 0, 211)) rfl) ?_
  refine e_20 (f_44 (pc := 212) (e := (212, 20, 3, 0, 0, 0, 0, 213)) rfl) ?_
  refine e_12 (f_44 (pc := 213) (e := (213, 12, 0, 0, 0, 0, 0, 214)) rfl) rfl ?_
  refine e_10 (f_44 (pc := 214) (e := (214, 10, 3, 0, 0, 0, 0, 215)) rfl) rfl ?_
  refine e_60 (f_44 (pc := 215) (e := (215, 60, 222, 0, 0, 0, 0, 218)) rfl) (fun g => absurd g (by decide)) (fun _ => ?_)
  refine e_0 (f_44 (pc := 218) (e := (218, 0, 4, 0, 0, 0, 0, 219)) rfl) (v := 4) rfl ?_
  refine e_80 (f_44 (pc := 219) (e := (219, 80, 223, 0, 0, 0, 0, 222)) rfl) ?_
  refine e_91 zA (f_44 (pc := 223) (e := (223, 91, 3, 5, 0, 43, 865, 226)) rfl) rfl (hT 1 rfl) rfl rfl trivial ?_
  replace F := F _ rfl
  refine e_80 (f_44 (pc := 226) (e := (226, 80, 261, 0, 0, 0, 0, 229)) rfl) ?_
  refine e_lo [] rfl ?_
  exact F
set_option maxRecDepth 20000 in
theorem B_44_247 (hT : yLT T) (hR : yLR R) {x1 x2 : Int} (F : (x1 ≠ 0 → yW l zSS D cy zFk z d 44 bc bs K 0 0 261 [] [] (N, T, R, I)) ∧ (¬ (x1 ≠ 0) → (3 < x2 → yW l zSS D cy zFk z d 44 bc bs K 0 0 261 [] [] (N, T, R, I)) ∧ (¬ (3 < x2) → ∀ I3, I3 = yU I 1 5 3 → (yW l zSS D cy zFk z d 44 bc bs K 0 0 261 [] [] (N, T, R, I3))))) :
    yW l zSS D cy zFk z d 44 bc bs K 0 0 247 [(0, yr (some 1)), (1, yi x1), (2, yi x2)] [] (N, T, R, I) := by
  refine e_10 (f_44 (pc := 247) (e := (247, 10, 1, 0, 0, 0, 0, 248)) rfl) rfl ?_
  refine e_61 (f_44 (pc := 248) (e := (248, 61, 261, 0, 0, 0, 0, 251)) rfl) (fun c1 => ?_) (fun c1 => ?_)
  · replace F := F.1 c1
    refine e_lo [] rfl ?_
    exact F
  · replace F := F.2 c1
    refine e_10 (f_44 (pc := 251) (e := (251, 10, 2, 0, 0, 0, 0, 252)) rfl) rfl ?_
    refine e_0 (f_44 (pc := 252) (e := (252, 0, 3, 0, 0, 0, 0, 253)) rfl) (v := 3) rfl ?_
    refine e_74 (f_44 (pc := 253) (e := (253, 74, 261, 0, 0, 0, 0, 256)) rfl) (fun c2 => ?_) (fun c2 => ?_)
    · replace F := F.1 c2
      refine e_lo [] rfl ?_
      exact F
    · replace F := F.2 c2
      refine e_12 (f_44 (pc := 256) (e := (256, 12, 0, 0, 0, 0, 0, 257)) rfl) rfl ?_
      refine e_0 (f_44 (pc := 257) (e := (257, 0, 3, 0, 0, 0, 0, 258)) rfl) (v := 3) rfl ?_
      refine e_91 zA (f_44 (pc := 258) (e := (258, 91, 3, 5, 0, 43, 865, 261)) rfl) rfl (hT 1 rfl) rfl rfl trivial ?_
      replace F := F _ rfl
      refine e_lo [] rfl ?_
      exact F
set_option maxRecDepth 20000 in
theorem B_44_261 (hT : yLT T) (hR : yLR R) (F : K none (N, T, R, I)) :
    yW l zSS D cy zFk z d 44 bc bs K 0 0 261 [] [] (N, T, R, I) := by
  exact e_122 (f_44 (pc := 261) (e := (261, 122, 0, 0, 0, 0, 0, 0)) rfl) F

/-! ChairAlley$Sentence.add(III)V -/
set_option maxRecDepth 20000 in
theorem B_46_0 (hT : yLT T) (hR : yLR R) {p : Nat} (hp : yAtSentence T R p) {x1 x2 x3 : Int} (F : ((I p 0) < 0 → K none (N, T, R, I)) ∧ (¬ ((I p 0) < 0) → (40 ≤ (I p 0) → K none (N, T, R, I)) ∧ (¬ (40 ≤ (I p 0)) → 0 ≤ (I p 0) ∧ (I p 0) < 40 ∧ (∀ I5, I5 = yU I (p + 1) ((I p 0).toNat) (ynar 1 x1) → (0 ≤ (I5 p 0) ∧ (I5 p 0) < 40 ∧ (∀ I8, I8 = yU I5 (p + 2) ((I5 p 0).toNat) (ynar 1 x2) → (0 ≤ (I8 p 0) ∧ (I8 p 0) < 40 ∧ (∀ I11, I11 = yU I8 (p + 3) ((I8 p 0).toNat) (ynar 1 x3) → (∀ I12, I12 = yU I11 p 0 (yadd (I11 p 0) 1) → (K none (N, T, R, I12))))))))))) :
    yW l zSS D cy zFk z d 46 bc bs K 0 0 0 [(0, yr (some p)), (1, yi x1), (2, yi x2), (3, yi x3)] [] (N, T, R, I) := by
  refine e_12 (f_46 (pc := 0) (e := (0, 12, 0, 0, 0, 0, 0, 1)) rfl) rfl ?_
  refine e_90 zA (f_46 (pc := 1) (e := (1, 90, 4, 0, 0, 21, 884, 4)) rfl) rfl (hp.1 0 rfl) rfl rfl ?_
  refine e_62 (f_46 (pc := 4) (e := (4, 62, 56, 0, 0, 0, 0, 7)) rfl) (fun c1 => ?_) (fun c1 => ?_)
  · replace F := F.1 c1
    exact e_122 (f_46 (pc := 56) (e := (56, 122, 0, 0, 0, 0, 0, 0)) rfl) F
  · replace F := F.2 c1
    refine e_12 (f_46 (pc := 7) (e := (7, 12, 0, 0, 0, 0, 0, 8)) rfl) rfl ?_
    refine e_90 zA (f_46 (pc := 8) (e := (8, 90, 4, 0, 0, 21, 884, 11)) rfl) rfl (hp.1 0 rfl) rfl rfl ?_
    refine e_1 (f_46 (pc := 11) (e := (11, 1, 40, 0, 0, 0, 0, 13)) rfl) (v := 40) rfl ?_
    refine e_73 (f_46 (pc := 13) (e := (13, 73, 56, 0, 0, 0, 0, 16)) rfl) (fun c2 => ?_) (fun c2 => ?_)
    · replace F := F.1 c2
      exact e_122 (f_46 (pc := 56) (e := (56, 122, 0, 0, 0, 0, 0, 0)) rfl) F
    · replace F := F.2 c2
      refine e_12 (f_46 (pc := 16) (e := (16, 12, 0, 0, 0, 0, 0, 17)) rfl) rfl ?_
      refine e_90r zA (f_46 (pc := 17) (e := (17, 90, 4, 1, 3, 11, 881, 20)) rfl) rfl (hp.1 0 rfl) rfl rfl (hp.2 1 rfl) ?_
      refine e_12 (f_46 (pc := 20) (e := (20, 12, 0, 0, 0, 0, 0, 21)) rfl) rfl ?_
      refine e_90 zA (f_46 (pc := 21) (e := (21, 90, 4, 0, 0, 21, 884, 24)) rfl) rfl (hp.1 0 rfl) rfl rfl ?_
      refine e_10 (f_46 (pc := 24) (e := (24, 10, 1, 0, 0, 0, 0, 25)) rfl) rfl ?_
      obtain ⟨b3, b4, F⟩ := F
      refine e_111 (f_46 (pc := 25) (e := (25, 111, 0, 0, 0, 0, 0, 26)) rfl) rfl (hp.1 1 rfl) b3 b4 ?_
      replace F := F _ rfl
      refine e_12 (f_46 (pc := 26) (e := (26, 12, 0, 0, 0, 0, 0, 27)) rfl) rfl ?_
      refine e_90r zA (f_46 (pc := 27) (e := (27, 90, 4, 2, 3, 15, 882, 30)) rfl) rfl (hp.1 0 rfl) rfl rfl (hp.2 2 rfl) ?_
      refine e_12 (f_46 (pc := 30) (e := (30, 12, 0, 0, 0, 0, 0, 31)) rfl) rfl ?_
      refine e_90 zA (f_46 (pc := 31) (e := (31, 90, 4, 0, 0, 21, 884, 34)) rfl) rfl (hp.1 0 rfl) rfl rfl ?_
      refine e_10 (f_46 (pc := 34) (e := (34, 10, 2, 0, 0, 0, 0, 35)) rfl) rfl ?_
      obtain ⟨b6, b7, F⟩ := F
      refine e_111 (f_46 (pc := 35) (e := (35, 111, 0, 0, 0, 0, 0, 36)) rfl) rfl (hp.1 2 rfl) b6 b7 ?_
      replace F := F _ rfl
      refine e_12 (f_46 (pc := 36) (e := (36, 12, 0, 0, 0, 0, 0, 37)) rfl) rfl ?_
      refine e_90r zA (f_46 (pc := 37) (e := (37, 90, 4, 3, 3, 18, 883, 40)) rfl) rfl (hp.1 0 rfl) rfl rfl (hp.2 3 rfl) ?_
      refine e_12 (f_46 (pc := 40) (e := (40, 12, 0, 0, 0, 0, 0, 41)) rfl) rfl ?_
      refine e_90 zA (f_46 (pc := 41) (e := (41, 90, 4, 0, 0, 21, 884, 44)) rfl) rfl (hp.1 0 rfl) rfl rfl ?_
      refine e_10 (f_46 (pc := 44) (e := (44, 10, 3, 0, 0, 0, 0, 45)) rfl) rfl ?_
      obtain ⟨b9, b10, F⟩ := F
      refine e_111 (f_46 (pc := 45) (e := (45, 111, 0, 0, 0, 0, 0, 46)) rfl) rfl (hp.1 3 rfl) b9 b10 ?_
      replace F := F _ rfl
      refine e_12 (f_46 (pc := 46) (e := (46, 12, 0, 0, 0, 0, 0, 47)) rfl) rfl ?_
      refine e_50 (f_46 (pc := 47) (e := (47, 50, 0, 0, 0, 0, 0, 48)) rfl) rfl ?_
      refine e_90 zA (f_46 (pc := 48) (e := (48, 90, 4, 0, 0, 21, 884, 51)) rfl) rfl (hp.1 0 rfl) rfl rfl ?_
      refine e_0 (f_46 (pc := 51) (e := (51, 0, 1, 0, 0, 0, 0, 52)) rfl) (v := 1) rfl ?_
      refine e_30 (f_46 (pc := 52) (e := (52, 30, 0, 0, 0, 0, 0, 53)) rfl) ?_
      refine e_91 zA (f_46 (pc := 53) (e := (53, 91, 4, 0, 0, 21, 884, 56)) rfl) rfl (hp.1 0 rfl) rfl rfl trivial ?_
      replace F := F _ rfl
      exact e_122 (f_46 (pc := 56) (e := (56, 122, 0, 0, 0, 0, 0, 0)) rfl) F

/-! ChairAlley$Sentence.copyFrom(LChairAlley$Sentence;)V -/
set_option maxRecDepth 20000 in
theorem B_47_0 (hT : yLT T) (hR : yLR R) {p : Nat} (hp : yAtSentence T R p) {q : Nat} (hq : yAtSentence T R q) (F : ∀ I1, I1 = yU I p 0 (I q 0) → (∀ I2, I2 = yC I1 (q + 1) (p + 1) 40 → (∀ I3, I3 = yC I2 (q + 2) (p + 2) 40 → (∀ I4, I4 = yC I3 (q + 3) (p + 3) 40 → (K none (N, T, R, I4)))))) :
    yW l zSS D cy zFk z (d + 1) 47 bc bs K 0 0 0 [(0, yr (some p)), (1, yr (some q))] [] (N, T, R, I) := by
  refine e_12 (f_47 (pc := 0) (e := (0, 12, 0, 0, 0, 0, 0, 1)) rfl) rfl ?_
  refine e_12 (f_47 (pc := 1) (e := (1, 12, 1, 0, 0, 0, 0, 2)) rfl) rfl ?_
  refine e_90 zA (f_47 (pc := 2) (e := (2, 90, 4, 0, 0, 21, 884, 5)) rfl) rfl (hq.1 0 rfl) rfl rfl ?_
  refine e_91 zA (f_47 (pc := 5) (e := (5, 91, 4, 0, 0, 21, 884, 8)) rfl) rfl (hp.1 0 rfl) rfl rfl trivial ?_
  replace F := F _ rfl
  refine e_12 (f_47 (pc := 8) (e := (8, 12, 1, 0, 0, 0, 0, 9)) rfl) rfl ?_
  refine e_90r zA (f_47 (pc := 9) (e := (9, 90, 4, 1, 3, 11, 881, 12)) rfl) rfl (hq.1 0 rfl) rfl rfl (hq.2 1 rfl) ?_
  refine e_0 (f_47 (pc := 12) (e := (12, 0, 0, 0, 0, 0, 0, 13)) rfl) (v := 0) rfl ?_
  refine e_12 (f_47 (pc := 13) (e := (13, 12, 0, 0, 0, 0, 0, 14)) rfl) rfl ?_
  refine e_90r zA (f_47 (pc := 14) (e := (14, 90, 4, 1, 3, 11, 881, 17)) rfl) rfl (hp.1 0 rfl) rfl rfl (hp.2 1 rfl) ?_
  refine e_0 (f_47 (pc := 17) (e := (17, 0, 0, 0, 0, 0, 0, 18)) rfl) (v := 0) rfl ?_
  refine e_1 (f_47 (pc := 18) (e := (18, 1, 40, 0, 0, 0, 0, 20)) rfl) (v := 40) rfl ?_
  refine e_135 (f_47 (pc := 20) (e := (20, 135, 0, 0, 0, 25, 885, 23)) rfl) zA rfl rfl (hp.1 1 rfl) (hq.1 1 rfl) rfl rfl rfl (by decide) (Nat.succ_pos _) (Nat.le_of_ble_eq_true rfl) ?_
  replace F := F _ rfl
  refine e_12 (f_47 (pc := 23) (e := (23, 12, 1, 0, 0, 0, 0, 24)) rfl) rfl ?_
  refine e_90r zA (f_47 (pc := 24) (e := (24, 90, 4, 2, 3, 15, 882, 27)) rfl) rfl (hq.1 0 rfl) rfl rfl (hq.2 2 rfl) ?_
  refine e_0 (f_47 (pc := 27) (e := (27, 0, 0, 0, 0, 0, 0, 28)) rfl) (v := 0) rfl ?_
  refine e_12 (f_47 (pc := 28) (e := (28, 12, 0, 0, 0, 0, 0, 29)) rfl) rfl ?_
  refine e_90r zA (f_47 (pc := 29) (e := (29, 90, 4, 2, 3, 15, 882, 32)) rfl) rfl (hp.1 0 rfl) rfl rfl (hp.2 2 rfl) ?_
  refine e_0 (f_47 (pc := 32) (e := (32, 0, 0, 0, 0, 0, 0, 33)) rfl) (v := 0) rfl ?_
  refine e_1 (f_47 (pc := 33) (e := (33, 1, 40, 0, 0, 0, 0, 35)) rfl) (v := 40) rfl ?_
  refine e_135 (f_47 (pc := 35) (e := (35, 135, 0, 0, 0, 25, 885, 38)) rfl) zA rfl rfl (hp.1 2 rfl) (hq.1 2 rfl) rfl rfl rfl (by decide) (Nat.succ_pos _) (Nat.le_of_ble_eq_true rfl) ?_
  replace F := F _ rfl
  refine e_12 (f_47 (pc := 38) (e := (38, 12, 1, 0, 0, 0, 0, 39)) rfl) rfl ?_
  refine e_90r zA (f_47 (pc := 39) (e := (39, 90, 4, 3, 3, 18, 883, 42)) rfl) rfl (hq.1 0 rfl) rfl rfl (hq.2 3 rfl) ?_
  refine e_0 (f_47 (pc := 42) (e := (42, 0, 0, 0, 0, 0, 0, 43)) rfl) (v := 0) rfl ?_
  refine e_12 (f_47 (pc := 43) (e := (43, 12, 0, 0, 0, 0, 0, 44)) rfl) rfl ?_
  refine e_90r zA (f_47 (pc := 44) (e := (44, 90, 4, 3, 3, 18, 883, 47)) rfl) rfl (hp.1 0 rfl) rfl rfl (hp.2 3 rfl) ?_
  refine e_0 (f_47 (pc := 47) (e := (47, 0, 0, 0, 0, 0, 0, 48)) rfl) (v := 0) rfl ?_
  refine e_1 (f_47 (pc := 48) (e := (48, 1, 40, 0, 0, 0, 0, 50)) rfl) (v := 40) rfl ?_
  refine e_135 (f_47 (pc := 50) (e := (50, 135, 0, 0, 0, 25, 885, 53)) rfl) zA rfl rfl (hp.1 3 rfl) (hq.1 3 rfl) rfl rfl rfl (by decide) (Nat.succ_pos _) (Nat.le_of_ble_eq_true rfl) ?_
  replace F := F _ rfl
  exact e_122 (f_47 (pc := 53) (e := (53, 122, 0, 0, 0, 0, 0, 0)) rfl) F

/-! ChairAlley$Sentence.isTrueOf(LChairAlley$Land;LChairAlley$State;I)Z -/
set_option maxRecDepth 20000 in
theorem B_49_0 (hT : yLT T) (hR : yLR R) {p : Nat} (hp : yAtSentence T R p) {x3 : Int} (F : yW l zSS D cy zFk z d 49 bc bs K 0 0 6 [(0, yr (some p)), (1, yr (some 4)), (2, yr (some 16)), (3, yi x3), (4, yj 0), (6, yi 0)] [] (N, T, R, I)) :
    yW l zSS D cy zFk z d 49 bc bs K 0 0 0 [(0, yr (some p)), (1, yr (some 4)), (2, yr (some 16)), (3, yi x3)] [] (N, T, R, I) := by
  refine e_6 (f_49 (pc := 0) (e := (0, 6, 0, 0, 0, 0, 0, 1)) rfl) (v := 0) rfl ?_
  refine e_25 (f_49 (pc := 1) (e := (1, 25, 4, 0, 0, 0, 0, 3)) rfl) ?_
  refine e_0 (f_49 (pc := 3) (e := (3, 0, 0, 0, 0, 0, 0, 4)) rfl) (v := 0) rfl ?_
  refine e_21 (f_49 (pc := 4) (e := (4, 21, 6, 0, 0, 0, 0, 6)) rfl) ?_
  refine e_lo [0, 1, 2, 3, 4, 6] rfl ?_
  exact F
set_option maxRecDepth 20000 in
theorem B_49_6 (hT : yLT T) (hR : yLR R) {p : Nat} (hp : yAtSentence T R p) {x3 x4 x6 : Int} (F : ((I p 0) ≤ x6 → ((ylcmp (yland x4 1) 0) = 0 → K (some (yi 0)) (N, T, R, I)) ∧ (¬ ((ylcmp (yland x4 1) 0) = 0) → K (some (yi 1)) (N, T, R, I))) ∧ (¬ ((I p 0) ≤ x6) → (40 ≤ x6 → ((ylcmp (yland x4 1) 0) = 0 → K (some (yi 0)) (N, T, R, I)) ∧ (¬ ((ylcmp (yland x4 1) 0) = 0) → K (some (yi 1)) (N, T, R, I))) ∧ (¬ (40 ≤ x6) → 0 ≤ x6 ∧ x6 < 40 ∧ (((I (p + 1) x6.toNat) = 16 → yW l zSS D cy zFk z (d + 1) 49 bc bs K 0 0 6 [(0, yr (some p)), (1, yr (some 4)), (2, yr (some 16)), (3, yi x3), (4, yj (ylor (ylor (ylshl (ylshr x4 2) 1) (yland x4 1)) (yland (ylshr x4 1) 1))), (6, yi (yadd x6 1))] [] (N, T, R, I)) ∧ (¬ ((I (p + 1) x6.toNat) = 16) → ((I (p + 1) x6.toNat) = 17 → yW l zSS D cy zFk z (d + 1) 49 bc bs K 0 0 6 [(0, yr (some p)), (1, yr (some 4)), (2, yr (some 16)), (3, yi x3), (4, yj (ylor (ylshl (ylshr x4 2) 1) (yland (yland x4 1) (yland (ylshr x4 1) 1)))), (6, yi (yadd x6 1))] [] (N, T, R, I)) ∧ (¬ ((I (p + 1) x6.toNat) = 17) → ((I (p + 1) x6.toNat) = 18 → yW l zSS D cy zFk z (d + 1) 49 bc bs K 0 0 6 [(0, yr (some p)), (1, yr (some 4)), (2, yr (some 16)), (3, yi x3), (4, yj (ylxor x4 1)), (6, yi (yadd x6 1))] [] (N, T, R, I)) ∧ (¬ ((I (p + 1) x6.toNat) = 18) → yW l zSS D cy zFk z d 48 0 0 (fun r h' => ∃ r11 I10, r = some (yi r11) ∧ h' = (N, T, R, I10) ∧ ((r11 = 0 → yW l zSS D cy zFk z (d + 1) 49 bc bs K 0 0 6 [(0, yr (some p)), (1, yr (some 4)), (2, yr (some 16)), (3, yi x3), (4, yj (ylor (ylshl x4 1) (yi2l 0))), (6, yi (yadd x6 1))] [] (N, T, R, I10)) ∧ (¬ (r11 = 0) → yW l zSS D cy zFk z (d + 1) 49 bc bs K 0 0 6 [(0, yr (some p)), (1, yr (some 4)), (2, yr (some 16)), (3, yi x3), (4, yj (ylor (ylshl x4 1) (yi2l 1))), (6, yi (yadd x6 1))] [] (N, T, R, I10)))) 0 0 0 [(0, yr (some p)), (1, yi x6), (2, yr (some 4)), (3, yr (some 16)), (4, yi x3)] [] (N, T, R, I)))))))) :
    yW l zSS D cy zFk z (d + 1) 49 bc bs K 0 0 6 [(0, yr (some p)), (1, yr (some 4)), (2, yr (some 16)), (3, yi x3), (4, yj x4), (6, yi x6)] [] (N, T, R, I) := by
  refine e_11 (f_49 (pc := 6) (e := (6, 11, 6, 0, 0, 0, 0, 8)) rfl) rfl ?_
  refine e_12 (f_49 (pc := 8) (e := (8, 12, 0, 0, 0, 0, 0, 9)) rfl) rfl ?_
  refine e_90 zA (f_49 (pc := 9) (e := (9, 90, 4, 0, 0, 21, 884, 12)) rfl) rfl (hp.1 0 rfl) rfl rfl ?_
  refine e_73 (f_49 (pc := 12) (e := (12, 73, 142, 0, 0, 0, 0, 15)) rfl) (fun c1 => ?_) (fun c1 => ?_)
  · replace F := F.1 c1
    refine e_15 (f_49 (pc := 142) (e := (142, 15, 4, 0, 0, 0, 0, 144)) rfl) rfl ?_
    refine e_6 (f_49 (pc := 144) (e := (144, 6, 1, 0, 0, 0, 0, 145)) rfl) (v := 1) rfl ?_
    refine e_45 (f_49 (pc := 145) (e := (145, 45, 0, 0, 0, 0, 0, 146)) rfl) ?_
    refine e_6 (f_49 (pc := 146) (e := (146, 6, 0, 0, 0, 0, 0, 147)) rfl) (v := 0) rfl ?_
    refine e_55 (f_49 (pc := 147) (e := (147, 55, 0, 0, 0, 0, 0, 148)) rfl) ?_
    refine e_60 (f_49 (pc := 148) (e := (148, 60, 155, 0, 0, 0, 0, 151)) rfl) (fun c2 => ?_) (fun c2 => ?_)
    · replace F := F.1 c2
      refine e_0 (f_49 (pc := 155) (e := (155, 0, 0, 0, 0, 0, 0, 156)) rfl) (v := 0) rfl ?_
      exact e_121 (f_49 (pc := 156) (e := (156, 121, 0, 0, 0, 0, 0, 0)) rfl) (.inl rfl) F
    · replace F := F.2 c2
      refine e_0 (f_49 (pc := 151) (e := (151, 0, 1, 0, 0, 0, 0, 152)) rfl) (v := 1) rfl ?_
      refine e_80 (f_49 (pc := 152) (e := (152, 80, 156, 0, 0, 0, 0, 155)) rfl) ?_
      exact e_121 (f_49 (pc := 156) (e := (156, 121, 0, 0, 0, 0, 0, 0)) rfl) (.inr rfl) F
  · replace F := F.2 c1
    refine e_11 (f_49 (pc := 15) (e := (15, 11, 6, 0, 0, 0, 0, 17)) rfl) rfl ?_
    refine e_1 (f_49 (pc := 17) (e := (17, 1, 40, 0, 0, 0, 0, 19)) rfl) (v := 40) rfl ?_
    refine e_73 (f_49 (pc := 19) (e := (19, 73, 142, 0, 0, 0, 0, 22)) rfl) (fun c3 => ?_) (fun c3 => ?_)
    · replace F := F.1 c3
      refine e_15 (f_49 (pc := 142) (e := (142, 15, 4, 0, 0, 0, 0, 144)) rfl) rfl ?_
      refine e_6 (f_49 (pc := 144) (e := (144, 6, 1, 0, 0, 0, 0, 145)) rfl) (v := 1) rfl ?_
      refine e_45 (f_49 (pc := 145) (e := (145, 45, 0, 0, 0, 0, 0, 146)) rfl) ?_
      refine e_6 (f_49 (pc := 146) (e := (146, 6, 0, 0, 0, 0, 0, 147)) rfl) (v := 0) rfl ?_
      refine e_55 (f_49 (pc := 147) (e := (147, 55, 0, 0, 0, 0, 0, 148)) rfl) ?_
      refine e_60 (f_49 (pc := 148) (e := (148, 60, 155, 0, 0, 0, 0, 151)) rfl) (fun c4 => ?_) (fun c4 => ?_)
      · replace F := F.1 c4
        refine e_0 (f_49 (pc := 155) (e := (155, 0, 0, 0, 0, 0, 0, 156)) rfl) (v := 0) rfl ?_
        exact e_121 (f_49 (pc := 156) (e := (156, 121, 0, 0, 0, 0, 0, 0)) rfl) (.inl rfl) F
      · replace F := F.2 c4
        refine e_0 (f_49 (pc := 151) (e := (151, 0, 1, 0, 0, 0, 0, 152)) rfl) (v := 1) rfl ?_
        refine e_80 (f_49 (pc := 152) (e := (152, 80, 156, 0, 0, 0, 0, 155)) rfl) ?_
        exact e_121 (f_49 (pc := 156) (e := (156, 121, 0, 0, 0, 0, 0, 0)) rfl) (.inr rfl) F
    · replace F := F.2 c3
      refine e_15 (f_49 (pc := 22) (e := (22, 15, 4, 0, 0, 0, 0, 24)) rfl) rfl ?_
      refine e_6 (f_49 (pc := 24) (e := (24, 6, 1, 0, 0, 0, 0, 25)) rfl) (v := 1) rfl ?_
      refine e_45 (f_49 (pc := 25) (e := (25, 45, 0, 0, 0, 0, 0, 26)) rfl) ?_
      refine e_25 (f_49 (pc := 26) (e := (26, 25, 7, 0, 0, 0, 0, 28)) rfl) ?_
      refine e_15 (f_49 (pc := 28) (e := (28, 15, 4, 0, 0, 0, 0, 30)) rfl) rfl ?_
      refine e_0 (f_49 (pc := 30) (e := (30, 0, 1, 0, 0, 0, 0, 31)) rfl) (v := 1) rfl ?_
      refine e_49 (f_49 (pc := 31) (e := (31, 49, 0, 0, 0, 0, 0, 32)) rfl) ?_
      refine e_6 (f_49 (pc := 32) (e := (32, 6, 1, 0, 0, 0, 0, 33)) rfl) (v := 1) rfl ?_
      refine e_45 (f_49 (pc := 33) (e := (33, 45, 0, 0, 0, 0, 0, 34)) rfl) ?_
      refine e_25 (f_49 (pc := 34) (e := (34, 25, 9, 0, 0, 0, 0, 36)) rfl) ?_
      refine e_12 (f_49 (pc := 36) (e := (36, 12, 0, 0, 0, 0, 0, 37)) rfl) rfl ?_
      refine e_90r zA (f_49 (pc := 37) (e := (37, 90, 4, 1, 3, 11, 881, 40)) rfl) rfl (hp.1 0 rfl) rfl rfl (hp.2 1 rfl) ?_
      refine e_11 (f_49 (pc := 40) (e := (40, 11, 6, 0, 0, 0, 0, 42)) rfl) rfl ?_
      obtain ⟨b5, b6, F⟩ := F
      refine e_110 (f_49 (pc := 42) (e := (42, 110, 0, 0, 0, 0, 0, 43)) rfl) rfl (hp.1 1 rfl) b5 b6 ?_
      refine e_83 (f_49 (pc := 43) (e := (43, 83, 2147483664, 3, 2, 0, 0, 111)) rfl) (v := (I (p + 1) x6.toNat)) (low := 16) rfl ?_
      by_cases c7 : (I (p + 1) x6.toNat) = 16
      · replace F := F.1 c7
        rw [show ySw 16 (yTg zGG 2) 111 (I (p + 1) x6.toNat) = 94 from by rw [c7]; rfl]
        refine e_15 (f_49 (pc := 94) (e := (94, 15, 4, 0, 0, 0, 0, 96)) rfl) rfl ?_
        refine e_0 (f_49 (pc := 96) (e := (96, 0, 2, 0, 0, 0, 0, 97)) rfl) (v := 2) rfl ?_
        refine e_49 (f_49 (pc := 97) (e := (97, 49, 0, 0, 0, 0, 0, 98)) rfl) ?_
        refine e_0 (f_49 (pc := 98) (e := (98, 0, 1, 0, 0, 0, 0, 99)) rfl) (v := 1) rfl ?_
        refine e_48 (f_49 (pc := 99) (e := (99, 48, 0, 0, 0, 0, 0, 100)) rfl) ?_
        refine e_15 (f_49 (pc := 100) (e := (100, 15, 7, 0, 0, 0, 0, 102)) rfl) rfl ?_
        refine e_46 (f_49 (pc := 102) (e := (102, 46, 0, 0, 0, 0, 0, 103)) rfl) ?_
        refine e_15 (f_49 (pc := 103) (e := (103, 15, 9, 0, 0, 0, 0, 105)) rfl) rfl ?_
        refine e_46 (f_49 (pc := 105) (e := (105, 46, 0, 0, 0, 0, 0, 106)) rfl) ?_
        refine e_25 (f_49 (pc := 106) (e := (106, 25, 4, 0, 0, 0, 0, 108)) rfl) ?_
        refine e_80 (f_49 (pc := 108) (e := (108, 80, 136, 0, 0, 0, 0, 111)) rfl) ?_
        refine e_26 (f_49 (pc := 136) (e := (136, 26, 6, 1, 0, 0, 0, 139)) rfl) (w := 1) rfl rfl ?_
        refine e_80 (f_49 (pc := 139) (e := (139, 80, 6, 0, 0, 0, 0, 142)) rfl) ?_
        refine e_lo [0, 1, 2, 3, 4, 6] rfl ?_
        exact F
      · replace F := F.2 c7
        by_cases c8 : (I (p + 1) x6.toNat) = 17
        · replace F := F.1 c8
          rw [show ySw 16 (yTg zGG 2) 111 (I (p + 1) x6.toNat) = 77 from by rw [c8]; rfl]
          refine e_15 (f_49 (pc := 77) (e := (77, 15, 4, 0, 0, 0, 0, 79)) rfl) rfl ?_
          refine e_0 (f_49 (pc := 79) (e := (79, 0, 2, 0, 0, 0, 0, 80)) rfl) (v := 2) rfl ?_
          refine e_49 (f_49 (pc := 80) (e := (80, 49, 0, 0, 0, 0, 0, 81)) rfl) ?_
          refine e_0 (f_49 (pc := 81) (e := (81, 0, 1, 0, 0, 0, 0, 82)) rfl) (v := 1) rfl ?_
          refine e_48 (f_49 (pc := 82) (e := (82, 48, 0, 0, 0, 0, 0, 83)) rfl) ?_
          refine e_15 (f_49 (pc := 83) (e := (83, 15, 7, 0, 0, 0, 0, 85)) rfl) rfl ?_
          refine e_15 (f_49 (pc := 85) (e := (85, 15, 9, 0, 0, 0, 0, 87)) rfl) rfl ?_
          refine e_45 (f_49 (pc := 87) (e := (87, 45, 0, 0, 0, 0, 0, 88)) rfl) ?_
          refine e_46 (f_49 (pc := 88) (e := (88, 46, 0, 0, 0, 0, 0, 89)) rfl) ?_
          refine e_25 (f_49 (pc := 89) (e := (89, 25, 4, 0, 0, 0, 0, 91)) rfl) ?_
          refine e_80 (f_49 (pc := 91) (e := (91, 80, 136, 0, 0, 0, 0, 94)) rfl) ?_
          refine e_26 (f_49 (pc := 136) (e := (136, 26, 6, 1, 0, 0, 0, 139)) rfl) (w := 1) rfl rfl ?_
          refine e_80 (f_49 (pc := 139) (e := (139, 80, 6, 0, 0, 0, 0, 142)) rfl) ?_
          refine e_lo [0, 1, 2, 3, 4, 6] rfl ?_
          exact F
        · replace F := F.2 c8
          by_cases c9 : (I (p + 1) x6.toNat) = 18
          · replace F := F.1 c9
            rw [show ySw 16 (yTg zGG 2) 111 (I (p + 1) x6.toNat) = 68 from by rw [c9]; rfl]
            refine e_15 (f_49 (pc := 68) (e := (68, 15, 4, 0, 0, 0, 0, 70)) rfl) rfl ?_
            refine e_6 (f_49 (pc := 70) (e := (70, 6, 1, 0, 0, 0, 0, 71)) rfl) (v := 1) rfl ?_
            refine e_47 (f_49 (pc := 71) (e := (71, 47, 0, 0, 0, 0, 0, 72)) rfl) ?_
            refine e_25 (f_49 (pc := 72) (e := (72, 25, 4, 0, 0, 0, 0, 74)) rfl) ?_
            refine e_80 (f_49 (pc := 74) (e := (74, 80, 136, 0, 0, 0, 0, 77)) rfl) ?_
            refine e_26 (f_49 (pc := 136) (e := (136, 26, 6, 1, 0, 0, 0, 139)) rfl) (w := 1) rfl rfl ?_
            refine e_80 (f_49 (pc := 139) (e := (139, 80, 6, 0, 0, 0, 0, 142)) rfl) ?_
            refine e_lo [0, 1, 2, 3, 4, 6] rfl ?_
            exact F
          · replace F := F.2 c9
            rw [show ySw 16 (yTg zGG 2) 111 (I (p + 1) x6.toNat) = 111 from ySw_out (n := 3) rfl (by omega)]
            refine e_15 (f_49 (pc := 111) (e := (111, 15, 4, 0, 0, 0, 0, 113)) rfl) rfl ?_
            refine e_0 (f_49 (pc := 113) (e := (113, 0, 1, 0, 0, 0, 0, 114)) rfl) (v := 1) rfl ?_
            refine e_48 (f_49 (pc := 114) (e := (114, 48, 0, 0, 0, 0, 0, 115)) rfl) ?_
            refine e_12 (f_49 (pc := 115) (e := (115, 12, 0, 0, 0, 0, 0, 116)) rfl) rfl ?_
            refine e_11 (f_49 (pc := 116) (e := (116, 11, 6, 0, 0, 0, 0, 118)) rfl) rfl ?_
            refine e_12 (f_49 (pc := 118) (e := (118, 12, 1, 0, 0, 0, 0, 119)) rfl) rfl ?_
            refine e_12 (f_49 (pc := 119) (e := (119, 12, 2, 0, 0, 0, 0, 120)) rfl) rfl ?_
            refine e_10 (f_49 (pc := 120) (e := (120, 10, 3, 0, 0, 0, 0, 121)) rfl) rfl ?_
            refine e_130 (f_49 (pc := 121) (e := (121, 130, 48, 0, 4, 31, 891, 124)) rfl) zA (as := [yr (some p), yi x6, yr (some 4), yr (some 16), yi x3]) (rest := [yj _]) rfl rfl rfl rfl (Nat.le_of_ble_eq_true rfl) (Nat.le_of_ble_eq_true rfl) ⟨_, _, _, rfl, (hp.1 0 rfl)⟩ (mc := 0) (ms := 0) (Nat.zero_le _) (Nat.zero_le _) ?_
            refine e_K ?_ F
            rintro r h' ⟨r11, I10, rfl, rfl, F⟩
            refine e_60 (f_49 (pc := 124) (e := (124, 60, 131, 0, 0, 0, 0, 127)) rfl) (fun c12 => ?_) (fun c12 => ?_)
            · replace F := F.1 c12
              refine e_0 (f_49 (pc := 131) (e := (131, 0, 0, 0, 0, 0, 0, 132)) rfl) (v := 0) rfl ?_
              refine e_42 (f_49 (pc := 132) (e := (132, 42, 0, 0, 0, 0, 0, 133)) rfl) ?_
              refine e_46 (f_49 (pc := 133) (e := (133, 46, 0, 0, 0, 0, 0, 134)) rfl) ?_
              refine e_25 (f_49 (pc := 134) (e := (134, 25, 4, 0, 0, 0, 0, 136)) rfl) ?_
              refine e_26 (f_49 (pc := 136) (e := (136, 26, 6, 1, 0, 0, 0, 139)) rfl) (w := 1) rfl rfl ?_
              refine e_80 (f_49 (pc := 139) (e := (139, 80, 6, 0, 0, 0, 0, 142)) rfl) ?_
              refine e_lo [0, 1, 2, 3, 4, 6] rfl ?_
              exact F
            · replace F := F.2 c12
              refine e_0 (f_49 (pc := 127) (e := (127, 0, 1, 0, 0, 0, 0, 128)) rfl) (v := 1) rfl ?_
              refine e_80 (f_49 (pc := 128) (e := (128, 80, 132, 0, 0, 0, 0, 131)) rfl) ?_
              refine e_42 (f_49 (pc := 132) (e := (132, 42, 0, 0, 0, 0, 0, 133)) rfl) ?_
              refine e_46 (f_49 (pc := 133) (e := (133, 46, 0, 0, 0, 0, 0, 134)) rfl) ?_
              refine e_25 (f_49 (pc := 134) (e := (134, 25, 4, 0, 0, 0, 0, 136)) rfl) ?_
              refine e_26 (f_49 (pc := 136) (e := (136, 26, 6, 1, 0, 0, 0, 139)) rfl) (w := 1) rfl rfl ?_
              refine e_80 (f_49 (pc := 139) (e := (139, 80, 6, 0, 0, 0, 0, 142)) rfl) ?_
              refine e_lo [0, 1, 2, 3, 4, 6] rfl ?_
              exact F

/-! ChairAlley$Sentence.read(LChairAlley$Reader;LChairAlley$Land;)I -/
set_option maxRecDepth 20000 in
theorem B_50_0 (hT : yLT T) (hR : yLR R) {p : Nat} (hp : yAtSentence T R p) (F : ∀ I1, I1 = yU I p 0 0 → (∀ I2, I2 = yU I1 p 4 0 → (yW l zSS D cy zFk z d 52 0 0 (fun r h' => ∃ r4 I3, r = some (yi r4) ∧ h' = (N, T, R, I3) ∧ ((r4 = 0 → K (some (yi (-1))) (N, T, R, I3)) ∧ (¬ (r4 = 0) → yW l zSS D cy zFk z d 33 0 0 (fun r h' => ∃ r7 I6, r = some (yi r7) ∧ h' = (N, T, R, I6) ∧ ((r7 = 0 → K (some (yi (-1))) (N, T, R, I6)) ∧ (¬ (r7 = 0) → K (some (yi (I6 p 4))) (N, T, R, I6)))) 0 0 0 [(0, yr (some 1))] [] (N, T, R, I3)))) 0 0 0 [(0, yr (some p)), (1, yr (some 1)), (2, yr (some 4)), (3, yi 1)] [] (N, T, R, I2)))) :
    yW l zSS D cy zFk z (d + 1) 50 bc bs K 0 0 0 [(0, yr (some p)), (1, yr (some 1)), (2, yr (some 4))] [] (N, T, R, I) := by
  refine e_12 (f_50 (pc := 0) (e := (0, 12, 0, 0, 0, 0, 0, 1)) rfl) rfl ?_
  refine e_0 (f_50 (pc := 1) (e := (1, 0, 0, 0, 0, 0, 0, 2)) rfl) (v := 0) rfl ?_
  refine e_91 zA (f_50 (pc := 2) (e := (2, 91, 4, 0, 0, 21, 884, 5)) rfl) rfl (hp.1 0 rfl) rfl rfl trivial ?_
  replace F := F _ rfl
  refine e_12 (f_50 (pc := 5) (e := (5, 12, 0, 0, 0, 0, 0, 6)) rfl) rfl ?_
  refine e_0 (f_50 (pc := 6) (e := (6, 0, 0, 0, 0, 0, 0, 7)) rfl) (v := 0) rfl ?_
  refine e_91 zA (f_50 (pc := 7) (e := (7, 91, 4, 4, 0, 58, 892, 10)) rfl) rfl (hp.1 0 rfl) rfl rfl trivial ?_
  replace F := F _ rfl
  refine e_12 (f_50 (pc := 10) (e := (10, 12, 0, 0, 0, 0, 0, 11)) rfl) rfl ?_
  refine e_12 (f_50 (pc := 11) (e := (11, 12, 1, 0, 0, 0, 0, 12)) rfl) rfl ?_
  refine e_12 (f_50 (pc := 12) (e := (12, 12, 2, 0, 0, 0, 0, 13)) rfl) rfl ?_
  refine e_0 (f_50 (pc := 13) (e := (13, 0, 1, 0, 0, 0, 0, 14)) rfl) (v := 1) rfl ?_
  refine e_130 (f_50 (pc := 14) (e := (14, 130, 52, 0, 4, 61, 893, 17)) rfl) zA (as := [yr (some p), yr (some 1), yr (some 4), yi 1]) (rest := []) rfl rfl rfl rfl (Nat.le_of_ble_eq_true rfl) (Nat.le_of_ble_eq_true rfl) ⟨_, _, _, rfl, (hp.1 0 rfl)⟩ (mc := 0) (ms := 0) (Nat.zero_le _) (Nat.zero_le _) ?_
  refine e_K ?_ F
  rintro r h' ⟨r4, I3, rfl, rfl, F⟩
  refine e_60 (f_50 (pc := 17) (e := (17, 60, 34, 0, 0, 0, 0, 20)) rfl) (fun c5 => ?_) (fun c5 => ?_)
  · replace F := F.1 c5
    refine e_0 (f_50 (pc := 34) (e := (34, 0, 4294967295, 0, 0, 0, 0, 35)) rfl) (v := (-1)) rfl ?_
    exact e_120 (f_50 (pc := 35) (e := (35, 120, 0, 0, 0, 0, 0, 0)) rfl) F
  · replace F := F.2 c5
    refine e_12 (f_50 (pc := 20) (e := (20, 12, 1, 0, 0, 0, 0, 21)) rfl) rfl ?_
    refine e_130 (f_50 (pc := 21) (e := (21, 130, 33, 0, 3, 65, 894, 24)) rfl) zA (as := [yr (some 1)]) (rest := []) rfl rfl rfl rfl (Nat.le_of_ble_eq_true rfl) (Nat.le_of_ble_eq_true rfl) ⟨_, _, _, rfl, (hT 1 rfl)⟩ (mc := 0) (ms := 0) (Nat.zero_le _) (Nat.zero_le _) ?_
    refine e_K ?_ F
    rintro r h' ⟨r7, I6, rfl, rfl, F⟩
    refine e_60 (f_50 (pc := 24) (e := (24, 60, 34, 0, 0, 0, 0, 27)) rfl) (fun c8 => ?_) (fun c8 => ?_)
    · replace F := F.1 c8
      refine e_0 (f_50 (pc := 34) (e := (34, 0, 4294967295, 0, 0, 0, 0, 35)) rfl) (v := (-1)) rfl ?_
      exact e_120 (f_50 (pc := 35) (e := (35, 120, 0, 0, 0, 0, 0, 0)) rfl) F
    · replace F := F.2 c8
      refine e_12 (f_50 (pc := 27) (e := (27, 12, 0, 0, 0, 0, 0, 28)) rfl) rfl ?_
      refine e_90 zA (f_50 (pc := 28) (e := (28, 90, 4, 4, 0, 58, 892, 31)) rfl) rfl (hp.1 0 rfl) rfl rfl ?_
      refine e_80 (f_50 (pc := 31) (e := (31, 80, 35, 0, 0, 0, 0, 34)) rfl) ?_
      exact e_120 (f_50 (pc := 35) (e := (35, 120, 0, 0, 0, 0, 0, 0)) rfl) F

/-! ChairAlley$Sentence.readAll(LChairAlley$Reader;LChairAlley$Land;I)Z -/
set_option maxRecDepth 20000 in
theorem B_51_0 (hT : yLT T) (hR : yLR R) {p : Nat} (hp : yAtSentence T R p) {x3 : Int} (F : yW l zSS D cy zFk z d 53 0 0 (fun r h' => ∃ r2 I1, r = some (yi r2) ∧ h' = (N, T, R, I1) ∧ (yW l zSS D cy zFk z (d + 1) 51 bc bs K 0 0 12 [(0, yr (some p)), (1, yr (some 1)), (2, yr (some 4)), (3, yi x3), (4, yi r2), (5, yi 0)] [] (N, T, R, I1))) 0 0 0 [(0, yr (some p)), (1, yr (some 1)), (2, yr (some 4)), (3, yi x3)] [] (N, T, R, I)) :
    yW l zSS D cy zFk z (d + 1) 51 bc bs K 0 0 0 [(0, yr (some p)), (1, yr (some 1)), (2, yr (some 4)), (3, yi x3)] [] (N, T, R, I) := by
  refine e_12 (f_51 (pc := 0) (e := (0, 12, 0, 0, 0, 0, 0, 1)) rfl) rfl ?_
  refine e_12 (f_51 (pc := 1) (e := (1, 12, 1, 0, 0, 0, 0, 2)) rfl) rfl ?_
  refine e_12 (f_51 (pc := 2) (e := (2, 12, 2, 0, 0, 0, 0, 3)) rfl) rfl ?_
  refine e_10 (f_51 (pc := 3) (e := (3, 10, 3, 0, 0, 0, 0, 4)) rfl) rfl ?_
  refine e_130 (f_51 (pc := 4) (e := (4, 130, 53, 0, 4, 85, 895, 7)) rfl) zA (as := [yr (some p), yr (some 1), yr (some 4), yi x3]) (rest := []) rfl rfl rfl rfl (Nat.le_of_ble_eq_true rfl) (Nat.le_of_ble_eq_true rfl) ⟨_, _, _, rfl, (hp.1 0 rfl)⟩ (mc := 0) (ms := 0) (Nat.zero_le _) (Nat.zero_le _) ?_
  refine e_K ?_ F
  rintro r h' ⟨r2, I1, rfl, rfl, F⟩
  refine e_21 (f_51 (pc := 7) (e := (7, 21, 4, 0, 0, 0, 0, 9)) rfl) ?_
  refine e_0 (f_51 (pc := 9) (e := (9, 0, 0, 0, 0, 0, 0, 10)) rfl) (v := 0) rfl ?_
  refine e_21 (f_51 (pc := 10) (e := (10, 21, 5, 0, 0, 0, 0, 12)) rfl) ?_
  refine e_lo [0, 1, 2, 3, 4, 5] rfl ?_
  exact F
set_option maxRecDepth 20000 in
theorem B_51_12 (hT : yLT T) (hR : yLR R) {p : Nat} (hp : yAtSentence T R p) {x3 x4 x5 : Int} (F : (20 ≤ x5 → (x4 = 0 ∨ x4 = 1) ∧ K (some (yi x4)) (N, T, R, I)) ∧ (¬ (20 ≤ x5) → (x4 = 0 → (x4 = 0 ∨ x4 = 1) ∧ K (some (yi x4)) (N, T, R, I)) ∧ (¬ (x4 = 0) → yW l zSS D cy zFk z d 39 0 0 (fun r h' => ∃ r4 I3, r = some (yi r4) ∧ h' = (N, T, R, I3) ∧ ((r4 = 0 → (x4 = 0 ∨ x4 = 1) ∧ K (some (yi x4)) (N, T, R, I3)) ∧ (¬ (r4 = 0) → yW l zSS D cy zFk z d 31 0 0 (fun r h' => ∃ I6, r = none ∧ h' = (N, T, R, I6) ∧ (yW l zSS D cy zFk z d 53 0 0 (fun r h' => ∃ r8 I7, r = some (yi r8) ∧ h' = (N, T, R, I7) ∧ (yW l zSS D cy zFk z d 46 0 0 (fun r h' => ∃ I9, r = none ∧ h' = (N, T, R, I9) ∧ (yW l zSS D cy zFk z (d + 1) 51 bc bs K 0 0 12 [(0, yr (some p)), (1, yr (some 1)), (2, yr (some 4)), (3, yi x3), (4, yi r8), (5, yi (yadd x5 1))] [] (N, T, R, I9))) 0 0 0 [(0, yr (some p)), (1, yi 17), (2, yi 0), (3, yi 0)] [] (N, T, R, I7))) 0 0 0 [(0, yr (some p)), (1, yr (some 1)), (2, yr (some 4)), (3, yi x3)] [] (N, T, R, I6))) 0 0 0 [(0, yr (some 1))] [] (N, T, R, I3)))) 0 0 0 [(0, yr (some 1)), (1, yi 17), (2, yi 17)] [] (N, T, R, I)))) :
    yW l zSS D cy zFk z (d + 1) 51 bc bs K 0 0 12 [(0, yr (some p)), (1, yr (some 1)), (2, yr (some 4)), (3, yi x3), (4, yi x4), (5, yi x5)] [] (N, T, R, I) := by
  refine e_11 (f_51 (pc := 12) (e := (12, 11, 5, 0, 0, 0, 0, 14)) rfl) rfl ?_
  refine e_1 (f_51 (pc := 14) (e := (14, 1, 20, 0, 0, 0, 0, 16)) rfl) (v := 20) rfl ?_
  refine e_73 (f_51 (pc := 16) (e := (16, 73, 62, 0, 0, 0, 0, 19)) rfl) (fun c1 => ?_) (fun c1 => ?_)
  · replace F := F.1 c1
    refine e_11 (f_51 (pc := 62) (e := (62, 11, 4, 0, 0, 0, 0, 64)) rfl) rfl ?_
    exact e_121 (f_51 (pc := 64) (e := (64, 121, 0, 0, 0, 0, 0, 0)) rfl) F.1 F.2
  · replace F := F.2 c1
    refine e_11 (f_51 (pc := 19) (e := (19, 11, 4, 0, 0, 0, 0, 21)) rfl) rfl ?_
    refine e_60 (f_51 (pc := 21) (e := (21, 60, 62, 0, 0, 0, 0, 24)) rfl) (fun c2 => ?_) (fun c2 => ?_)
    · replace F := F.1 c2
      refine e_11 (f_51 (pc := 62) (e := (62, 11, 4, 0, 0, 0, 0, 64)) rfl) rfl ?_
      exact e_121 (f_51 (pc := 64) (e := (64, 121, 0, 0, 0, 0, 0, 0)) rfl) F.1 F.2
    · replace F := F.2 c2
      refine e_12 (f_51 (pc := 24) (e := (24, 12, 1, 0, 0, 0, 0, 25)) rfl) rfl ?_
      refine e_1 (f_51 (pc := 25) (e := (25, 1, 17, 0, 0, 0, 0, 27)) rfl) (v := 17) rfl ?_
      refine e_1 (f_51 (pc := 27) (e := (27, 1, 17, 0, 0, 0, 0, 29)) rfl) (v := 17) rfl ?_
      refine e_130 (f_51 (pc := 29) (e := (29, 130, 39, 0, 3, 74, 896, 32)) rfl) zA (as := [yr (some 1), yi 17, yi 17]) (rest := []) rfl rfl rfl rfl (Nat.le_of_ble_eq_true rfl) (Nat.le_of_ble_eq_true rfl) ⟨_, _, _, rfl, (hT 1 rfl)⟩ (mc := 0) (ms := 0) (Nat.zero_le _) (Nat.zero_le _) ?_
      refine e_K ?_ F
      rintro r h' ⟨r4, I3, rfl, rfl, F⟩
      refine e_60 (f_51 (pc := 32) (e := (32, 60, 62, 0, 0, 0, 0, 35)) rfl) (fun c5 => ?_) (fun c5 => ?_)
      · replace F := F.1 c5
        refine e_11 (f_51 (pc := 62) (e := (62, 11, 4, 0, 0, 0, 0, 64)) rfl) rfl ?_
        exact e_121 (f_51 (pc := 64) (e := (64, 121, 0, 0, 0, 0, 0, 0)) rfl) F.1 F.2
      · replace F := F.2 c5
        refine e_12 (f_51 (pc := 35) (e := (35, 12, 1, 0, 0, 0, 0, 36)) rfl) rfl ?_
        refine e_130 (f_51 (pc := 36) (e := (36, 130, 31, 0, 3, 78, 897, 39)) rfl) zA (as := [yr (some 1)]) (rest := []) rfl rfl rfl rfl (Nat.le_of_ble_eq_true rfl) (Nat.le_of_ble_eq_true rfl) ⟨_, _, _, rfl, (hT 1 rfl)⟩ (mc := 0) (ms := 0) (Nat.zero_le _) (Nat.zero_le _) ?_
        refine e_K ?_ F
        rintro r h' ⟨I6, rfl, rfl, F⟩
        refine e_12 (f_51 (pc := 39) (e := (39, 12, 0, 0, 0, 0, 0, 40)) rfl) rfl ?_
        refine e_12 (f_51 (pc := 40) (e := (40, 12, 1, 0, 0, 0, 0, 41)) rfl) rfl ?_
        refine e_12 (f_51 (pc := 41) (e := (41, 12, 2, 0, 0, 0, 0, 42)) rfl) rfl ?_
        refine e_10 (f_51 (pc := 42) (e := (42, 10, 3, 0, 0, 0, 0, 43)) rfl) rfl ?_
        refine e_130 (f_51 (pc := 43) (e := (43, 130, 53, 0, 4, 85, 895, 46)) rfl) zA (as := [yr (some p), yr (some 1), yr (some 4), yi x3]) (rest := []) rfl rfl rfl rfl (Nat.le_of_ble_eq_true rfl) (Nat.le_of_ble_eq_true rfl) ⟨_, _, _, rfl, (hp.1 0 rfl)⟩ (mc := 0) (ms := 0) (Nat.zero_le _) (Nat.zero_le _) ?_
        refine e_K ?_ F
        rintro r h' ⟨r8, I7, rfl, rfl, F⟩
        refine e_21 (f_51 (pc := 46) (e := (46, 21, 4, 0, 0, 0, 0, 48)) rfl) ?_
        refine e_12 (f_51 (pc := 48) (e := (48, 12, 0, 0, 0, 0, 0, 49)) rfl) rfl ?_
        refine e_1 (f_51 (pc := 49) (e := (49, 1, 17, 0, 0, 0, 0, 51)) rfl) (v := 17) rfl ?_
        refine e_0 (f_51 (pc := 51) (e := (51, 0, 0, 0, 0, 0, 0, 52)) rfl) (v := 0) rfl ?_
        refine e_0 (f_51 (pc := 52) (e := (52, 0, 0, 0, 0, 0, 0, 53)) rfl) (v := 0) rfl ?_
        refine e_130 (f_51 (pc := 53) (e := (53, 130, 46, 0, 4, 81, 898, 56)) rfl) zA (as := [yr (some p), yi 17, yi 0, yi 0]) (rest := []) rfl rfl rfl rfl (Nat.le_of_ble_eq_true rfl) (Nat.le_of_ble_eq_true rfl) ⟨_, _, _, rfl, (hp.1 0 rfl)⟩ (mc := 0) (ms := 0) (Nat.zero_le _) (Nat.zero_le _) ?_
        refine e_K ?_ F
        rintro r h' ⟨I9, rfl, rfl, F⟩
        refine e_26 (f_51 (pc := 56) (e := (56, 26, 5, 1, 0, 0, 0, 59)) rfl) (w := 1) rfl rfl ?_
        refine e_80 (f_51 (pc := 59) (e := (59, 80, 12, 0, 0, 0, 0, 62)) rfl) ?_
        refine e_lo [0, 1, 2, 3, 4, 5] rfl ?_
        exact F

/-! ChairAlley$Sentence.readCond(LChairAlley$Reader;LChairAlley$Land;I)Z -/
set_option maxRecDepth 20000 in
theorem B_52_0 (hT : yLT T) (hR : yLR R) {p : Nat} (hp : yAtSentence T R p) {x3 : Int} (F : yW l zSS D cy zFk z d 51 0 0 (fun r h' => ∃ r2 I1, r = some (yi r2) ∧ h' = (N, T, R, I1) ∧ (yW l zSS D cy zFk z (d + 1) 52 bc bs K 0 0 12 [(0, yr (some p)), (1, yr (some 1)), (2, yr (some 4)), (3, yi x3), (4, yi r2), (5, yi 0)] [] (N, T, R, I1))) 0 0 0 [(0, yr (some p)), (1, yr (some 1)), (2, yr (some 4)), (3, yi x3)] [] (N, T, R, I)) :
    yW l zSS D cy zFk z (d + 1) 52 bc bs K 0 0 0 [(0, yr (some p)), (1, yr (some 1)), (2, yr (some 4)), (3, yi x3)] [] (N, T, R, I) := by
  refine e_12 (f_52 (pc := 0) (e := (0, 12, 0, 0, 0, 0, 0, 1)) rfl) rfl ?_
  refine e_12 (f_52 (pc := 1) (e := (1, 12, 1, 0, 0, 0, 0, 2)) rfl) rfl ?_
  refine e_12 (f_52 (pc := 2) (e := (2, 12, 2, 0, 0, 0, 0, 3)) rfl) rfl ?_
  refine e_10 (f_52 (pc := 3) (e := (3, 10, 3, 0, 0, 0, 0, 4)) rfl) rfl ?_
  refine e_130 (f_52 (pc := 4) (e := (4, 130, 51, 0, 4, 71, 899, 7)) rfl) zA (as := [yr (some p), yr (some 1), yr (some 4), yi x3]) (rest := []) rfl rfl rfl rfl (Nat.le_of_ble_eq_true rfl) (Nat.le_of_ble_eq_true rfl) ⟨_, _, _, rfl, (hp.1 0 rfl)⟩ (mc := 0) (ms := 0) (Nat.zero_le _) (Nat.zero_le _) ?_
  refine e_K ?_ F
  rintro r h' ⟨r2, I1, rfl, rfl, F⟩
  refine e_21 (f_52 (pc := 7) (e := (7, 21, 4, 0, 0, 0, 0, 9)) rfl) ?_
  refine e_0 (f_52 (pc := 9) (e := (9, 0, 0, 0, 0, 0, 0, 10)) rfl) (v := 0) rfl ?_
  refine e_21 (f_52 (pc := 10) (e := (10, 21, 5, 0, 0, 0, 0, 12)) rfl) ?_
  refine e_lo [0, 1, 2, 3, 4, 5] rfl ?_
  exact F
set_option maxRecDepth 20000 in
theorem B_52_12 (hT : yLT T) (hR : yLR R) {p : Nat} (hp : yAtSentence T R p) {x3 x4 x5 : Int} (F : (20 ≤ x5 → (x4 = 0 ∨ x4 = 1) ∧ K (some (yi x4)) (N, T, R, I)) ∧ (¬ (20 ≤ x5) → (x4 = 0 → (x4 = 0 ∨ x4 = 1) ∧ K (some (yi x4)) (N, T, R, I)) ∧ (¬ (x4 = 0) → yW l zSS D cy zFk z d 39 0 0 (fun r h' => ∃ r4 I3, r = some (yi r4) ∧ h' = (N, T, R, I3) ∧ ((r4 = 0 → (x4 = 0 ∨ x4 = 1) ∧ K (some (yi x4)) (N, T, R, I3)) ∧ (¬ (r4 = 0) → yW l zSS D cy zFk z d 31 0 0 (fun r h' => ∃ I6, r = none ∧ h' = (N, T, R, I6) ∧ (yW l zSS D cy zFk z d 51 0 0 (fun r h' => ∃ r8 I7, r = some (yi r8) ∧ h' = (N, T, R, I7) ∧ (yW l zSS D cy zFk z d 46 0 0 (fun r h' => ∃ I9, r = none ∧ h' = (N, T, R, I9) ∧ (yW l zSS D cy zFk z (d + 1) 52 bc bs K 0 0 12 [(0, yr (some p)), (1, yr (some 1)), (2, yr (some 4)), (3, yi x3), (4, yi r8), (5, yi (yadd x5 1))] [] (N, T, R, I9))) 0 0 0 [(0, yr (some p)), (1, yi 16), (2, yi 0), (3, yi 0)] [] (N, T, R, I7))) 0 0 0 [(0, yr (some p)), (1, yr (some 1)), (2, yr (some 4)), (3, yi x3)] [] (N, T, R, I6))) 0 0 0 [(0, yr (some 1))] [] (N, T, R, I3)))) 0 0 0 [(0, yr (some 1)), (1, yi 16), (2, yi 16)] [] (N, T, R, I)))) :
    yW l zSS D cy zFk z (d + 1) 52 bc bs K 0 0 12 [(0, yr (some p)), (1, yr (some 1)), (2, yr (some 4)), (3, yi x3), (4, yi x4), (5, yi x5)] [] (N, T, R, I) := by
  refine e_11 (f_52 (pc := 12) (e := (12, 11, 5, 0, 0, 0, 0, 14)) rfl) rfl ?_
  refine e_1 (f_52 (pc := 14) (e := (14, 1, 20, 0, 0, 0, 0, 16)) rfl) (v := 20) rfl ?_
  refine e_73 (f_52 (pc := 16) (e := (16, 73, 62, 0, 0, 0, 0, 19)) rfl) (fun c1 => ?_) (fun c1 => ?_)
  · replace F := F.1 c1
    refine e_11 (f_52 (pc := 62) (e := (62, 11, 4, 0, 0, 0, 0, 64)) rfl) rfl ?_
    exact e_121 (f_52 (pc := 64) (e := (64, 121, 0, 0, 0, 0, 0, 0)) rfl) F.1 F.2
  · replace F := F.2 c1
    refine e_11 (f_52 (pc := 19) (e := (19, 11, 4, 0, 0, 0, 0, 21)) rfl) rfl ?_
    refine e_60 (f_52 (pc := 21) (e := (21, 60, 62, 0, 0, 0, 0, 24)) rfl) (fun c2 => ?_) (fun c2 => ?_)
    · replace F := F.1 c2
      refine e_11 (f_52 (pc := 62) (e := (62, 11, 4, 0, 0, 0, 0, 64)) rfl) rfl ?_
      exact e_121 (f_52 (pc := 64) (e := (64, 121, 0, 0, 0, 0, 0, 0)) rfl) F.1 F.2
    · replace F := F.2 c2
      refine e_12 (f_52 (pc := 24) (e := (24, 12, 1, 0, 0, 0, 0, 25)) rfl) rfl ?_
      refine e_1 (f_52 (pc := 25) (e := (25, 1, 16, 0, 0, 0, 0, 27)) rfl) (v := 16) rfl ?_
      refine e_1 (f_52 (pc := 27) (e := (27, 1, 16, 0, 0, 0, 0, 29)) rfl) (v := 16) rfl ?_
      refine e_130 (f_52 (pc := 29) (e := (29, 130, 39, 0, 3, 74, 896, 32)) rfl) zA (as := [yr (some 1), yi 16, yi 16]) (rest := []) rfl rfl rfl rfl (Nat.le_of_ble_eq_true rfl) (Nat.le_of_ble_eq_true rfl) ⟨_, _, _, rfl, (hT 1 rfl)⟩ (mc := 0) (ms := 0) (Nat.zero_le _) (Nat.zero_le _) ?_
      refine e_K ?_ F
      rintro r h' ⟨r4, I3, rfl, rfl, F⟩
      refine e_60 (f_52 (pc := 32) (e := (32, 60, 62, 0, 0, 0, 0, 35)) rfl) (fun c5 => ?_) (fun c5 => ?_)
      · replace F := F.1 c5
        refine e_11 (f_52 (pc := 62) (e := (62, 11, 4, 0, 0, 0, 0, 64)) rfl) rfl ?_
        exact e_121 (f_52 (pc := 64) (e := (64, 121, 0, 0, 0, 0, 0, 0)) rfl) F.1 F.2
      · replace F := F.2 c5
        refine e_12 (f_52 (pc := 35) (e := (35, 12, 1, 0, 0, 0, 0, 36)) rfl) rfl ?_
        refine e_130 (f_52 (pc := 36) (e := (36, 130, 31, 0, 3, 78, 897, 39)) rfl) zA (as := [yr (some 1)]) (rest := []) rfl rfl rfl rfl (Nat.le_of_ble_eq_true rfl) (Nat.le_of_ble_eq_true rfl) ⟨_, _, _, rfl, (hT 1 rfl)⟩ (mc := 0) (ms := 0) (Nat.zero_le _) (Nat.zero_le _) ?_
        refine e_K ?_ F
        rintro r h' ⟨I6, rfl, rfl, F⟩
        refine e_12 (f_52 (pc := 39) (e := (39, 12, 0, 0, 0, 0, 0, 40)) rfl) rfl ?_
        refine e_12 (f_52 (pc := 40) (e := (40, 12, 1, 0, 0, 0, 0, 41)) rfl) rfl ?_
        refine e_12 (f_52 (pc := 41) (e := (41, 12, 2, 0, 0, 0, 0, 42)) rfl) rfl ?_
        refine e_10 (f_52 (pc := 42) (e := (42, 10, 3, 0, 0, 0, 0, 43)) rfl) rfl ?_
        refine e_130 (f_52 (pc := 43) (e := (43, 130, 51, 0, 4, 71, 899, 46)) rfl) zA (as := [yr (some p), yr (some 1), yr (some 4), yi x3]) (rest := []) rfl rfl rfl rfl (Nat.le_of_ble_eq_true rfl) (Nat.le_of_ble_eq_true rfl) ⟨_, _, _, rfl, (hp.1 0 rfl)⟩ (mc := 0) (ms := 0) (Nat.zero_le _) (Nat.zero_le _) ?_
        refine e_K ?_ F
        rintro r h' ⟨r8, I7, rfl, rfl, F⟩
        refine e_21 (f_52 (pc := 46) (e := (46, 21, 4, 0, 0, 0, 0, 48)) rfl) ?_
        refine e_12 (f_52 (pc := 48) (e := (48, 12, 0, 0, 0, 0, 0, 49)) rfl) rfl ?_
        refine e_1 (f_52 (pc := 49) (e := (49, 1, 16, 0, 0, 0, 0, 51)) rfl) (v := 16) rfl ?_
        refine e_0 (f_52 (pc := 51) (e := (51, 0, 0, 0, 0, 0, 0, 52)) rfl) (v := 0) rfl ?_
        refine e_0 (f_52 (pc := 52) (e := (52, 0, 0, 0, 0, 0, 0, 53)) rfl) (v := 0) rfl ?_
        refine e_130 (f_52 (pc := 53) (e := (53, 130, 46, 0, 4, 81, 898, 56)) rfl) zA (as := [yr (some p), yi 16, yi 0, yi 0]) (rest := []) rfl rfl rfl rfl (Nat.le_of_ble_eq_true rfl) (Nat.le_of_ble_eq_true rfl) ⟨_, _, _, rfl, (hp.1 0 rfl)⟩ (mc := 0) (ms := 0) (Nat.zero_le _) (Nat.zero_le _) ?_
        refine e_K ?_ F
        rintro r h' ⟨I9, rfl, rfl, F⟩
        refine e_26 (f_52 (pc := 56) (e := (56, 26, 5, 1, 0, 0, 0, 59)) rfl) (w := 1) rfl rfl ?_
        refine e_80 (f_52 (pc := 59) (e := (59, 80, 12, 0, 0, 0, 0, 62)) rfl) ?_
        refine e_lo [0, 1, 2, 3, 4, 5] rfl ?_
        exact F

/-! ChairAlley$Sentence.readOne(LChairAlley$Reader;LChairAlley$Land;I)Z -/
set_option maxRecDepth 20000 in
theorem B_53_0 (hT : yLT T) (hR : yLR R) {p : Nat} (hp : yAtSentence T R p) {x3 : Int} (F : yW l zSS D cy zFk z d 38 0 0 (fun r h' => ∃ r2 I1, r = some (yi r2) ∧ h' = (N, T, R, I1) ∧ (yW l zSS D cy zFk z d 39 0 0 (fun r h' => ∃ r4 I3, r = some (yi r4) ∧ h' = (N, T, R, I3) ∧ ((r4 ≠ 0 → yW l zSS D cy zFk z (d + 1) 53 bc bs K 0 0 41 [(0, yr (some p)), (1, yr (some 1)), (2, yr (some 4)), (3, yi x3), (4, yi r2)] [] (N, T, R, I3)) ∧ (¬ (r4 ≠ 0) → yW l zSS D cy zFk z d 39 0 0 (fun r h' => ∃ r7 I6, r = some (yi r7) ∧ h' = (N, T, R, I6) ∧ ((r7 ≠ 0 → yW l zSS D cy zFk z (d + 1) 53 bc bs K 0 0 41 [(0, yr (some p)), (1, yr (some 1)), (2, yr (some 4)), (3, yi x3), (4, yi r2)] [] (N, T, R, I6)) ∧ (¬ (r7 ≠ 0) → yW l zSS D cy zFk z d 39 0 0 (fun r h' => ∃ r10 I9, r = some (yi r10) ∧ h' = (N, T, R, I9) ∧ ((r10 = 0 → (r2 ≠ 0 → yW l zSS D cy zFk z (d + 1) 53 bc bs K 0 0 64 [(0, yr (some p)), (1, yr (some 1)), (2, yr (some 4)), (3, yi x3), (4, yi r2)] [] (N, T, R, I9)) ∧ (¬ (r2 ≠ 0) → yW l zSS D cy zFk z d 34 0 0 (fun r h' => ∃ r14 I13, r = some (yi r14) ∧ h' = (N, T, R, I13) ∧ ((r14 = 0 ∨ r14 = 1) ∧ K (some (yi r14)) (N, T, R, I13))) 0 0 0 [(0, yr (some 1)), (1, yi 1)] [] (N, T, R, I9))) ∧ (¬ (r10 = 0) → yW l zSS D cy zFk z (d + 1) 53 bc bs K 0 0 41 [(0, yr (some p)), (1, yr (some 1)), (2, yr (some 4)), (3, yi x3), (4, yi r2)] [] (N, T, R, I9)))) 0 0 0 [(0, yr (some 1)), (1, yi 7), (2, yi 7)] [] (N, T, R, I6)))) 0 0 0 [(0, yr (some 1)), (1, yi 9), (2, yi 11)] [] (N, T, R, I3)))) 0 0 0 [(0, yr (some 1)), (1, yi 18), (2, yi 23)] [] (N, T, R, I1))) 0 0 0 [(0, yr (some 1)), (1, yi 40)] [] (N, T, R, I)) :
    yW l zSS D cy zFk z (d + 1) 53 bc bs K 0 0 0 [(0, yr (some p)), (1, yr (some 1)), (2, yr (some 4)), (3, yi x3)] [] (N, T, R, I) := by
  refine e_12 (f_53 (pc := 0) (e := (0, 12, 1, 0, 0, 0, 0, 1)) rfl) rfl ?_
  refine e_1 (f_53 (pc := 1) (e := (1, 1, 40, 0, 0, 0, 0, 3)) rfl) (v := 40) rfl ?_
  refine e_130 (f_53 (pc := 3) (e := (3, 130, 38, 0, 3, 88, 900, 6)) rfl) zA (as := [yr (some 1), yi 40]) (rest := []) rfl rfl rfl rfl (Nat.le_of_ble_eq_true rfl) (Nat.le_of_ble_eq_true rfl) ⟨_, _, _, rfl, (hT 1 rfl)⟩ (mc := 0) (ms := 0) (Nat.zero_le _) (Nat.zero_le _) ?_
  refine e_K ?_ F
  rintro r h' ⟨r2, I1, rfl, rfl, F⟩
  refine e_21 (f_53 (pc := 6) (e := (6, 21, 4, 0, 0, 0, 0, 8)) rfl) ?_
  refine e_12 (f_53 (pc := 8) (e := (8, 12, 1, 0, 0, 0, 0, 9)) rfl) rfl ?_
  refine e_1 (f_53 (pc := 9) (e := (9, 1, 18, 0, 0, 0, 0, 11)) rfl) (v := 18) rfl ?_
  refine e_1 (f_53 (pc := 11) (e := (11, 1, 23, 0, 0, 0, 0, 13)) rfl) (v := 23) rfl ?_
  refine e_130 (f_53 (pc := 13) (e := (13, 130, 39, 0, 3, 74, 896, 16)) rfl) zA (as := [yr (some 1), yi 18, yi 23]) (rest := []) rfl rfl rfl rfl (Nat.le_of_ble_eq_true rfl) (Nat.le_of_ble_eq_true rfl) ⟨_, _, _, rfl, (hT 1 rfl)⟩ (mc := 0) (ms := 0) (Nat.zero_le _) (Nat.zero_le _) ?_
  refine e_K ?_ F
  rintro r h' ⟨r4, I3, rfl, rfl, F⟩
  refine e_61 (f_53 (pc := 16) (e := (16, 61, 41, 0, 0, 0, 0, 19)) rfl) (fun c5 => ?_) (fun c5 => ?_)
  · replace F := F.1 c5
    refine e_lo [0, 1, 2, 3, 4] rfl ?_
    exact F
  · replace F := F.2 c5
    refine e_12 (f_53 (pc := 19) (e := (19, 12, 1, 0, 0, 0, 0, 20)) rfl) rfl ?_
    refine e_1 (f_53 (pc := 20) (e := (20, 1, 9, 0, 0, 0, 0, 22)) rfl) (v := 9) rfl ?_
    refine e_1 (f_53 (pc := 22) (e := (22, 1, 11, 0, 0, 0, 0, 24)) rfl) (v := 11) rfl ?_
    refine e_130 (f_53 (pc := 24) (e := (24, 130, 39, 0, 3, 74, 896, 27)) rfl) zA (as := [yr (some 1), yi 9, yi 11]) (rest := []) rfl rfl rfl rfl (Nat.le_of_ble_eq_true rfl) (Nat.le_of_ble_eq_true rfl) ⟨_, _, _, rfl, (hT 1 rfl)⟩ (mc := 0) (ms := 0) (Nat.zero_le _) (Nat.zero_le _) ?_
    refine e_K ?_ F
    rintro r h' ⟨r7, I6, rfl, rfl, F⟩
    refine e_61 (f_53 (pc := 27) (e := (27, 61, 41, 0, 0, 0, 0, 30)) rfl) (fun c8 => ?_) (fun c8 => ?_)
    · replace F := F.1 c8
      refine e_lo [0, 1, 2, 3, 4] rfl ?_
      exact F
    · replace F := F.2 c8
      refine e_12 (f_53 (pc := 30) (e := (30, 12, 1, 0, 0, 0, 0, 31)) rfl) rfl ?_
      refine e_1 (f_53 (pc := 31) (e := (31, 1, 7, 0, 0, 0, 0, 33)) rfl) (v := 7) rfl ?_
      refine e_1 (f_53 (pc := 33) (e := (33, 1, 7, 0, 0, 0, 0, 35)) rfl) (v := 7) rfl ?_
      refine e_130 (f_53 (pc := 35) (e := (35, 130, 39, 0, 3, 74, 896, 38)) rfl) zA (as := [yr (some 1), yi 7, yi 7]) (rest := []) rfl rfl rfl rfl (Nat.le_of_ble_eq_true rfl) (Nat.le_of_ble_eq_true rfl) ⟨_, _, _, rfl, (hT 1 rfl)⟩ (mc := 0) (ms := 0) (Nat.zero_le _) (Nat.zero_le _) ?_
      refine e_K ?_ F
      rintro r h' ⟨r10, I9, rfl, rfl, F⟩
      refine e_60 (f_53 (pc := 38) (e := (38, 60, 45, 0, 0, 0, 0, 41)) rfl) (fun c11 => ?_) (fun c11 => ?_)
      · replace F := F.1 c11
        refine e_0 (f_53 (pc := 45) (e := (45, 0, 0, 0, 0, 0, 0, 46)) rfl) (v := 0) rfl ?_
        refine e_21 (f_53 (pc := 46) (e := (46, 21, 5, 0, 0, 0, 0, 48)) rfl) ?_
        refine e_11 (f_53 (pc := 48) (e := (48, 11, 4, 0, 0, 0, 0, 50)) rfl) rfl ?_
        refine e_61 (f_53 (pc := 50) (e := (50, 61, 64, 0, 0, 0, 0, 53)) rfl) (fun c12 => ?_) (fun c12 => ?_)
        · replace F := F.1 c12
          refine e_lo [0, 1, 2, 3, 4] rfl ?_
          exact F
        · replace F := F.2 c12
          refine e_11 (f_53 (pc := 53) (e := (53, 11, 5, 0, 0, 0, 0, 55)) rfl) rfl ?_
          refine e_61 (f_53 (pc := 55) (e := (55, 61, 64, 0, 0, 0, 0, 58)) rfl) (fun g => absurd g (by decide)) (fun _ => ?_)
          refine e_12 (f_53 (pc := 58) (e := (58, 12, 1, 0, 0, 0, 0, 59)) rfl) rfl ?_
          refine e_0 (f_53 (pc := 59) (e := (59, 0, 1, 0, 0, 0, 0, 60)) rfl) (v := 1) rfl ?_
          refine e_130 (f_53 (pc := 60) (e := (60, 130, 34, 0, 3, 92, 901, 63)) rfl) zA (as := [yr (some 1), yi 1]) (rest := []) rfl rfl rfl rfl (Nat.le_of_ble_eq_true rfl) (Nat.le_of_ble_eq_true rfl) ⟨_, _, _, rfl, (hT 1 rfl)⟩ (mc := 0) (ms := 0) (Nat.zero_le _) (Nat.zero_le _) ?_
          refine e_K ?_ F
          rintro r h' ⟨r14, I13, rfl, rfl, F⟩
          exact e_121 (f_53 (pc := 63) (e := (63, 121, 0, 0, 0, 0, 0, 64)) rfl) F.1 F.2
      · replace F := F.2 c11
        refine e_lo [0, 1, 2, 3, 4] rfl ?_
        exact F
set_option maxRecDepth 20000 in
theorem B_53_41 (hT : yLT T) (hR : yLR R) {p : Nat} (hp : yAtSentence T R p) {x3 x4 : Int} (F : (x4 ≠ 0 → yW l zSS D cy zFk z d 53 bc bs K 0 0 64 [(0, yr (some p)), (1, yr (some 1)), (2, yr (some 4)), (3, yi x3), (4, yi x4)] [] (N, T, R, I)) ∧ (¬ (x4 ≠ 0) → yW l zSS D cy zFk z d 53 bc bs K 0 0 64 [(0, yr (some p)), (1, yr (some 1)), (2, yr (some 4)), (3, yi x3), (4, yi x4)] [] (N, T, R, I))) :
    yW l zSS D cy zFk z d 53 bc bs K 0 0 41 [(0, yr (some p)), (1, yr (some 1)), (2, yr (some 4)), (3, yi x3), (4, yi x4)] [] (N, T, R, I) := by
  refine e_0 (f_53 (pc := 41) (e := (41, 0, 1, 0, 0, 0, 0, 42)) rfl) (v := 1) rfl ?_
  refine e_80 (f_53 (pc := 42) (e := (42, 80, 46, 0, 0, 0, 0, 45)) rfl) ?_
  refine e_21 (f_53 (pc := 46) (e := (46, 21, 5, 0, 0, 0, 0, 48)) rfl) ?_
  refine e_11 (f_53 (pc := 48) (e := (48, 11, 4, 0, 0, 0, 0, 50)) rfl) rfl ?_
  refine e_61 (f_53 (pc := 50) (e := (50, 61, 64, 0, 0, 0, 0, 53)) rfl) (fun c1 => ?_) (fun c1 => ?_)
  · replace F := F.1 c1
    refine e_lo [0, 1, 2, 3, 4] rfl ?_
    exact F
  · replace F := F.2 c1
    refine e_11 (f_53 (pc := 53) (e := (53, 11, 5, 0, 0, 0, 0, 55)) rfl) rfl ?_
    refine e_61 (f_53 (pc := 55) (e := (55, 61, 64, 0, 0, 0, 0, 58)) rfl) (fun _ => ?_) (fun g => absurd (by decide) g)
    refine e_lo [0, 1, 2, 3, 4] rfl ?_
    exact F
set_option maxRecDepth 20000 in
theorem B_53_64 (hT : yLT T) (hR : yLR R) {p : Nat} (hp : yAtSentence T R p) {x3 x4 : Int} (F : (20 ≤ (I p 4) → yW l zSS D cy zFk z (d + 1) 53 bc bs K 0 0 79 [(1, yr (some 1))] [] (N, T, R, I)) ∧ (¬ (20 ≤ (I p 4)) → (x3 ≤ 8 → ∀ I3, I3 = yU I p 4 (yadd (I p 4) 1) → (yW l zSS D cy zFk z d 31 0 0 (fun r h' => ∃ I4, r = none ∧ h' = (N, T, R, I4) ∧ ((x4 = 0 → ((I3 1 6) ≠ 18 → yW l zSS D cy zFk z d 54 0 0 (fun r h' => ∃ r8 I7, r = some (yi r8) ∧ h' = (N, T, R, I7) ∧ ((r8 = 0 ∨ r8 = 1) ∧ K (some (yi r8)) (N, T, R, I7))) 0 0 0 [(0, yr (some p)), (1, yr (some 1)), (2, yr (some 4)), (3, yi (I3 1 6))] [] (N, T, R, I4)) ∧ (¬ ((I3 1 6) ≠ 18) → yW l zSS D cy zFk z d 53 0 0 (fun r h' => ∃ r10 I9, r = some (yi r10) ∧ h' = (N, T, R, I9) ∧ (yW l zSS D cy zFk z d 46 0 0 (fun r h' => ∃ I11, r = none ∧ h' = (N, T, R, I11) ∧ ((r10 = 0 ∨ r10 = 1) ∧ K (some (yi r10)) (N, T, R, I11))) 0 0 0 [(0, yr (some p)), (1, yi 18), (2, yi 0), (3, yi 0)] [] (N, T, R, I9))) 0 0 0 [(0, yr (some p)), (1, yr (some 1)), (2, yr (some 4)), (3, yi (yadd x3 1))] [] (N, T, R, I4))) ∧ (¬ (x4 = 0) → yW l zSS D cy zFk z d 52 0 0 (fun r h' => ∃ r13 I12, r = some (yi r13) ∧ h' = (N, T, R, I12) ∧ ((r13 = 0 → yW l zSS D cy zFk z (d + 1) 53 bc bs K 0 0 135 [] [] (N, T, R, I12)) ∧ (¬ (r13 = 0) → yW l zSS D cy zFk z d 43 0 0 (fun r h' => ∃ r16 I15, r = some (yi r16) ∧ h' = (N, T, R, I15) ∧ ((r16 = 0 → yW l zSS D cy zFk z (d + 1) 53 bc bs K 0 0 135 [] [] (N, T, R, I15)) ∧ (¬ (r16 = 0) → K (some (yi 1)) (N, T, R, I15)))) 0 0 0 [(0, yr (some 1)), (1, yi 41)] [] (N, T, R, I12)))) 0 0 0 [(0, yr (some p)), (1, yr (some 1)), (2, yr (some 4)), (3, yi (yadd x3 1))] [] (N, T, R, I4)))) 0 0 0 [(0, yr (some 1))] [] (N, T, R, I3))) ∧ (¬ (x3 ≤ 8) → yW l zSS D cy zFk z (d + 1) 53 bc bs K 0 0 79 [(1, yr (some 1))] [] (N, T, R, I)))) :
    yW l zSS D cy zFk z (d + 1) 53 bc bs K 0 0 64 [(0, yr (some p)), (1, yr (some 1)), (2, yr (some 4)), (3, yi x3), (4, yi x4)] [] (N, T, R, I) := by
  refine e_12 (f_53 (pc := 64) (e := (64, 12, 0, 0, 0, 0, 0, 65)) rfl) rfl ?_
  refine e_90 zA (f_53 (pc := 65) (e := (65, 90, 4, 4, 0, 58, 892, 68)) rfl) rfl (hp.1 0 rfl) rfl rfl ?_
  refine e_1 (f_53 (pc := 68) (e := (68, 1, 20, 0, 0, 0, 0, 70)) rfl) (v := 20) rfl ?_
  refine e_73 (f_53 (pc := 70) (e := (70, 73, 79, 0, 0, 0, 0, 73)) rfl) (fun c1 => ?_) (fun c1 => ?_)
  · replace F := F.1 c1
    refine e_lo [1] rfl ?_
    exact F
  · replace F := F.2 c1
    refine e_10 (f_53 (pc := 73) (e := (73, 10, 3, 0, 0, 0, 0, 74)) rfl) rfl ?_
    refine e_1 (f_53 (pc := 74) (e := (74, 1, 8, 0, 0, 0, 0, 76)) rfl) (v := 8) rfl ?_
    refine e_75 (f_53 (pc := 76) (e := (76, 75, 85, 0, 0, 0, 0, 79)) rfl) (fun c2 => ?_) (fun c2 => ?_)
    · replace F := F.1 c2
      refine e_12 (f_53 (pc := 85) (e := (85, 12, 0, 0, 0, 0, 0, 86)) rfl) rfl ?_
      refine e_50 (f_53 (pc := 86) (e := (86, 50, 0, 0, 0, 0, 0, 87)) rfl) rfl ?_
      refine e_90 zA (f_53 (pc := 87) (e := (87, 90, 4, 4, 0, 58, 892, 90)) rfl) rfl (hp.1 0 rfl) rfl rfl ?_
      refine e_0 (f_53 (pc := 90) (e := (90, 0, 1, 0, 0, 0, 0, 91)) rfl) (v := 1) rfl ?_
      refine e_30 (f_53 (pc := 91) (e := (91, 30, 0, 0, 0, 0, 0, 92)) rfl) ?_
      refine e_91 zA (f_53 (pc := 92) (e := (92, 91, 4, 4, 0, 58, 892, 95)) rfl) rfl (hp.1 0 rfl) rfl rfl trivial ?_
      replace F := F _ rfl
      refine e_12 (f_53 (pc := 95) (e := (95, 12, 1, 0, 0, 0, 0, 96)) rfl) rfl ?_
      refine e_90 zA (f_53 (pc := 96) (e := (96, 90, 3, 6, 0, 95, 902, 99)) rfl) rfl (hT 1 rfl) rfl rfl ?_
      refine e_21 (f_53 (pc := 99) (e := (99, 21, 6, 0, 0, 0, 0, 101)) rfl) ?_
      refine e_12 (f_53 (pc := 101) (e := (101, 12, 1, 0, 0, 0, 0, 102)) rfl) rfl ?_
      refine e_130 (f_53 (pc := 102) (e := (102, 130, 31, 0, 3, 78, 897, 105)) rfl) zA (as := [yr (some 1)]) (rest := []) rfl rfl rfl rfl (Nat.le_of_ble_eq_true rfl) (Nat.le_of_ble_eq_true rfl) ⟨_, _, _, rfl, (hT 1 rfl)⟩ (mc := 0) (ms := 0) (Nat.zero_le _) (Nat.zero_le _) ?_
      refine e_K ?_ F
      rintro r h' ⟨I4, rfl, rfl, F⟩
      refine e_11 (f_53 (pc := 105) (e := (105, 11, 4, 0, 0, 0, 0, 107)) rfl) rfl ?_
      refine e_60 (f_53 (pc := 107) (e := (107, 60, 137, 0, 0, 0, 0, 110)) rfl) (fun c5 => ?_) (fun c5 => ?_)
      · replace F := F.1 c5
        refine e_11 (f_53 (pc := 137) (e := (137, 11, 6, 0, 0, 0, 0, 139)) rfl) rfl ?_
        refine e_1 (f_53 (pc := 139) (e := (139, 1, 18, 0, 0, 0, 0, 141)) rfl) (v := 18) rfl ?_
        refine e_71 (f_53 (pc := 141) (e := (141, 71, 166, 0, 0, 0, 0, 144)) rfl) (fun c6 => ?_) (fun c6 => ?_)
        · replace F := F.1 c6
          refine e_12 (f_53 (pc := 166) (e := (166, 12, 0, 0, 0, 0, 0, 167)) rfl) rfl ?_
          refine e_12 (f_53 (pc := 167) (e := (167, 12, 1, 0, 0, 0, 0, 168)) rfl) rfl ?_
          refine e_12 (f_53 (pc := 168) (e := (168, 12, 2, 0, 0, 0, 0, 169)) rfl) rfl ?_
          refine e_11 (f_53 (pc := 169) (e := (169, 11, 6, 0, 0, 0, 0, 171)) rfl) rfl ?_
          refine e_130 (f_53 (pc := 171) (e := (171, 130, 54, 0, 4, 101, 904, 174)) rfl) zA (as := [yr (some p), yr (some 1), yr (some 4), yi _]) (rest := []) rfl rfl rfl rfl (Nat.le_of_ble_eq_true rfl) (Nat.le_of_ble_eq_true rfl) ⟨_, _, _, rfl, (hp.1 0 rfl)⟩ (mc := 0) (ms := 0) (Nat.zero_le _) (Nat.zero_le _) ?_
          refine e_K ?_ F
          rintro r h' ⟨r8, I7, rfl, rfl, F⟩
          exact e_121 (f_53 (pc := 174) (e := (174, 121, 0, 0, 0, 0, 0, 0)) rfl) F.1 F.2
        · replace F := F.2 c6
          refine e_12 (f_53 (pc := 144) (e := (144, 12, 0, 0, 0, 0, 0, 145)) rfl) rfl ?_
          refine e_12 (f_53 (pc := 145) (e := (145, 12, 1, 0, 0, 0, 0, 146)) rfl) rfl ?_
          refine e_12 (f_53 (pc := 146) (e := (146, 12, 2, 0, 0, 0, 0, 147)) rfl) rfl ?_
          refine e_10 (f_53 (pc := 147) (e := (147, 10, 3, 0, 0, 0, 0, 148)) rfl) rfl ?_
          refine e_0 (f_53 (pc := 148) (e := (148, 0, 1, 0, 0, 0, 0, 149)) rfl) (v := 1) rfl ?_
          refine e_30 (f_53 (pc := 149) (e := (149, 30, 0, 0, 0, 0, 0, 150)) rfl) ?_
          refine e_130 (f_53 (pc := 150) (e := (150, 130, 53, 0, 4, 85, 895, 153)) rfl) zA (as := [yr (some p), yr (some 1), yr (some 4), yi _]) (rest := []) rfl rfl rfl rfl (Nat.le_of_ble_eq_true rfl) (Nat.le_of_ble_eq_true rfl) ⟨_, _, _, rfl, (hp.1 0 rfl)⟩ (mc := 0) (ms := 0) (Nat.zero_le _) (Nat.zero_le _) ?_
          refine e_K ?_ F
          rintro r h' ⟨r10, I9, rfl, rfl, F⟩
          refine e_21 (f_53 (pc := 153) (e := (153, 21, 7, 0, 0, 0, 0, 155)) rfl) ?_
          refine e_12 (f_53 (pc := 155) (e := (155, 12, 0, 0, 0, 0, 0, 156)) rfl) rfl ?_
          refine e_1 (f_53 (pc := 156) (e := (156, 1, 18, 0, 0, 0, 0, 158)) rfl) (v := 18) rfl ?_
          refine e_0 (f_53 (pc := 158) (e := (158, 0, 0, 0, 0, 0, 0, 159)) rfl) (v := 0) rfl ?_
          refine e_0 (f_53 (pc := 159) (e := (159, 0, 0, 0, 0, 0, 0, 160)) rfl) (v := 0) rfl ?_
          refine e_130 (f_53 (pc := 160) (e := (160, 130, 46, 0, 4, 81, 898, 163)) rfl) zA (as := [yr (some p), yi 18, yi 0, yi 0]) (rest := []) rfl rfl rfl rfl (Nat.le_of_ble_eq_true rfl) (Nat.le_of_ble_eq_true rfl) ⟨_, _, _, rfl, (hp.1 0 rfl)⟩ (mc := 0) (ms := 0) (Nat.zero_le _) (Nat.zero_le _) ?_
          refine e_K ?_ F
          rintro r h' ⟨I11, rfl, rfl, F⟩
          refine e_11 (f_53 (pc := 163) (e := (163, 11, 7, 0, 0, 0, 0, 165)) rfl) rfl ?_
          exact e_121 (f_53 (pc := 165) (e := (165, 121, 0, 0, 0, 0, 0, 166)) rfl) F.1 F.2
      · replace F := F.2 c5
        refine e_12 (f_53 (pc := 110) (e := (110, 12, 0, 0, 0, 0, 0, 111)) rfl) rfl ?_
        refine e_12 (f_53 (pc := 111) (e := (111, 12, 1, 0, 0, 0, 0, 112)) rfl) rfl ?_
        refine e_12 (f_53 (pc := 112) (e := (112, 12, 2, 0, 0, 0, 0, 113)) rfl) rfl ?_
        refine e_10 (f_53 (pc := 113) (e := (113, 10, 3, 0, 0, 0, 0, 114)) rfl) rfl ?_
        refine e_0 (f_53 (pc := 114) (e := (114, 0, 1, 0, 0, 0, 0, 115)) rfl) (v := 1) rfl ?_
        refine e_30 (f_53 (pc := 115) (e := (115, 30, 0, 0, 0, 0, 0, 116)) rfl) ?_
        refine e_130 (f_53 (pc := 116) (e := (116, 130, 52, 0, 4, 61, 893, 119)) rfl) zA (as := [yr (some p), yr (some 1), yr (some 4), yi _]) (rest := []) rfl rfl rfl rfl (Nat.le_of_ble_eq_true rfl) (Nat.le_of_ble_eq_true rfl) ⟨_, _, _, rfl, (hp.1 0 rfl)⟩ (mc := 0) (ms := 0) (Nat.zero_le _) (Nat.zero_le _) ?_
        refine e_K ?_ F
        rintro r h' ⟨r13, I12, rfl, rfl, F⟩
        refine e_60 (f_53 (pc := 119) (e := (119, 60, 135, 0, 0, 0, 0, 122)) rfl) (fun c14 => ?_) (fun c14 => ?_)
        · replace F := F.1 c14
          refine e_lo [] rfl ?_
          exact F
        · replace F := F.2 c14
          refine e_12 (f_53 (pc := 122) (e := (122, 12, 1, 0, 0, 0, 0, 123)) rfl) rfl ?_
          refine e_1 (f_53 (pc := 123) (e := (123, 1, 41, 0, 0, 0, 0, 125)) rfl) (v := 41) rfl ?_
          refine e_130 (f_53 (pc := 125) (e := (125, 130, 43, 0, 3, 98, 903, 128)) rfl) zA (as := [yr (some 1), yi 41]) (rest := []) rfl rfl rfl rfl (Nat.le_of_ble_eq_true rfl) (Nat.le_of_ble_eq_true rfl) ⟨_, _, _, rfl, (hT 1 rfl)⟩ (mc := 0) (ms := 0) (Nat.zero_le _) (Nat.zero_le _) ?_
          refine e_K ?_ F
          rintro r h' ⟨r16, I15, rfl, rfl, F⟩
          refine e_60 (f_53 (pc := 128) (e := (128, 60, 135, 0, 0, 0, 0, 131)) rfl) (fun c17 => ?_) (fun c17 => ?_)
          · replace F := F.1 c17
            refine e_lo [] rfl ?_
            exact F
          · replace F := F.2 c17
            refine e_0 (f_53 (pc := 131) (e := (131, 0, 1, 0, 0, 0, 0, 132)) rfl) (v := 1) rfl ?_
            refine e_80 (f_53 (pc := 132) (e := (132, 80, 136, 0, 0, 0, 0, 135)) rfl) ?_
            exact e_121 (f_53 (pc := 136) (e := (136, 121, 0, 0, 0, 0, 0, 137)) rfl) (.inr rfl) F
    · replace F := F.2 c2
      refine e_lo [1] rfl ?_
      exact F
set_option maxRecDepth 20000 in
theorem B_53_79 (hT : yLT T) (hR : yLR R) {p : Nat} (hp : yAtSentence T R p) (F : yW l zSS D cy zFk z d 34 0 0 (fun r h' => ∃ r2 I1, r = some (yi r2) ∧ h' = (N, T, R, I1) ∧ ((r2 = 0 ∨ r2 = 1) ∧ K (some (yi r2)) (N, T, R, I1))) 0 0 0 [(0, yr (some 1)), (1, yi 4)] [] (N, T, R, I)) :
    yW l zSS D cy zFk z (d + 1) 53 bc bs K 0 0 79 [(1, yr (some 1))] [] (N, T, R, I) := by
  refine e_12 (f_53 (pc := 79) (e := (79, 12, 1, 0, 0, 0, 0, 80)) rfl) rfl ?_
  refine e_0 (f_53 (pc := 80) (e := (80, 0, 4, 0, 0, 0, 0, 81)) rfl) (v := 4) rfl ?_
  refine e_130 (f_53 (pc := 81) (e := (81, 130, 34, 0, 3, 92, 901, 84)) rfl) zA (as := [yr (some 1), yi 4]) (rest := []) rfl rfl rfl rfl (Nat.le_of_ble_eq_true rfl) (Nat.le_of_ble_eq_true rfl) ⟨_, _, _, rfl, (hT 1 rfl)⟩ (mc := 0) (ms := 0) (Nat.zero_le _) (Nat.zero_le _) ?_
  refine e_K ?_ F
  rintro r h' ⟨r2, I1, rfl, rfl, F⟩
  exact e_121 (f_53 (pc := 84) (e := (84, 121, 0, 0, 0, 0, 0, 85)) rfl) F.1 F.2
set_option maxRecDepth 20000 in
theorem B_53_135 (hT : yLT T) (hR : yLR R) {p : Nat} (hp : yAtSentence T R p) (F : K (some (yi 0)) (N, T, R, I)) :
    yW l zSS D cy zFk z d 53 bc bs K 0 0 135 [] [] (N, T, R, I) := by
  refine e_0 (f_53 (pc := 135) (e := (135, 0, 0, 0, 0, 0, 0, 136)) rfl) (v := 0) rfl ?_
  exact e_121 (f_53 (pc := 136) (e := (136, 121, 0, 0, 0, 0, 0, 137)) rfl) (.inl rfl) F

/-! ChairAlley$Sentence.readPlain(LChairAlley$Reader;LChairAlley$Land;I)Z -/
set_option maxRecDepth 20000 in
theorem B_54_0 (hT : yLT T) (hR : yLR R) {p : Nat} (hp : yAtSentence T R p) {x3 : Int} (F : (x3 = 19 → yW l zSS D cy zFk z (d + 1) 54 bc bs K 0 0 12 [(0, yr (some p)), (3, yi x3)] [] (N, T, R, I)) ∧ (¬ (x3 = 19) → (x3 ≠ 7 → (x3 ≠ 20 → yW l zSS D cy zFk z d 38 0 0 (fun r h' => ∃ r5 I4, r = some (yi r5) ∧ h' = (N, T, R, I4) ∧ ((r5 ≠ 0 → yW l zSS D cy zFk z (d + 1) 54 bc bs K 0 0 95 [(0, yr (some p)), (1, yr (some 1)), (3, yi x3), (4, yi (I 1 9))] [] (N, T, R, I4)) ∧ (¬ (r5 ≠ 0) → yW l zSS D cy zFk z d 38 0 0 (fun r h' => ∃ r8 I7, r = some (yi r8) ∧ h' = (N, T, R, I7) ∧ ((r8 ≠ 0 → yW l zSS D cy zFk z (d + 1) 54 bc bs K 0 0 95 [(0, yr (some p)), (1, yr (some 1)), (3, yi x3), (4, yi (I 1 9))] [] (N, T, R, I7)) ∧ (¬ (r8 ≠ 0) → yW l zSS D cy zFk z d 38 0 0 (fun r h' => ∃ r11 I10, r = some (yi r11) ∧ h' = (N, T, R, I10) ∧ ((r11 ≠ 0 → yW l zSS D cy zFk z (d + 1) 54 bc bs K 0 0 95 [(0, yr (some p)), (1, yr (some 1)), (3, yi x3), (4, yi (I 1 9))] [] (N, T, R, I10)) ∧ (¬ (r11 ≠ 0) → yW l zSS D cy zFk z d 34 0 0 (fun r h' => ∃ r14 I13, r = some (yi r14) ∧ h' = (N, T, R, I13) ∧ ((r14 = 0 ∨ r14 = 1) ∧ K (some (yi r14)) (N, T, R, I13))) 0 0 0 [(0, yr (some 1)), (1, yi 1)] [] (N, T, R, I10)))) 0 0 0 [(0, yr (some 1)), (1, yi 62)] [] (N, T, R, I7)))) 0 0 0 [(0, yr (some 1)), (1, yi 61)] [] (N, T, R, I4)))) 0 0 0 [(0, yr (some 1)), (1, yi 60)] [] (N, T, R, I)) ∧ (¬ (x3 ≠ 20) → yW l zSS D cy zFk z d 21 0 0 (fun r h' => ∃ r16 I15, r = some (yi r16) ∧ h' = (N, T, R, I15) ∧ ((r16 ≠ (-1) → yW l zSS D cy zFk z d 31 0 0 (fun r h' => ∃ I18, r = none ∧ h' = (N, T, R, I18) ∧ (yW l zSS D cy zFk z d 46 0 0 (fun r h' => ∃ I19, r = none ∧ h' = (N, T, R, I19) ∧ (K (some (yi 1)) (N, T, R, I19))) 0 0 0 [(0, yr (some p)), (1, yi x3), (2, yi 0), (3, yi r16)] [] (N, T, R, I18))) 0 0 0 [(0, yr (some 1))] [] (N, T, R, I15)) ∧ (¬ (r16 ≠ (-1)) → K (some (yi 0)) (N, T, R, I15)))) 0 0 0 [(0, yr (some 4)), (1, yr (some 1))] [] (N, T, R, I))) ∧ (¬ (x3 ≠ 7) → yW l zSS D cy zFk z (d + 1) 54 bc bs K 0 0 12 [(0, yr (some p)), (3, yi x3)] [] (N, T, R, I)))) :
    yW l zSS D cy zFk z (d + 1) 54 bc bs K 0 0 0 [(0, yr (some p)), (1, yr (some 1)), (2, yr (some 4)), (3, yi x3)] [] (N, T, R, I) := by
  refine e_10 (f_54 (pc := 0) (e := (0, 10, 3, 0, 0, 0, 0, 1)) rfl) rfl ?_
  refine e_1 (f_54 (pc := 1) (e := (1, 1, 19, 0, 0, 0, 0, 3)) rfl) (v := 19) rfl ?_
  refine e_70 (f_54 (pc := 3) (e := (3, 70, 12, 0, 0, 0, 0, 6)) rfl) (fun c1 => ?_) (fun c1 => ?_)
  · replace F := F.1 c1
    refine e_lo [0, 3] rfl ?_
    exact F
  · replace F := F.2 c1
    refine e_10 (f_54 (pc := 6) (e := (6, 10, 3, 0, 0, 0, 0, 7)) rfl) rfl ?_
    refine e_1 (f_54 (pc := 7) (e := (7, 1, 7, 0, 0, 0, 0, 9)) rfl) (v := 7) rfl ?_
    refine e_71 (f_54 (pc := 9) (e := (9, 71, 21, 0, 0, 0, 0, 12)) rfl) (fun c2 => ?_) (fun c2 => ?_)
    · replace F := F.1 c2
      refine e_10 (f_54 (pc := 21) (e := (21, 10, 3, 0, 0, 0, 0, 22)) rfl) rfl ?_
      refine e_1 (f_54 (pc := 22) (e := (22, 1, 20, 0, 0, 0, 0, 24)) rfl) (v := 20) rfl ?_
      refine e_71 (f_54 (pc := 24) (e := (24, 71, 56, 0, 0, 0, 0, 27)) rfl) (fun c3 => ?_) (fun c3 => ?_)
      · replace F := F.1 c3
        refine e_12 (f_54 (pc := 56) (e := (56, 12, 1, 0, 0, 0, 0, 57)) rfl) rfl ?_
        refine e_90 zA (f_54 (pc := 57) (e := (57, 90, 3, 9, 0, 108, 906, 60)) rfl) rfl (hT 1 rfl) rfl rfl ?_
        refine e_21 (f_54 (pc := 60) (e := (60, 21, 4, 0, 0, 0, 0, 62)) rfl) ?_
        refine e_12 (f_54 (pc := 62) (e := (62, 12, 1, 0, 0, 0, 0, 63)) rfl) rfl ?_
        refine e_1 (f_54 (pc := 63) (e := (63, 1, 60, 0, 0, 0, 0, 65)) rfl) (v := 60) rfl ?_
        refine e_130 (f_54 (pc := 65) (e := (65, 130, 38, 0, 3, 88, 900, 68)) rfl) zA (as := [yr (some 1), yi 60]) (rest := []) rfl rfl rfl rfl (Nat.le_of_ble_eq_true rfl) (Nat.le_of_ble_eq_true rfl) ⟨_, _, _, rfl, (hT 1 rfl)⟩ (mc := 0) (ms := 0) (Nat.zero_le _) (Nat.zero_le _) ?_
        refine e_K ?_ F
        rintro r h' ⟨r5, I4, rfl, rfl, F⟩
        refine e_61 (f_54 (pc := 68) (e := (68, 61, 95, 0, 0, 0, 0, 71)) rfl) (fun c6 => ?_) (fun c6 => ?_)
        · replace F := F.1 c6
          refine e_lo [0, 1, 3, 4] rfl ?_
          exact F
        · replace F := F.2 c6
          refine e_12 (f_54 (pc := 71) (e := (71, 12, 1, 0, 0, 0, 0, 72)) rfl) rfl ?_
          refine e_1 (f_54 (pc := 72) (e := (72, 1, 61, 0, 0, 0, 0, 74)) rfl) (v := 61) rfl ?_
          refine e_130 (f_54 (pc := 74) (e := (74, 130, 38, 0, 3, 88, 900, 77)) rfl) zA (as := [yr (some 1), yi 61]) (rest := []) rfl rfl rfl rfl (Nat.le_of_ble_eq_true rfl) (Nat.le_of_ble_eq_true rfl) ⟨_, _, _, rfl, (hT 1 rfl)⟩ (mc := 0) (ms := 0) (Nat.zero_le _) (Nat.zero_le _) ?_
          refine e_K ?_ F
          rintro r h' ⟨r8, I7, rfl, rfl, F⟩
          refine e_61 (f_54 (pc := 77) (e := (77, 61, 95, 0, 0, 0, 0, 80)) rfl) (fun c9 => ?_) (fun c9 => ?_)
          · replace F := F.1 c9
            refine e_lo [0, 1, 3, 4] rfl ?_
            exact F
          · replace F := F.2 c9
            refine e_12 (f_54 (pc := 80) (e := (80, 12, 1, 0, 0, 0, 0, 81)) rfl) rfl ?_
            refine e_1 (f_54 (pc := 81) (e := (81, 1, 62, 0, 0, 0, 0, 83)) rfl) (v := 62) rfl ?_
            refine e_130 (f_54 (pc := 83) (e := (83, 130, 38, 0, 3, 88, 900, 86)) rfl) zA (as := [yr (some 1), yi 62]) (rest := []) rfl rfl rfl rfl (Nat.le_of_ble_eq_true rfl) (Nat.le_of_ble_eq_true rfl) ⟨_, _, _, rfl, (hT 1 rfl)⟩ (mc := 0) (ms := 0) (Nat.zero_le _) (Nat.zero_le _) ?_
            refine e_K ?_ F
            rintro r h' ⟨r11, I10, rfl, rfl, F⟩
            refine e_61 (f_54 (pc := 86) (e := (86, 61, 95, 0, 0, 0, 0, 89)) rfl) (fun c12 => ?_) (fun c12 => ?_)
            · replace F := F.1 c12
              refine e_lo [0, 1, 3, 4] rfl ?_
              exact F
            · replace F := F.2 c12
              refine e_12 (f_54 (pc := 89) (e := (89, 12, 1, 0, 0, 0, 0, 90)) rfl) rfl ?_
              refine e_0 (f_54 (pc := 90) (e := (90, 0, 1, 0, 0, 0, 0, 91)) rfl) (v := 1) rfl ?_
              refine e_130 (f_54 (pc := 91) (e := (91, 130, 34, 0, 3, 92, 901, 94)) rfl) zA (as := [yr (some 1), yi 1]) (rest := []) rfl rfl rfl rfl (Nat.le_of_ble_eq_true rfl) (Nat.le_of_ble_eq_true rfl) ⟨_, _, _, rfl, (hT 1 rfl)⟩ (mc := 0) (ms := 0) (Nat.zero_le _) (Nat.zero_le _) ?_
              refine e_K ?_ F
              rintro r h' ⟨r14, I13, rfl, rfl, F⟩
              exact e_121 (f_54 (pc := 94) (e := (94, 121, 0, 0, 0, 0, 0, 95)) rfl) F.1 F.2
      · replace F := F.2 c3
        refine e_12 (f_54 (pc := 27) (e := (27, 12, 2, 0, 0, 0, 0, 28)) rfl) rfl ?_
        refine e_12 (f_54 (pc := 28) (e := (28, 12, 1, 0, 0, 0, 0, 29)) rfl) rfl ?_
        refine e_130 (f_54 (pc := 29) (e := (29, 130, 21, 0, 1, 104, 905, 32)) rfl) zA (as := [yr (some 4), yr (some 1)]) (rest := []) rfl rfl rfl rfl (Nat.le_of_ble_eq_true rfl) (Nat.le_of_ble_eq_true rfl) ⟨_, _, _, rfl, (hT 4 rfl)⟩ (mc := 0) (ms := 0) (Nat.zero_le _) (Nat.zero_le _) ?_
        refine e_K ?_ F
        rintro r h' ⟨r16, I15, rfl, rfl, F⟩
        refine e_21 (f_54 (pc := 32) (e := (32, 21, 4, 0, 0, 0, 0, 34)) rfl) ?_
        refine e_11 (f_54 (pc := 34) (e := (34, 11, 4, 0, 0, 0, 0, 36)) rfl) rfl ?_
        refine e_0 (f_54 (pc := 36) (e := (36, 0, 4294967295, 0, 0, 0, 0, 37)) rfl) (v := (-1)) rfl ?_
        refine e_71 (f_54 (pc := 37) (e := (37, 71, 42, 0, 0, 0, 0, 40)) rfl) (fun c17 => ?_) (fun c17 => ?_)
        · replace F := F.1 c17
          refine e_12 (f_54 (pc := 42) (e := (42, 12, 1, 0, 0, 0, 0, 43)) rfl) rfl ?_
          refine e_130 (f_54 (pc := 43) (e := (43, 130, 31, 0, 3, 78, 897, 46)) rfl) zA (as := [yr (some 1)]) (rest := []) rfl rfl rfl rfl (Nat.le_of_ble_eq_true rfl) (Nat.le_of_ble_eq_true rfl) ⟨_, _, _, rfl, (hT 1 rfl)⟩ (mc := 0) (ms := 0) (Nat.zero_le _) (Nat.zero_le _) ?_
          refine e_K ?_ F
          rintro r h' ⟨I18, rfl, rfl, F⟩
          refine e_12 (f_54 (pc := 46) (e := (46, 12, 0, 0, 0, 0, 0, 47)) rfl) rfl ?_
          refine e_10 (f_54 (pc := 47) (e := (47, 10, 3, 0, 0, 0, 0, 48)) rfl) rfl ?_
          refine e_0 (f_54 (pc := 48) (e := (48, 0, 0, 0, 0, 0, 0, 49)) rfl) (v := 0) rfl ?_
          refine e_11 (f_54 (pc := 49) (e := (49, 11, 4, 0, 0, 0, 0, 51)) rfl) rfl ?_
          refine e_130 (f_54 (pc := 51) (e := (51, 130, 46, 0, 4, 81, 898, 54)) rfl) zA (as := [yr (some p), yi x3, yi 0, yi r16]) (rest := []) rfl rfl rfl rfl (Nat.le_of_ble_eq_true rfl) (Nat.le_of_ble_eq_true rfl) ⟨_, _, _, rfl, (hp.1 0 rfl)⟩ (mc := 0) (ms := 0) (Nat.zero_le _) (Nat.zero_le _) ?_
          refine e_K ?_ F
          rintro r h' ⟨I19, rfl, rfl, F⟩
          refine e_0 (f_54 (pc := 54) (e := (54, 0, 1, 0, 0, 0, 0, 55)) rfl) (v := 1) rfl ?_
          exact e_121 (f_54 (pc := 55) (e := (55, 121, 0, 0, 0, 0, 0, 56)) rfl) (.inr rfl) F
        · replace F := F.2 c17
          refine e_0 (f_54 (pc := 40) (e := (40, 0, 0, 0, 0, 0, 0, 41)) rfl) (v := 0) rfl ?_
          exact e_121 (f_54 (pc := 41) (e := (41, 121, 0, 0, 0, 0, 0, 42)) rfl) (.inl rfl) F
    · replace F := F.2 c2
      refine e_lo [0, 3] rfl ?_
      exact F
set_option maxRecDepth 20000 in
theorem B_54_12 (hT : yLT T) (hR : yLR R) {p : Nat} (hp : yAtSentence T R p) {x3 : Int} (F : yW l zSS D cy zFk z d 46 0 0 (fun r h' => ∃ I1, r = none ∧ h' = (N, T, R, I1) ∧ (K (some (yi 1)) (N, T, R, I1))) 0 0 0 [(0, yr (some p)), (1, yi x3), (2, yi 0), (3, yi 0)] [] (N, T, R, I)) :
    yW l zSS D cy zFk z (d + 1) 54 bc bs K 0 0 12 [(0, yr (some p)), (3, yi x3)] [] (N, T, R, I) := by
  refine e_12 (f_54 (pc := 12) (e := (12, 12, 0, 0, 0, 0, 0, 13)) rfl) rfl ?_
  refine e_10 (f_54 (pc := 13) (e := (13, 10, 3, 0, 0, 0, 0, 14)) rfl) rfl ?_
  refine e_0 (f_54 (pc := 14) (e := (14, 0, 0, 0, 0, 0, 0, 15)) rfl) (v := 0) rfl ?_
  refine e_0 (f_54 (pc := 15) (e := (15, 0, 0, 0, 0, 0, 0, 16)) rfl) (v := 0) rfl ?_
  refine e_130 (f_54 (pc := 16) (e := (16, 130, 46, 0, 4, 81, 898, 19)) rfl) zA (as := [yr (some p), yi x3, yi 0, yi 0]) (rest := []) rfl rfl rfl rfl (Nat.le_of_ble_eq_true rfl) (Nat.le_of_ble_eq_true rfl) ⟨_, _, _, rfl, (hp.1 0 rfl)⟩ (mc := 0) (ms := 0) (Nat.zero_le _) (Nat.zero_le _) ?_
  refine e_K ?_ F
  rintro r h' ⟨I1, rfl, rfl, F⟩
  refine e_0 (f_54 (pc := 19) (e := (19, 0, 1, 0, 0, 0, 0, 20)) rfl) (v := 1) rfl ?_
  exact e_121 (f_54 (pc := 20) (e := (20, 121, 0, 0, 0, 0, 0, 21)) rfl) (.inr rfl) F
set_option maxRecDepth 20000 in
theorem B_54_95 (hT : yLT T) (hR : yLR R) {p : Nat} (hp : yAtSentence T R p) {x3 x4 : Int} (F : yW l zSS D cy zFk z d 31 0 0 (fun r h' => ∃ I1, r = none ∧ h' = (N, T, R, I1) ∧ (yW l zSS D cy zFk z d 42 0 0 (fun r h' => ∃ r3 I2, r = some (yi r3) ∧ h' = (N, T, R, I2) ∧ (yW l zSS D cy zFk z d 46 0 0 (fun r h' => ∃ I4, r = none ∧ h' = (N, T, R, I4) ∧ ((r3 = (-1) → K (some (yi 0)) (N, T, R, I4)) ∧ (¬ (r3 = (-1)) → K (some (yi 1)) (N, T, R, I4)))) 0 0 0 [(0, yr (some p)), (1, yi x3), (2, yi x4), (3, yi r3)] [] (N, T, R, I2))) 0 0 0 [(0, yr (some 1)), (1, yi 0), (2, yi 999)] [] (N, T, R, I1))) 0 0 0 [(0, yr (some 1))] [] (N, T, R, I)) :
    yW l zSS D cy zFk z (d + 1) 54 bc bs K 0 0 95 [(0, yr (some p)), (1, yr (some 1)), (3, yi x3), (4, yi x4)] [] (N, T, R, I) := by
  refine e_12 (f_54 (pc := 95) (e := (95, 12, 1, 0, 0, 0, 0, 96)) rfl) rfl ?_
  refine e_130 (f_54 (pc := 96) (e := (96, 130, 31, 0, 3, 78, 897, 99)) rfl) zA (as := [yr (some 1)]) (rest := []) rfl rfl rfl rfl (Nat.le_of_ble_eq_true rfl) (Nat.le_of_ble_eq_true rfl) ⟨_, _, _, rfl, (hT 1 rfl)⟩ (mc := 0) (ms := 0) (Nat.zero_le _) (Nat.zero_le _) ?_
  refine e_K ?_ F
  rintro r h' ⟨I1, rfl, rfl, F⟩
  refine e_12 (f_54 (pc := 99) (e := (99, 12, 1, 0, 0, 0, 0, 100)) rfl) rfl ?_
  refine e_0 (f_54 (pc := 100) (e := (100, 0, 0, 0, 0, 0, 0, 101)) rfl) (v := 0) rfl ?_
  refine e_2 (f_54 (pc := 101) (e := (101, 2, 999, 0, 0, 0, 0, 104)) rfl) (v := 999) rfl ?_
  refine e_130 (f_54 (pc := 104) (e := (104, 130, 42, 0, 3, 111, 907, 107)) rfl) zA (as := [yr (some 1), yi 0, yi 999]) (rest := []) rfl rfl rfl rfl (Nat.le_of_ble_eq_true rfl) (Nat.le_of_ble_eq_true rfl) ⟨_, _, _, rfl, (hT 1 rfl)⟩ (mc := 0) (ms := 0) (Nat.zero_le _) (Nat.zero_le _) ?_
  refine e_K ?_ F
  rintro r h' ⟨r3, I2, rfl, rfl, F⟩
  refine e_21 (f_54 (pc := 107) (e := (107, 21, 5, 0, 0, 0, 0, 109)) rfl) ?_
  refine e_12 (f_54 (pc := 109) (e := (109, 12, 0, 0, 0, 0, 0, 110)) rfl) rfl ?_
  refine e_10 (f_54 (pc := 110) (e := (110, 10, 3, 0, 0, 0, 0, 111)) rfl) rfl ?_
  refine e_11 (f_54 (pc := 111) (e := (111, 11, 4, 0, 0, 0, 0, 113)) rfl) rfl ?_
  refine e_11 (f_54 (pc := 113) (e := (113, 11, 5, 0, 0, 0, 0, 115)) rfl) rfl ?_
  refine e_130 (f_54 (pc := 115) (e := (115, 130, 46, 0, 4, 81, 898, 118)) rfl) zA (as := [yr (some p), yi x3, yi x4, yi r3]) (rest := []) rfl rfl rfl rfl (Nat.le_of_ble_eq_true rfl) (Nat.le_of_ble_eq_true rfl) ⟨_, _, _, rfl, (hp.1 0 rfl)⟩ (mc := 0) (ms := 0) (Nat.zero_le _) (Nat.zero_le _) ?_
  refine e_K ?_ F
  rintro r h' ⟨I4, rfl, rfl, F⟩
  refine e_11 (f_54 (pc := 118) (e := (118, 11, 5, 0, 0, 0, 0, 120)) rfl) rfl ?_
  refine e_0 (f_54 (pc := 120) (e := (120, 0, 4294967295, 0, 0, 0, 0, 121)) rfl) (v := (-1)) rfl ?_
  refine e_70 (f_54 (pc := 121) (e := (121, 70, 128, 0, 0, 0, 0, 124)) rfl) (fun c5 => ?_) (fun c5 => ?_)
  · replace F := F.1 c5
    refine e_0 (f_54 (pc := 128) (e := (128, 0, 0, 0, 0, 0, 0, 129)) rfl) (v := 0) rfl ?_
    exact e_121 (f_54 (pc := 129) (e := (129, 121, 0, 0, 0, 0, 0, 0)) rfl) (.inl rfl) F
  · replace F := F.2 c5
    refine e_0 (f_54 (pc := 124) (e := (124, 0, 1, 0, 0, 0, 0, 125)) rfl) (v := 1) rfl ?_
    refine e_80 (f_54 (pc := 125) (e := (125, 80, 129, 0, 0, 0, 0, 128)) rfl) ?_
    exact e_121 (f_54 (pc := 129) (e := (129, 121, 0, 0, 0, 0, 0, 0)) rfl) (.inr rfl) F

/-! ChairAlley$State.addMeeting(IIII)V -/
set_option maxRecDepth 20000 in
theorem B_56_0 (hT : yLT T) (hR : yLR R) {p : Nat} (hp : yAtState T R p) {x1 x2 x3 x4 : Int} (F : ((I p 12) < 0 → ∀ I2, I2 = yU I p 12 (yadd (I p 12) 1) → (K none (N, T, R, I2))) ∧ (¬ ((I p 12) < 0) → (60 ≤ (I p 12) → ∀ I4, I4 = yU I p 12 (yadd (I p 12) 1) → (K none (N, T, R, I4))) ∧ (¬ (60 ≤ (I p 12)) → 0 ≤ (ymul (I p 12) 5) ∧ (ymul (I p 12) 5) < 300 ∧ (∀ I7, I7 = yU I (p + 12) ((ymul (I p 12) 5).toNat) (ynar 1 (I p 0)) → (0 ≤ (yadd (ymul (I p 12) 5) 1) ∧ (yadd (ymul (I p 12) 5) 1) < 300 ∧ (∀ I10, I10 = yU I7 (p + 12) ((yadd (ymul (I p 12) 5) 1).toNat) (ynar 1 x1) → (0 ≤ (yadd (ymul (I p 12) 5) 2) ∧ (yadd (ymul (I p 12) 5) 2) < 300 ∧ (∀ I13, I13 = yU I10 (p + 12) ((yadd (ymul (I p 12) 5) 2).toNat) (ynar 1 x2) → (0 ≤ (yadd (ymul (I p 12) 5) 3) ∧ (yadd (ymul (I p 12) 5) 3) < 300 ∧ (∀ I16, I16 = yU I13 (p + 12) ((yadd (ymul (I p 12) 5) 3).toNat) (ynar 1 x3) → (0 ≤ (yadd (ymul (I p 12) 5) 4) ∧ (yadd (ymul (I p 12) 5) 4) < 300 ∧ (∀ I19, I19 = yU I16 (p + 12) ((yadd (ymul (I p 12) 5) 4).toNat) (ynar 1 x4) → (∀ I20, I20 = yU I19 p 12 (yadd (I19 p 12) 1) → (K none (N, T, R, I20))))))))))))))) :
    yW l zSS D cy zFk z d 56 bc bs K 0 0 0 [(0, yr (some p)), (1, yi x1), (2, yi x2), (3, yi x3), (4, yi x4)] [] (N, T, R, I) := by
  refine e_12 (f_56 (pc := 0) (e := (0, 12, 0, 0, 0, 0, 0, 1)) rfl) rfl ?_
  refine e_90 zA (f_56 (pc := 1) (e := (1, 90, 5, 12, 0, 72, 921, 4)) rfl) rfl (hp.1 0 rfl) rfl rfl ?_
  refine e_62 (f_56 (pc := 4) (e := (4, 62, 76, 0, 0, 0, 0, 7)) rfl) (fun c1 => ?_) (fun c1 => ?_)
  · replace F := F.1 c1
    refine e_12 (f_56 (pc := 76) (e := (76, 12, 0, 0, 0, 0, 0, 77)) rfl) rfl ?_
    refine e_50 (f_56 (pc := 77) (e := (77, 50, 0, 0, 0, 0, 0, 78)) rfl) rfl ?_
    refine e_90 zA (f_56 (pc := 78) (e := (78, 90, 5, 12, 0, 72, 921, 81)) rfl) rfl (hp.1 0 rfl) rfl rfl ?_
    refine e_0 (f_56 (pc := 81) (e := (81, 0, 1, 0, 0, 0, 0, 82)) rfl) (v := 1) rfl ?_
    refine e_30 (f_56 (pc := 82) (e := (82, 30, 0, 0, 0, 0, 0, 83)) rfl) ?_
    refine e_91 zA (f_56 (pc := 83) (e := (83, 91, 5, 12, 0, 72, 921, 86)) rfl) rfl (hp.1 0 rfl) rfl rfl trivial ?_
    replace F := F _ rfl
    exact e_122 (f_56 (pc := 86) (e := (86, 122, 0, 0, 0, 0, 0, 0)) rfl) F
  · replace F := F.2 c1
    refine e_12 (f_56 (pc := 7) (e := (7, 12, 0, 0, 0, 0, 0, 8)) rfl) rfl ?_
    refine e_90 zA (f_56 (pc := 8) (e := (8, 90, 5, 12, 0, 72, 921, 11)) rfl) rfl (hp.1 0 rfl) rfl rfl ?_
    refine e_1 (f_56 (pc := 11) (e := (11, 1, 60, 0, 0, 0, 0, 13)) rfl) (v := 60) rfl ?_
    refine e_73 (f_56 (pc := 13) (e := (13, 73, 76, 0, 0, 0, 0, 16)) rfl) (fun c3 => ?_) (fun c3 => ?_)
    · replace F := F.1 c3
      refine e_12 (f_56 (pc := 76) (e := (76, 12, 0, 0, 0, 0, 0, 77)) rfl) rfl ?_
      refine e_50 (f_56 (pc := 77) (e := (77, 50, 0, 0, 0, 0, 0, 78)) rfl) rfl ?_
      refine e_90 zA (f_56 (pc := 78) (e := (78, 90, 5, 12, 0, 72, 921, 81)) rfl) rfl (hp.1 0 rfl) rfl rfl ?_
      refine e_0 (f_56 (pc := 81) (e := (81, 0, 1, 0, 0, 0, 0, 82)) rfl) (v := 1) rfl ?_
      refine e_30 (f_56 (pc := 82) (e := (82, 30, 0, 0, 0, 0, 0, 83)) rfl) ?_
      refine e_91 zA (f_56 (pc := 83) (e := (83, 91, 5, 12, 0, 72, 921, 86)) rfl) rfl (hp.1 0 rfl) rfl rfl trivial ?_
      replace F := F _ rfl
      exact e_122 (f_56 (pc := 86) (e := (86, 122, 0, 0, 0, 0, 0, 0)) rfl) F
    · replace F := F.2 c3
      refine e_12 (f_56 (pc := 16) (e := (16, 12, 0, 0, 0, 0, 0, 17)) rfl) rfl ?_
      refine e_90 zA (f_56 (pc := 17) (e := (17, 90, 5, 12, 0, 72, 921, 20)) rfl) rfl (hp.1 0 rfl) rfl rfl ?_
      refine e_0 (f_56 (pc := 20) (e := (20, 0, 5, 0, 0, 0, 0, 21)) rfl) (v := 5) rfl ?_
      refine e_32 (f_56 (pc := 21) (e := (21, 32, 0, 0, 0, 0, 0, 22)) rfl) ?_
      refine e_21 (f_56 (pc := 22) (e := (22, 21, 5, 0, 0, 0, 0, 24)) rfl) ?_
      refine e_12 (f_56 (pc := 24) (e := (24, 12, 0, 0, 0, 0, 0, 25)) rfl) rfl ?_
      refine e_90r zA (f_56 (pc := 25) (e := (25, 90, 5, 13, 3, 45, 920, 28)) rfl) rfl (hp.1 0 rfl) rfl rfl (hp.2 13 rfl) ?_
      refine e_11 (f_56 (pc := 28) (e := (28, 11, 5, 0, 0, 0, 0, 30)) rfl) rfl ?_
      refine e_12 (f_56 (pc := 30) (e := (30, 12, 0, 0, 0, 0, 0, 31)) rfl) rfl ?_
      refine e_90 zA (f_56 (pc := 31) (e := (31, 90, 5, 0, 0, 68, 922, 34)) rfl) rfl (hp.1 0 rfl) rfl rfl ?_
      obtain ⟨b5, b6, F⟩ := F
      refine e_111 (f_56 (pc := 34) (e := (34, 111, 0, 0, 0, 0, 0, 35)) rfl) rfl (hp.1 12 rfl) b5 b6 ?_
      replace F := F _ rfl
      refine e_12 (f_56 (pc := 35) (e := (35, 12, 0, 0, 0, 0, 0, 36)) rfl) rfl ?_
      refine e_90r zA (f_56 (pc := 36) (e := (36, 90, 5, 13, 3, 45, 920, 39)) rfl) rfl (hp.1 0 rfl) rfl rfl (hp.2 13 rfl) ?_
      refine e_11 (f_56 (pc := 39) (e := (39, 11, 5, 0, 0, 0, 0, 41)) rfl) rfl ?_
      refine e_0 (f_56 (pc := 41) (e := (41, 0, 1, 0, 0, 0, 0, 42)) rfl) (v := 1) rfl ?_
      refine e_30 (f_56 (pc := 42) (e := (42, 30, 0, 0, 0, 0, 0, 43)) rfl) ?_
      refine e_10 (f_56 (pc := 43) (e := (43, 10, 1, 0, 0, 0, 0, 44)) rfl) rfl ?_
      obtain ⟨b8, b9, F⟩ := F
      refine e_111 (f_56 (pc := 44) (e := (44, 111, 0, 0, 0, 0, 0, 45)) rfl) rfl (hp.1 12 rfl) b8 b9 ?_
      replace F := F _ rfl
      refine e_12 (f_56 (pc := 45) (e := (45, 12, 0, 0, 0, 0, 0, 46)) rfl) rfl ?_
      refine e_90r zA (f_56 (pc := 46) (e := (46, 90, 5, 13, 3, 45, 920, 49)) rfl) rfl (hp.1 0 rfl) rfl rfl (hp.2 13 rfl) ?_
      refine e_11 (f_56 (pc := 49) (e := (49, 11, 5, 0, 0, 0, 0, 51)) rfl) rfl ?_
      refine e_0 (f_56 (pc := 51) (e := (51, 0, 2, 0, 0, 0, 0, 52)) rfl) (v := 2) rfl ?_
      refine e_30 (f_56 (pc := 52) (e := (52, 30, 0, 0, 0, 0, 0, 53)) rfl) ?_
      refine e_10 (f_56 (pc := 53) (e := (53, 10, 2, 0, 0, 0, 0, 54)) rfl) rfl ?_
      obtain ⟨b11, b12, F⟩ := F
      refine e_111 (f_56 (pc := 54) (e := (54, 111, 0, 0, 0, 0, 0, 55)) rfl) rfl (hp.1 12 rfl) b11 b12 ?_
      replace F := F _ rfl
      refine e_12 (f_56 (pc := 55) (e := (55, 12, 0, 0, 0, 0, 0, 56)) rfl) rfl ?_
      refine e_90r zA (f_56 (pc := 56) (e := (56, 90, 5, 13, 3, 45, 920, 59)) rfl) rfl (hp.1 0 rfl) rfl rfl (hp.2 13 rfl) ?_
      refine e_11 (f_56 (pc := 59) (e := (59, 11, 5, 0, 0, 0, 0, 61)) rfl) rfl ?_
      refine e_0 (f_56 (pc := 61) (e := (61, 0, 3, 0, 0, 0, 0, 62)) rfl) (v := 3) rfl ?_
      refine e_30 (f_56 (pc := 62) (e := (62, 30, 0, 0, 0, 0, 0, 63)) rfl) ?_
      refine e_10 (f_56 (pc := 63) (e := (63, 10, 3, 0, 0, 0, 0, 64)) rfl) rfl ?_
      obtain ⟨b14, b15, F⟩ := F
      refine e_111 (f_56 (pc := 64) (e := (64, 111, 0, 0, 0, 0, 0, 65)) rfl) rfl (hp.1 12 rfl) b14 b15 ?_
      replace F := F _ rfl
      refine e_12 (f_56 (pc := 65) (e := (65, 12, 0, 0, 0, 0, 0, 66)) rfl) rfl ?_
      refine e_90r zA (f_56 (pc := 66) (e := (66, 90, 5, 13, 3, 45, 920, 69)) rfl) rfl (hp.1 0 rfl) rfl rfl (hp.2 13 rfl) ?_
      refine e_11 (f_56 (pc := 69) (e := (69, 11, 5, 0, 0, 0, 0, 71)) rfl) rfl ?_
      refine e_0 (f_56 (pc := 71) (e := (71, 0, 4, 0, 0, 0, 0, 72)) rfl) (v := 4) rfl ?_
      refine e_30 (f_56 (pc := 72) (e := (72, 30, 0, 0, 0, 0, 0, 73)) rfl) ?_
      refine e_11 (f_56 (pc := 73) (e := (73, 11, 4, 0, 0, 0, 0, 75)) rfl) rfl ?_
      obtain ⟨b17, b18, F⟩ := F
      refine e_111 (f_56 (pc := 75) (e := (75, 111, 0, 0, 0, 0, 0, 76)) rfl) rfl (hp.1 12 rfl) b17 b18 ?_
      replace F := F _ rfl
      refine e_12 (f_56 (pc := 76) (e := (76, 12, 0, 0, 0, 0, 0, 77)) rfl) rfl ?_
      refine e_50 (f_56 (pc := 77) (e := (77, 50, 0, 0, 0, 0, 0, 78)) rfl) rfl ?_
      refine e_90 zA (f_56 (pc := 78) (e := (78, 90, 5, 12, 0, 72, 921, 81)) rfl) rfl (hp.1 0 rfl) rfl rfl ?_
      refine e_0 (f_56 (pc := 81) (e := (81, 0, 1, 0, 0, 0, 0, 82)) rfl) (v := 1) rfl ?_
      refine e_30 (f_56 (pc := 82) (e := (82, 30, 0, 0, 0, 0, 0, 83)) rfl) ?_
      refine e_91 zA (f_56 (pc := 83) (e := (83, 91, 5, 12, 0, 72, 921, 86)) rfl) rfl (hp.1 0 rfl) rfl rfl trivial ?_
      replace F := F _ rfl
      exact e_122 (f_56 (pc := 86) (e := (86, 122, 0, 0, 0, 0, 0, 0)) rfl) F

/-! ChairAlley$State.beginAll(LChairAlley$Land;)V -/
set_option maxRecDepth 20000 in
theorem B_57_0 (hT : yLT T) (hR : yLR R) {p : Nat} (hp : yAtState T R p) {q : Nat} (hq : yAtLand T R q) (F : ∀ I1, I1 = yC I (q + 2) (p + 1) 100 → (yW l zSS D cy zFk z (d + 1) 57 bc bs K 0 0 17 [(0, yr (some p)), (1, yr (some q)), (2, yi 0)] [] (N, T, R, I1))) :
    yW l zSS D cy zFk z (d + 1) 57 bc bs K 0 0 0 [(0, yr (some p)), (1, yr (some q))] [] (N, T, R, I) := by
  refine e_12 (f_57 (pc := 0) (e := (0, 12, 1, 0, 0, 0, 0, 1)) rfl) rfl ?_
  refine e_90r zA (f_57 (pc := 1) (e := (1, 90, 1, 3, 3, 48, 923, 4)) rfl) rfl (hq.1 0 rfl) rfl rfl (hq.2 3 rfl) ?_
  refine e_0 (f_57 (pc := 4) (e := (4, 0, 0, 0, 0, 0, 0, 5)) rfl) (v := 0) rfl ?_
  refine e_12 (f_57 (pc := 5) (e := (5, 12, 0, 0, 0, 0, 0, 6)) rfl) rfl ?_
  refine e_90r zA (f_57 (pc := 6) (e := (6, 90, 5, 1, 3, 9, 909, 9)) rfl) rfl (hp.1 0 rfl) rfl rfl (hp.2 1 rfl) ?_
  refine e_0 (f_57 (pc := 9) (e := (9, 0, 0, 0, 0, 0, 0, 10)) rfl) (v := 0) rfl ?_
  refine e_1 (f_57 (pc := 10) (e := (10, 1, 100, 0, 0, 0, 0, 12)) rfl) (v := 100) rfl ?_
  refine e_135 (f_57 (pc := 12) (e := (12, 135, 0, 0, 0, 51, 924, 15)) rfl) zA rfl rfl (hp.1 1 rfl) (hq.1 2 rfl) rfl rfl rfl (by decide) (Nat.succ_pos _) (Nat.le_of_ble_eq_true rfl) ?_
  replace F := F _ rfl
  refine e_0 (f_57 (pc := 15) (e := (15, 0, 0, 0, 0, 0, 0, 16)) rfl) (v := 0) rfl ?_
  refine e_20 (f_57 (pc := 16) (e := (16, 20, 2, 0, 0, 0, 0, 17)) rfl) ?_
  refine e_lo [0, 1, 2] rfl ?_
  exact F
set_option maxRecDepth 20000 in
theorem B_57_17 (hT : yLT T) (hR : yLR R) {p : Nat} (hp : yAtState T R p) {q : Nat} (hq : yAtLand T R q) {x2 : Int} (F : (8 ≤ x2 → yW l zSS D cy zFk z d 58 0 0 (fun r h' => ∃ I2, r = none ∧ h' = (N, T, R, I2) ∧ (K none (N, T, R, I2))) 0 0 0 [(0, yr (some p))] [] (N, T, R, I)) ∧ (¬ (8 ≤ x2) → 0 ≤ x2 ∧ x2 < 8 ∧ (0 ≤ x2 ∧ x2 < 8 ∧ (∀ I7, I7 = yU I (p + 2) x2.toNat (ynar 1 (ymax (I (q + 9) x2.toNat) 0)) → (0 ≤ x2 ∧ x2 < 8 ∧ (0 ≤ x2 ∧ x2 < 8 ∧ (∀ I12, I12 = yU I7 (p + 3) x2.toNat (ynar 1 (I7 (q + 7) x2.toNat)) → (yW l zSS D cy zFk z (d + 1) 57 bc bs K 0 0 17 [(0, yr (some p)), (1, yr (some q)), (2, yi (yadd x2 1))] [] (N, T, R, I12))))))))) :
    yW l zSS D cy zFk z (d + 1) 57 bc bs K 0 0 17 [(0, yr (some p)), (1, yr (some q)), (2, yi x2)] [] (N, T, R, I) := by
  refine e_10 (f_57 (pc := 17) (e := (17, 10, 2, 0, 0, 0, 0, 18)) rfl) rfl ?_
  refine e_1 (f_57 (pc := 18) (e := (18, 1, 8, 0, 0, 0, 0, 20)) rfl) (v := 8) rfl ?_
  refine e_73 (f_57 (pc := 20) (e := (20, 73, 57, 0, 0, 0, 0, 23)) rfl) (fun c1 => ?_) (fun c1 => ?_)
  · replace F := F.1 c1
    refine e_12 (f_57 (pc := 57) (e := (57, 12, 0, 0, 0, 0, 0, 58)) rfl) rfl ?_
    refine e_130 (f_57 (pc := 58) (e := (58, 130, 58, 0, 5, 65, 928, 61)) rfl) zA (as := [yr (some p)]) (rest := []) rfl rfl rfl rfl (Nat.le_of_ble_eq_true rfl) (Nat.le_of_ble_eq_true rfl) ⟨_, _, _, rfl, (hp.1 0 rfl)⟩ (mc := 0) (ms := 0) (Nat.zero_le _) (Nat.zero_le _) ?_
    refine e_K ?_ F
    rintro r h' ⟨I2, rfl, rfl, F⟩
    exact e_122 (f_57 (pc := 61) (e := (61, 122, 0, 0, 0, 0, 0, 0)) rfl) F
  · replace F := F.2 c1
    refine e_12 (f_57 (pc := 23) (e := (23, 12, 0, 0, 0, 0, 0, 24)) rfl) rfl ?_
    refine e_90r zA (f_57 (pc := 24) (e := (24, 90, 5, 2, 3, 15, 910, 27)) rfl) rfl (hp.1 0 rfl) rfl rfl (hp.2 2 rfl) ?_
    refine e_10 (f_57 (pc := 27) (e := (27, 10, 2, 0, 0, 0, 0, 28)) rfl) rfl ?_
    refine e_12 (f_57 (pc := 28) (e := (28, 12, 1, 0, 0, 0, 0, 29)) rfl) rfl ?_
    refine e_90r zA (f_57 (pc := 29) (e := (29, 90, 1, 11, 3, 57, 925, 32)) rfl) rfl (hq.1 0 rfl) rfl rfl (hq.2 11 rfl) ?_
    refine e_10 (f_57 (pc := 32) (e := (32, 10, 2, 0, 0, 0, 0, 33)) rfl) rfl ?_
    obtain ⟨b3, b4, F⟩ := F
    refine e_110 (f_57 (pc := 33) (e := (33, 110, 0, 0, 0, 0, 0, 34)) rfl) rfl (hq.1 9 rfl) b3 b4 ?_
    refine e_0 (f_57 (pc := 34) (e := (34, 0, 0, 0, 0, 0, 0, 35)) rfl) (v := 0) rfl ?_
    refine e_137 (f_57 (pc := 35) (e := (35, 137, 0, 0, 0, 58, 926, 38)) rfl) zA (Nat.succ_pos _) (Nat.le_of_ble_eq_true rfl) ?_
    obtain ⟨b5, b6, F⟩ := F
    refine e_111 (f_57 (pc := 38) (e := (38, 111, 0, 0, 0, 0, 0, 39)) rfl) rfl (hp.1 2 rfl) b5 b6 ?_
    replace F := F _ rfl
    refine e_12 (f_57 (pc := 39) (e := (39, 12, 0, 0, 0, 0, 0, 40)) rfl) rfl ?_
    refine e_90r zA (f_57 (pc := 40) (e := (40, 90, 5, 3, 3, 18, 911, 43)) rfl) rfl (hp.1 0 rfl) rfl rfl (hp.2 3 rfl) ?_
    refine e_10 (f_57 (pc := 43) (e := (43, 10, 2, 0, 0, 0, 0, 44)) rfl) rfl ?_
    refine e_12 (f_57 (pc := 44) (e := (44, 12, 1, 0, 0, 0, 0, 45)) rfl) rfl ?_
    refine e_90r zA (f_57 (pc := 45) (e := (45, 90, 1, 9, 3, 64, 927, 48)) rfl) rfl (hq.1 0 rfl) rfl rfl (hq.2 9 rfl) ?_
    refine e_10 (f_57 (pc := 48) (e := (48, 10, 2, 0, 0, 0, 0, 49)) rfl) rfl ?_
    obtain ⟨b8, b9, F⟩ := F
    refine e_110 (f_57 (pc := 49) (e := (49, 110, 0, 0, 0, 0, 0, 50)) rfl) rfl (hq.1 7 rfl) b8 b9 ?_
    obtain ⟨b10, b11, F⟩ := F
    refine e_111 (f_57 (pc := 50) (e := (50, 111, 0, 0, 0, 0, 0, 51)) rfl) rfl (hp.1 3 rfl) b10 b11 ?_
    replace F := F _ rfl
    refine e_26 (f_57 (pc := 51) (e := (51, 26, 2, 1, 0, 0, 0, 54)) rfl) (w := 1) rfl rfl ?_
    refine e_80 (f_57 (pc := 54) (e := (54, 80, 17, 0, 0, 0, 0, 57)) rfl) ?_
    refine e_lo [0, 1, 2] rfl ?_
    exact F

/-! ChairAlley$State.beginMinutes()V -/
set_option maxRecDepth 20000 in
theorem B_58_0 (hT : yLT T) (hR : yLR R) {p : Nat} (hp : yAtState T R p) (F : ∀ I1, I1 = yU I p 0 0 → (∀ I2, I2 = yU I1 p 12 0 → (yW l zSS D cy zFk z d 58 bc bs K 0 0 12 [(0, yr (some p)), (1, yi 0)] [] (N, T, R, I2)))) :
    yW l zSS D cy zFk z d 58 bc bs K 0 0 0 [(0, yr (some p))] [] (N, T, R, I) := by
  refine e_12 (f_58 (pc := 0) (e := (0, 12, 0, 0, 0, 0, 0, 1)) rfl) rfl ?_
  refine e_0 (f_58 (pc := 1) (e := (1, 0, 0, 0, 0, 0, 0, 2)) rfl) (v := 0) rfl ?_
  refine e_91 zA (f_58 (pc := 2) (e := (2, 91, 5, 0, 0, 68, 922, 5)) rfl) rfl (hp.1 0 rfl) rfl rfl trivial ?_
  replace F := F _ rfl
  refine e_12 (f_58 (pc := 5) (e := (5, 12, 0, 0, 0, 0, 0, 6)) rfl) rfl ?_
  refine e_0 (f_58 (pc := 6) (e := (6, 0, 0, 0, 0, 0, 0, 7)) rfl) (v := 0) rfl ?_
  refine e_91 zA (f_58 (pc := 7) (e := (7, 91, 5, 12, 0, 72, 921, 10)) rfl) rfl (hp.1 0 rfl) rfl rfl trivial ?_
  replace F := F _ rfl
  refine e_0 (f_58 (pc := 10) (e := (10, 0, 0, 0, 0, 0, 0, 11)) rfl) (v := 0) rfl ?_
  refine e_20 (f_58 (pc := 11) (e := (11, 20, 1, 0, 0, 0, 0, 12)) rfl) ?_
  refine e_lo [0, 1] rfl ?_
  exact F
set_option maxRecDepth 20000 in
theorem B_58_12 (hT : yLT T) (hR : yLR R) {p : Nat} (hp : yAtState T R p) {x1 : Int} (F : (8 ≤ x1 → K none (N, T, R, I)) ∧ (¬ (8 ≤ x1) → 0 ≤ x1 ∧ x1 < 8 ∧ (∀ I4, I4 = yU I (p + 4) x1.toNat (ynar 1 (-1)) → (0 ≤ x1 ∧ x1 < 8 ∧ (∀ I7, I7 = yU I4 (p + 5) x1.toNat (ynar 1 (-1)) → (0 ≤ x1 ∧ x1 < 8 ∧ (∀ I10, I10 = yU I7 (p + 6) x1.toNat (ynar 1 0) → (0 ≤ x1 ∧ x1 < 8 ∧ (∀ I13, I13 = yU I10 (p + 7) x1.toNat (ynar 1 0) → (0 ≤ x1 ∧ x1 < 8 ∧ (∀ I16, I16 = yU I13 (p + 8) x1.toNat (ynar 1 0) → (0 ≤ x1 ∧ x1 < 8 ∧ (∀ I19, I19 = yU I16 (p + 9) x1.toNat (ynar 1 (-1)) → (0 ≤ x1 ∧ x1 < 8 ∧ (∀ I22, I22 = yU I19 (p + 10) x1.toNat (ynar 1 (-2)) → (0 ≤ x1 ∧ x1 < 8 ∧ (∀ I25, I25 = yU I22 (p + 11) x1.toNat (ynar 1 0) → (yW l zSS D cy zFk z d 58 bc bs K 0 0 12 [(0, yr (some p)), (1, yi (yadd x1 1))] [] (N, T, R, I25))))))))))))))))))) :
    yW l zSS D cy zFk z d 58 bc bs K 0 0 12 [(0, yr (some p)), (1, yi x1)] [] (N, T, R, I) := by
  refine e_10 (f_58 (pc := 12) (e := (12, 10, 1, 0, 0, 0, 0, 13)) rfl) rfl ?_
  refine e_1 (f_58 (pc := 13) (e := (13, 1, 8, 0, 0, 0, 0, 15)) rfl) (v := 8) rfl ?_
  refine e_73 (f_58 (pc := 15) (e := (15, 73, 81, 0, 0, 0, 0, 18)) rfl) (fun c1 => ?_) (fun c1 => ?_)
  · replace F := F.1 c1
    exact e_122 (f_58 (pc := 81) (e := (81, 122, 0, 0, 0, 0, 0, 0)) rfl) F
  · replace F := F.2 c1
    refine e_12 (f_58 (pc := 18) (e := (18, 12, 0, 0, 0, 0, 0, 19)) rfl) rfl ?_
    refine e_90r zA (f_58 (pc := 19) (e := (19, 90, 5, 4, 3, 21, 912, 22)) rfl) rfl (hp.1 0 rfl) rfl rfl (hp.2 4 rfl) ?_
    refine e_10 (f_58 (pc := 22) (e := (22, 10, 1, 0, 0, 0, 0, 23)) rfl) rfl ?_
    refine e_0 (f_58 (pc := 23) (e := (23, 0, 4294967295, 0, 0, 0, 0, 24)) rfl) (v := (-1)) rfl ?_
    obtain ⟨b2, b3, F⟩ := F
    refine e_111 (f_58 (pc := 24) (e := (24, 111, 0, 0, 0, 0, 0, 25)) rfl) rfl (hp.1 4 rfl) b2 b3 ?_
    replace F := F _ rfl
    refine e_12 (f_58 (pc := 25) (e := (25, 12, 0, 0, 0, 0, 0, 26)) rfl) rfl ?_
    refine e_90r zA (f_58 (pc := 26) (e := (26, 90, 5, 5, 3, 24, 913, 29)) rfl) rfl (hp.1 0 rfl) rfl rfl (hp.2 5 rfl) ?_
    refine e_10 (f_58 (pc := 29) (e := (29, 10, 1, 0, 0, 0, 0, 30)) rfl) rfl ?_
    refine e_0 (f_58 (pc := 30) (e := (30, 0, 4294967295, 0, 0, 0, 0, 31)) rfl) (v := (-1)) rfl ?_
    obtain ⟨b5, b6, F⟩ := F
    refine e_111 (f_58 (pc := 31) (e := (31, 111, 0, 0, 0, 0, 0, 32)) rfl) rfl (hp.1 5 rfl) b5 b6 ?_
    replace F := F _ rfl
    refine e_12 (f_58 (pc := 32) (e := (32, 12, 0, 0, 0, 0, 0, 33)) rfl) rfl ?_
    refine e_90r zA (f_58 (pc := 33) (e := (33, 90, 5, 6, 3, 27, 914, 36)) rfl) rfl (hp.1 0 rfl) rfl rfl (hp.2 6 rfl) ?_
    refine e_10 (f_58 (pc := 36) (e := (36, 10, 1, 0, 0, 0, 0, 37)) rfl) rfl ?_
    refine e_0 (f_58 (pc := 37) (e := (37, 0, 0, 0, 0, 0, 0, 38)) rfl) (v := 0) rfl ?_
    obtain ⟨b8, b9, F⟩ := F
    refine e_111 (f_58 (pc := 38) (e := (38, 111, 0, 0, 0, 0, 0, 39)) rfl) rfl (hp.1 6 rfl) b8 b9 ?_
    replace F := F _ rfl
    refine e_12 (f_58 (pc := 39) (e := (39, 12, 0, 0, 0, 0, 0, 40)) rfl) rfl ?_
    refine e_90r zA (f_58 (pc := 40) (e := (40, 90, 5, 7, 3, 30, 915, 43)) rfl) rfl (hp.1 0 rfl) rfl rfl (hp.2 7 rfl) ?_
    refine e_10 (f_58 (pc := 43) (e := (43, 10, 1, 0, 0, 0, 0, 44)) rfl) rfl ?_
    refine e_0 (f_58 (pc := 44) (e := (44, 0, 0, 0, 0, 0, 0, 45)) rfl) (v := 0) rfl ?_
    obtain ⟨b11, b12, F⟩ := F
    refine e_111 (f_58 (pc := 45) (e := (45, 111, 0, 0, 0, 0, 0, 46)) rfl) rfl (hp.1 7 rfl) b11 b12 ?_
    replace F := F _ rfl
    refine e_12 (f_58 (pc := 46) (e := (46, 12, 0, 0, 0, 0, 0, 47)) rfl) rfl ?_
    refine e_90r zA (f_58 (pc := 47) (e := (47, 90, 5, 8, 3, 33, 916, 50)) rfl) rfl (hp.1 0 rfl) rfl rfl (hp.2 8 rfl) ?_
    refine e_10 (f_58 (pc := 50) (e := (50, 10, 1, 0, 0, 0, 0, 51)) rfl) rfl ?_
    refine e_0 (f_58 (pc := 51) (e := (51, 0, 0, 0, 0, 0, 0, 52)) rfl) (v := 0) rfl ?_
    obtain ⟨b14, b15, F⟩ := F
    refine e_111 (f_58 (pc := 52) (e := (52, 111, 0, 0, 0, 0, 0, 53)) rfl) rfl (hp.1 8 rfl) b14 b15 ?_
    replace F := F _ rfl
    refine e_12 (f_58 (pc := 53) (e := (53, 12, 0, 0, 0, 0, 0, 54)) rfl) rfl ?_
    refine e_90r zA (f_58 (pc := 54) (e := (54, 90, 5, 9, 3, 36, 917, 57)) rfl) rfl (hp.1 0 rfl) rfl rfl (hp.2 9 rfl) ?_
    refine e_10 (f_58 (pc := 57) (e := (57, 10, 1, 0, 0, 0, 0, 58)) rfl) rfl ?_
    refine e_0 (f_58 (pc := 58) (e := (58, 0, 4294967295, 0, 0, 0, 0, 59)) rfl) (v := (-1)) rfl ?_
    obtain ⟨b17, b18, F⟩ := F
    refine e_111 (f_58 (pc := 59) (e := (59, 111, 0, 0, 0, 0, 0, 60)) rfl) rfl (hp.1 9 rfl) b17 b18 ?_
    replace F := F _ rfl
    refine e_12 (f_58 (pc := 60) (e := (60, 12, 0, 0, 0, 0, 0, 61)) rfl) rfl ?_
    refine e_90r zA (f_58 (pc := 61) (e := (61, 90, 5, 10, 3, 39, 918, 64)) rfl) rfl (hp.1 0 rfl) rfl rfl (hp.2 10 rfl) ?_
    refine e_10 (f_58 (pc := 64) (e := (64, 10, 1, 0, 0, 0, 0, 65)) rfl) rfl ?_
    refine e_1 (f_58 (pc := 65) (e := (65, 1, 4294967294, 0, 0, 0, 0, 67)) rfl) (v := (-2)) rfl ?_
    obtain ⟨b20, b21, F⟩ := F
    refine e_111 (f_58 (pc := 67) (e := (67, 111, 0, 0, 0, 0, 0, 68)) rfl) rfl (hp.1 10 rfl) b20 b21 ?_
    replace F := F _ rfl
    refine e_12 (f_58 (pc := 68) (e := (68, 12, 0, 0, 0, 0, 0, 69)) rfl) rfl ?_
    refine e_90r zA (f_58 (pc := 69) (e := (69, 90, 5, 11, 3, 42, 919, 72)) rfl) rfl (hp.1 0 rfl) rfl rfl (hp.2 11 rfl) ?_
    refine e_10 (f_58 (pc := 72) (e := (72, 10, 1, 0, 0, 0, 0, 73)) rfl) rfl ?_
    refine e_0 (f_58 (pc := 73) (e := (73, 0, 0, 0, 0, 0, 0, 74)) rfl) (v := 0) rfl ?_
    obtain ⟨b23, b24, F⟩ := F
    refine e_111 (f_58 (pc := 74) (e := (74, 111, 0, 0, 0, 0, 0, 75)) rfl) rfl (hp.1 11 rfl) b23 b24 ?_
    replace F := F _ rfl
    refine e_26 (f_58 (pc := 75) (e := (75, 26, 1, 1, 0, 0, 0, 78)) rfl) (w := 1) rfl rfl ?_
    refine e_80 (f_58 (pc := 78) (e := (78, 80, 12, 0, 0, 0, 0, 81)) rfl) ?_
    refine e_lo [0, 1] rfl ?_
    exact F

/-! ChairAlley$State.chairsOn(I)I -/
set_option maxRecDepth 20000 in
theorem B_59_0 (hT : yLT T) (hR : yLR R) {p : Nat} (hp : yAtState T R p) {x1 : Int} (F : yW l zSS D cy zFk z d 59 bc bs K 0 0 4 [(0, yr (some p)), (1, yi x1), (2, yi 0), (3, yi 0)] [] (N, T, R, I)) :
    yW l zSS D cy zFk z d 59 bc bs K 0 0 0 [(0, yr (some p)), (1, yi x1)] [] (N, T, R, I) := by
  refine e_0 (f_59 (pc := 0) (e := (0, 0, 0, 0, 0, 0, 0, 1)) rfl) (v := 0) rfl ?_
  refine e_20 (f_59 (pc := 1) (e := (1, 20, 2, 0, 0, 0, 0, 2)) rfl) ?_
  refine e_0 (f_59 (pc := 2) (e := (2, 0, 0, 0, 0, 0, 0, 3)) rfl) (v := 0) rfl ?_
  refine e_20 (f_59 (pc := 3) (e := (3, 20, 3, 0, 0, 0, 0, 4)) rfl) ?_
  refine e_lo [0, 1, 2, 3] rfl ?_
  exact F
set_option maxRecDepth 20000 in
theorem B_59_4 (hT : yLT T) (hR : yLR R) {p : Nat} (hp : yAtState T R p) {x1 x2 x3 : Int} (F : (8 ≤ x3 → K (some (yi x2)) (N, T, R, I)) ∧ (¬ (8 ≤ x3) → 0 ≤ x3 ∧ x3 < 8 ∧ (((I (p + 4) x3.toNat) ≠ x1 → yW l zSS D cy zFk z d 59 bc bs K 0 0 4 [(0, yr (some p)), (1, yi x1), (2, yi (yadd x2 0)), (3, yi (yadd x3 1))] [] (N, T, R, I)) ∧ (¬ ((I (p + 4) x3.toNat) ≠ x1) → yW l zSS D cy zFk z d 59 bc bs K 0 0 4 [(0, yr (some p)), (1, yi x1), (2, yi (yadd x2 1)), (3, yi (yadd x3 1))] [] (N, T, R, I))))) :
    yW l zSS D cy zFk z d 59 bc bs K 0 0 4 [(0, yr (some p)), (1, yi x1), (2, yi x2), (3, yi x3)] [] (N, T, R, I) := by
  refine e_10 (f_59 (pc := 4) (e := (4, 10, 3, 0, 0, 0, 0, 5)) rfl) rfl ?_
  refine e_1 (f_59 (pc := 5) (e := (5, 1, 8, 0, 0, 0, 0, 7)) rfl) (v := 8) rfl ?_
  refine e_73 (f_59 (pc := 7) (e := (7, 73, 34, 0, 0, 0, 0, 10)) rfl) (fun c1 => ?_) (fun c1 => ?_)
  · replace F := F.1 c1
    refine e_10 (f_59 (pc := 34) (e := (34, 10, 2, 0, 0, 0, 0, 35)) rfl) rfl ?_
    exact e_120 (f_59 (pc := 35) (e := (35, 120, 0, 0, 0, 0, 0, 0)) rfl) F
  · replace F := F.2 c1
    refine e_10 (f_59 (pc := 10) (e := (10, 10, 2, 0, 0, 0, 0, 11)) rfl) rfl ?_
    refine e_12 (f_59 (pc := 11) (e := (11, 12, 0, 0, 0, 0, 0, 12)) rfl) rfl ?_
    refine e_90r zA (f_59 (pc := 12) (e := (12, 90, 5, 4, 3, 21, 912, 15)) rfl) rfl (hp.1 0 rfl) rfl rfl (hp.2 4 rfl) ?_
    refine e_10 (f_59 (pc := 15) (e := (15, 10, 3, 0, 0, 0, 0, 16)) rfl) rfl ?_
    obtain ⟨b2, b3, F⟩ := F
    refine e_110 (f_59 (pc := 16) (e := (16, 110, 0, 0, 0, 0, 0, 17)) rfl) rfl (hp.1 4 rfl) b2 b3 ?_
    refine e_10 (f_59 (pc := 17) (e := (17, 10, 1, 0, 0, 0, 0, 18)) rfl) rfl ?_
    refine e_71 (f_59 (pc := 18) (e := (18, 71, 25, 0, 0, 0, 0, 21)) rfl) (fun c4 => ?_) (fun c4 => ?_)
    · replace F := F.1 c4
      refine e_0 (f_59 (pc := 25) (e := (25, 0, 0, 0, 0, 0, 0, 26)) rfl) (v := 0) rfl ?_
      refine e_30 (f_59 (pc := 26) (e := (26, 30, 0, 0, 0, 0, 0, 27)) rfl) ?_
      refine e_20 (f_59 (pc := 27) (e := (27, 20, 2, 0, 0, 0, 0, 28)) rfl) ?_
      refine e_26 (f_59 (pc := 28) (e := (28, 26, 3, 1, 0, 0, 0, 31)) rfl) (w := 1) rfl rfl ?_
      refine e_80 (f_59 (pc := 31) (e := (31, 80, 4, 0, 0, 0, 0, 34)) rfl) ?_
      refine e_lo [0, 1, 2, 3] rfl ?_
      exact F
    · replace F := F.2 c4
      refine e_0 (f_59 (pc := 21) (e := (21, 0, 1, 0, 0, 0, 0, 22)) rfl) (v := 1) rfl ?_
      refine e_80 (f_59 (pc := 22) (e := (22, 80, 26, 0, 0, 0, 0, 25)) rfl) ?_
      refine e_30 (f_59 (pc := 26) (e := (26, 30, 0, 0, 0, 0, 0, 27)) rfl) ?_
      refine e_20 (f_59 (pc := 27) (e := (27, 20, 2, 0, 0, 0, 0, 28)) rfl) ?_
      refine e_26 (f_59 (pc := 28) (e := (28, 26, 3, 1, 0, 0, 0, 31)) rfl) (w := 1) rfl rfl ?_
      refine e_80 (f_59 (pc := 31) (e := (31, 80, 4, 0, 0, 0, 0, 34)) rfl) ?_
      refine e_lo [0, 1, 2, 3] rfl ?_
      exact F

/-! ChairAlley$State.chairsOut(I)I -/
set_option maxRecDepth 20000 in
theorem B_60_0 (hT : yLT T) (hR : yLR R) {p : Nat} (hp : yAtState T R p) {x1 : Int} (F : yW l zSS D cy zFk z d 60 bc bs K 0 0 4 [(0, yr (some p)), (1, yi x1), (2, yi 0), (3, yi 0)] [] (N, T, R, I)) :
    yW l zSS D cy zFk z d 60 bc bs K 0 0 0 [(0, yr (some p)), (1, yi x1)] [] (N, T, R, I) := by
  refine e_0 (f_60 (pc := 0) (e := (0, 0, 0, 0, 0, 0, 0, 1)) rfl) (v := 0) rfl ?_
  refine e_20 (f_60 (pc := 1) (e := (1, 20, 2, 0, 0, 0, 0, 2)) rfl) ?_
  refine e_0 (f_60 (pc := 2) (e := (2, 0, 0, 0, 0, 0, 0, 3)) rfl) (v := 0) rfl ?_
  refine e_20 (f_60 (pc := 3) (e := (3, 20, 3, 0, 0, 0, 0, 4)) rfl) ?_
  refine e_lo [0, 1, 2, 3] rfl ?_
  exact F
set_option maxRecDepth 20000 in
theorem B_60_4 (hT : yLT T) (hR : yLR R) {p : Nat} (hp : yAtState T R p) {x1 x2 x3 : Int} (F : (x1 ≤ x3 → K (some (yi x2)) (N, T, R, I)) ∧ (¬ (x1 ≤ x3) → (8 ≤ x3 → K (some (yi x2)) (N, T, R, I)) ∧ (¬ (8 ≤ x3) → 0 ≤ x3 ∧ x3 < 8 ∧ (((I (p + 4) x3.toNat) = (-1) → yW l zSS D cy zFk z d 60 bc bs K 0 0 4 [(0, yr (some p)), (1, yi x1), (2, yi (yadd x2 0)), (3, yi (yadd x3 1))] [] (N, T, R, I)) ∧ (¬ ((I (p + 4) x3.toNat) = (-1)) → yW l zSS D cy zFk z d 60 bc bs K 0 0 4 [(0, yr (some p)), (1, yi x1), (2, yi (yadd x2 1)), (3, yi (yadd x3 1))] [] (N, T, R, I)))))) :
    yW l zSS D cy zFk z d 60 bc bs K 0 0 4 [(0, yr (some p)), (1, yi x1), (2, yi x2), (3, yi x3)] [] (N, T, R, I) := by
  refine e_10 (f_60 (pc := 4) (e := (4, 10, 3, 0, 0, 0, 0, 5)) rfl) rfl ?_
  refine e_10 (f_60 (pc := 5) (e := (5, 10, 1, 0, 0, 0, 0, 6)) rfl) rfl ?_
  refine e_73 (f_60 (pc := 6) (e := (6, 73, 39, 0, 0, 0, 0, 9)) rfl) (fun c1 => ?_) (fun c1 => ?_)
  · replace F := F.1 c1
    refine e_10 (f_60 (pc := 39) (e := (39, 10, 2, 0, 0, 0, 0, 40)) rfl) rfl ?_
    exact e_120 (f_60 (pc := 40) (e := (40, 120, 0, 0, 0, 0, 0, 0)) rfl) F
  · replace F := F.2 c1
    refine e_10 (f_60 (pc := 9) (e := (9, 10, 3, 0, 0, 0, 0, 10)) rfl) rfl ?_
    refine e_1 (f_60 (pc := 10) (e := (10, 1, 8, 0, 0, 0, 0, 12)) rfl) (v := 8) rfl ?_
    refine e_73 (f_60 (pc := 12) (e := (12, 73, 39, 0, 0, 0, 0, 15)) rfl) (fun c2 => ?_) (fun c2 => ?_)
    · replace F := F.1 c2
      refine e_10 (f_60 (pc := 39) (e := (39, 10, 2, 0, 0, 0, 0, 40)) rfl) rfl ?_
      exact e_120 (f_60 (pc := 40) (e := (40, 120, 0, 0, 0, 0, 0, 0)) rfl) F
    · replace F := F.2 c2
      refine e_10 (f_60 (pc := 15) (e := (15, 10, 2, 0, 0, 0, 0, 16)) rfl) rfl ?_
      refine e_12 (f_60 (pc := 16) (e := (16, 12, 0, 0, 0, 0, 0, 17)) rfl) rfl ?_
      refine e_90r zA (f_60 (pc := 17) (e := (17, 90, 5, 4, 3, 21, 912, 20)) rfl) rfl (hp.1 0 rfl) rfl rfl (hp.2 4 rfl) ?_
      refine e_10 (f_60 (pc := 20) (e := (20, 10, 3, 0, 0, 0, 0, 21)) rfl) rfl ?_
      obtain ⟨b3, b4, F⟩ := F
      refine e_110 (f_60 (pc := 21) (e := (21, 110, 0, 0, 0, 0, 0, 22)) rfl) rfl (hp.1 4 rfl) b3 b4 ?_
      refine e_0 (f_60 (pc := 22) (e := (22, 0, 4294967295, 0, 0, 0, 0, 23)) rfl) (v := (-1)) rfl ?_
      refine e_70 (f_60 (pc := 23) (e := (23, 70, 30, 0, 0, 0, 0, 26)) rfl) (fun c5 => ?_) (fun c5 => ?_)
      · replace F := F.1 c5
        refine e_0 (f_60 (pc := 30) (e := (30, 0, 0, 0, 0, 0, 0, 31)) rfl) (v := 0) rfl ?_
        refine e_30 (f_60 (pc := 31) (e := (31, 30, 0, 0, 0, 0, 0, 32)) rfl) ?_
        refine e_20 (f_60 (pc := 32) (e := (32, 20, 2, 0, 0, 0, 0, 33)) rfl) ?_
        refine e_26 (f_60 (pc := 33) (e := (33, 26, 3, 1, 0, 0, 0, 36)) rfl) (w := 1) rfl rfl ?_
        refine e_80 (f_60 (pc := 36) (e := (36, 80, 4, 0, 0, 0, 0, 39)) rfl) ?_
        refine e_lo [0, 1, 2, 3] rfl ?_
        exact F
      · replace F := F.2 c5
        refine e_0 (f_60 (pc := 26) (e := (26, 0, 1, 0, 0, 0, 0, 27)) rfl) (v := 1) rfl ?_
        refine e_80 (f_60 (pc := 27) (e := (27, 80, 31, 0, 0, 0, 0, 30)) rfl) ?_
        refine e_30 (f_60 (pc := 31) (e := (31, 30, 0, 0, 0, 0, 0, 32)) rfl) ?_
        refine e_20 (f_60 (pc := 32) (e := (32, 20, 2, 0, 0, 0, 0, 33)) rfl) ?_
        refine e_26 (f_60 (pc := 33) (e := (33, 26, 3, 1, 0, 0, 0, 36)) rfl) (w := 1) rfl rfl ?_
        refine e_80 (f_60 (pc := 36) (e := (36, 80, 4, 0, 0, 0, 0, 39)) rfl) ?_
        refine e_lo [0, 1, 2, 3] rfl ?_
        exact F

/-! ChairAlley$State.chairsThere(I)I -/
set_option maxRecDepth 20000 in
theorem B_61_0 (hT : yLT T) (hR : yLR R) {p : Nat} (hp : yAtState T R p) {x1 : Int} (F : yW l zSS D cy zFk z d 61 bc bs K 0 0 4 [(0, yr (some p)), (1, yi x1), (2, yi 0), (3, yi 0)] [] (N, T, R, I)) :
    yW l zSS D cy zFk z d 61 bc bs K 0 0 0 [(0, yr (some p)), (1, yi x1)] [] (N, T, R, I) := by
  refine e_0 (f_61 (pc := 0) (e := (0, 0, 0, 0, 0, 0, 0, 1)) rfl) (v := 0) rfl ?_
  refine e_20 (f_61 (pc := 1) (e := (1, 20, 2, 0, 0, 0, 0, 2)) rfl) ?_
  refine e_0 (f_61 (pc := 2) (e := (2, 0, 0, 0, 0, 0, 0, 3)) rfl) (v := 0) rfl ?_
  refine e_20 (f_61 (pc := 3) (e := (3, 20, 3, 0, 0, 0, 0, 4)) rfl) ?_
  refine e_lo [0, 1, 2, 3] rfl ?_
  exact F
set_option maxRecDepth 20000 in
theorem B_61_4 (hT : yLT T) (hR : yLR R) {p : Nat} (hp : yAtState T R p) {x1 x2 x3 : Int} (F : (x1 ≤ x3 → K (some (yi x2)) (N, T, R, I)) ∧ (¬ (x1 ≤ x3) → (8 ≤ x3 → K (some (yi x2)) (N, T, R, I)) ∧ (¬ (8 ≤ x3) → 0 ≤ x3 ∧ x3 < 8 ∧ (((I (p + 9) x3.toNat) = (-1) → yW l zSS D cy zFk z d 61 bc bs K 0 0 4 [(0, yr (some p)), (1, yi x1), (2, yi (yadd x2 0)), (3, yi (yadd x3 1))] [] (N, T, R, I)) ∧ (¬ ((I (p + 9) x3.toNat) = (-1)) → yW l zSS D cy zFk z d 61 bc bs K 0 0 4 [(0, yr (some p)), (1, yi x1), (2, yi (yadd x2 1)), (3, yi (yadd x3 1))] [] (N, T, R, I)))))) :
    yW l zSS D cy zFk z d 61 bc bs K 0 0 4 [(0, yr (some p)), (1, yi x1), (2, yi x2), (3, yi x3)] [] (N, T, R, I) := by
  refine e_10 (f_61 (pc := 4) (e := (4, 10, 3, 0, 0, 0, 0, 5)) rfl) rfl ?_
  refine e_10 (f_61 (pc := 5) (e := (5, 10, 1, 0, 0, 0, 0, 6)) rfl) rfl ?_
  refine e_73 (f_61 (pc := 6) (e := (6, 73, 39, 0, 0, 0, 0, 9)) rfl) (fun c1 => ?_) (fun c1 => ?_)
  · replace F := F.1 c1
    refine e_10 (f_61 (pc := 39) (e := (39, 10, 2, 0, 0, 0, 0, 40)) rfl) rfl ?_
    exact e_120 (f_61 (pc := 40) (e := (40, 120, 0, 0, 0, 0, 0, 0)) rfl) F
  · replace F := F.2 c1
    refine e_10 (f_61 (pc := 9) (e := (9, 10, 3, 0, 0, 0, 0, 10)) rfl) rfl ?_
    refine e_1 (f_61 (pc := 10) (e := (10, 1, 8, 0, 0, 0, 0, 12)) rfl) (v := 8) rfl ?_
    refine e_73 (f_61 (pc := 12) (e := (12, 73, 39, 0, 0, 0, 0, 15)) rfl) (fun c2 => ?_) (fun c2 => ?_)
    · replace F := F.1 c2
      refine e_10 (f_61 (pc := 39) (e := (39, 10, 2, 0, 0, 0, 0, 40)) rfl) rfl ?_
      exact e_120 (f_61 (pc := 40) (e := (40, 120, 0, 0, 0, 0, 0, 0)) rfl) F
    · replace F := F.2 c2
      refine e_10 (f_61 (pc := 15) (e := (15, 10, 2, 0, 0, 0, 0, 16)) rfl) rfl ?_
      refine e_12 (f_61 (pc := 16) (e := (16, 12, 0, 0, 0, 0, 0, 17)) rfl) rfl ?_
      refine e_90r zA (f_61 (pc := 17) (e := (17, 90, 5, 9, 3, 36, 917, 20)) rfl) rfl (hp.1 0 rfl) rfl rfl (hp.2 9 rfl) ?_
      refine e_10 (f_61 (pc := 20) (e := (20, 10, 3, 0, 0, 0, 0, 21)) rfl) rfl ?_
      obtain ⟨b3, b4, F⟩ := F
      refine e_110 (f_61 (pc := 21) (e := (21, 110, 0, 0, 0, 0, 0, 22)) rfl) rfl (hp.1 9 rfl) b3 b4 ?_
      refine e_0 (f_61 (pc := 22) (e := (22, 0, 4294967295, 0, 0, 0, 0, 23)) rfl) (v := (-1)) rfl ?_
      refine e_70 (f_61 (pc := 23) (e := (23, 70, 30, 0, 0, 0, 0, 26)) rfl) (fun c5 => ?_) (fun c5 => ?_)
      · replace F := F.1 c5
        refine e_0 (f_61 (pc := 30) (e := (30, 0, 0, 0, 0, 0, 0, 31)) rfl) (v := 0) rfl ?_
        refine e_30 (f_61 (pc := 31) (e := (31, 30, 0, 0, 0, 0, 0, 32)) rfl) ?_
        refine e_20 (f_61 (pc := 32) (e := (32, 20, 2, 0, 0, 0, 0, 33)) rfl) ?_
        refine e_26 (f_61 (pc := 33) (e := (33, 26, 3, 1, 0, 0, 0, 36)) rfl) (w := 1) rfl rfl ?_
        refine e_80 (f_61 (pc := 36) (e := (36, 80, 4, 0, 0, 0, 0, 39)) rfl) ?_
        refine e_lo [0, 1, 2, 3] rfl ?_
        exact F
      · replace F := F.2 c5
        refine e_0 (f_61 (pc := 26) (e := (26, 0, 1, 0, 0, 0, 0, 27)) rfl) (v := 1) rfl ?_
        refine e_80 (f_61 (pc := 27) (e := (27, 80, 31, 0, 0, 0, 0, 30)) rfl) ?_
        refine e_30 (f_61 (pc := 31) (e := (31, 30, 0, 0, 0, 0, 0, 32)) rfl) ?_
        refine e_20 (f_61 (pc := 32) (e := (32, 20, 2, 0, 0, 0, 0, 33)) rfl) ?_
        refine e_26 (f_61 (pc := 33) (e := (33, 26, 3, 1, 0, 0, 0, 36)) rfl) (w := 1) rfl rfl ?_
        refine e_80 (f_61 (pc := 36) (e := (36, 80, 4, 0, 0, 0, 0, 39)) rfl) ?_
        refine e_lo [0, 1, 2, 3] rfl ?_
        exact F

/-! ChairAlley$State.copyFrom(LChairAlley$State;)V -/
set_option maxRecDepth 20000 in
theorem B_62_0 (hT : yLT T) (hR : yLR R) {p : Nat} (hp : yAtState T R p) {q : Nat} (hq : yAtState T R q) (F : ∀ I1, I1 = yU I p 0 (I q 0) → (∀ I2, I2 = yU I1 p 12 (I1 q 12) → (∀ I3, I3 = yC I2 (q + 1) (p + 1) 100 → (yW l zSS D cy zFk z (d + 1) 62 bc bs K 0 0 33 [(0, yr (some p)), (1, yr (some q)), (2, yi 0)] [] (N, T, R, I3))))) :
    yW l zSS D cy zFk z (d + 1) 62 bc bs K 0 0 0 [(0, yr (some p)), (1, yr (some q))] [] (N, T, R, I) := by
  refine e_12 (f_62 (pc := 0) (e := (0, 12, 0, 0, 0, 0, 0, 1)) rfl) rfl ?_
  refine e_12 (f_62 (pc := 1) (e := (1, 12, 1, 0, 0, 0, 0, 2)) rfl) rfl ?_
  refine e_90 zA (f_62 (pc := 2) (e := (2, 90, 5, 0, 0, 68, 922, 5)) rfl) rfl (hq.1 0 rfl) rfl rfl ?_
  refine e_91 zA (f_62 (pc := 5) (e := (5, 91, 5, 0, 0, 68, 922, 8)) rfl) rfl (hp.1 0 rfl) rfl rfl trivial ?_
  replace F := F _ rfl
  refine e_12 (f_62 (pc := 8) (e := (8, 12, 0, 0, 0, 0, 0, 9)) rfl) rfl ?_
  refine e_12 (f_62 (pc := 9) (e := (9, 12, 1, 0, 0, 0, 0, 10)) rfl) rfl ?_
  refine e_90 zA (f_62 (pc := 10) (e := (10, 90, 5, 12, 0, 72, 921, 13)) rfl) rfl (hq.1 0 rfl) rfl rfl ?_
  refine e_91 zA (f_62 (pc := 13) (e := (13, 91, 5, 12, 0, 72, 921, 16)) rfl) rfl (hp.1 0 rfl) rfl rfl trivial ?_
  replace F := F _ rfl
  refine e_12 (f_62 (pc := 16) (e := (16, 12, 1, 0, 0, 0, 0, 17)) rfl) rfl ?_
  refine e_90r zA (f_62 (pc := 17) (e := (17, 90, 5, 1, 3, 9, 909, 20)) rfl) rfl (hq.1 0 rfl) rfl rfl (hq.2 1 rfl) ?_
  refine e_0 (f_62 (pc := 20) (e := (20, 0, 0, 0, 0, 0, 0, 21)) rfl) (v := 0) rfl ?_
  refine e_12 (f_62 (pc := 21) (e := (21, 12, 0, 0, 0, 0, 0, 22)) rfl) rfl ?_
  refine e_90r zA (f_62 (pc := 22) (e := (22, 90, 5, 1, 3, 9, 909, 25)) rfl) rfl (hp.1 0 rfl) rfl rfl (hp.2 1 rfl) ?_
  refine e_0 (f_62 (pc := 25) (e := (25, 0, 0, 0, 0, 0, 0, 26)) rfl) (v := 0) rfl ?_
  refine e_1 (f_62 (pc := 26) (e := (26, 1, 100, 0, 0, 0, 0, 28)) rfl) (v := 100) rfl ?_
  refine e_135 (f_62 (pc := 28) (e := (28, 135, 0, 0, 0, 51, 924, 31)) rfl) zA rfl rfl (hp.1 1 rfl) (hq.1 1 rfl) rfl rfl rfl (by decide) (Nat.succ_pos _) (Nat.le_of_ble_eq_true rfl) ?_
  replace F := F _ rfl
  refine e_0 (f_62 (pc := 31) (e := (31, 0, 0, 0, 0, 0, 0, 32)) rfl) (v := 0) rfl ?_
  refine e_20 (f_62 (pc := 32) (e := (32, 20, 2, 0, 0, 0, 0, 33)) rfl) ?_
  refine e_lo [0, 1, 2] rfl ?_
  exact F
set_option maxRecDepth 20000 in
theorem B_62_33 (hT : yLT T) (hR : yLR R) {p : Nat} (hp : yAtState T R p) {q : Nat} (hq : yAtState T R q) {x2 : Int} (F : (8 ≤ x2 → yW l zSS D cy zFk z d 62 bc bs K 0 0 167 [(0, yr (some p)), (1, yr (some q)), (2, yi 0)] [] (N, T, R, I)) ∧ (¬ (8 ≤ x2) → 0 ≤ x2 ∧ x2 < 8 ∧ (0 ≤ x2 ∧ x2 < 8 ∧ (∀ I6, I6 = yU I (p + 2) x2.toNat (ynar 1 (I (q + 2) x2.toNat)) → (0 ≤ x2 ∧ x2 < 8 ∧ (0 ≤ x2 ∧ x2 < 8 ∧ (∀ I11, I11 = yU I6 (p + 3) x2.toNat (ynar 1 (I6 (q + 3) x2.toNat)) → (0 ≤ x2 ∧ x2 < 8 ∧ (0 ≤ x2 ∧ x2 < 8 ∧ (∀ I16, I16 = yU I11 (p + 4) x2.toNat (ynar 1 (I11 (q + 4) x2.toNat)) → (0 ≤ x2 ∧ x2 < 8 ∧ (0 ≤ x2 ∧ x2 < 8 ∧ (∀ I21, I21 = yU I16 (p + 5) x2.toNat (ynar 1 (I16 (q + 5) x2.toNat)) → (0 ≤ x2 ∧ x2 < 8 ∧ (0 ≤ x2 ∧ x2 < 8 ∧ (∀ I26, I26 = yU I21 (p + 6) x2.toNat (ynar 1 (I21 (q + 6) x2.toNat)) → (0 ≤ x2 ∧ x2 < 8 ∧ (0 ≤ x2 ∧ x2 < 8 ∧ (∀ I31, I31 = yU I26 (p + 7) x2.toNat (ynar 1 (I26 (q + 7) x2.toNat)) → (0 ≤ x2 ∧ x2 < 8 ∧ (0 ≤ x2 ∧ x2 < 8 ∧ (∀ I36, I36 = yU I31 (p + 8) x2.toNat (ynar 1 (I31 (q + 8) x2.toNat)) → (0 ≤ x2 ∧ x2 < 8 ∧ (0 ≤ x2 ∧ x2 < 8 ∧ (∀ I41, I41 = yU I36 (p + 9) x2.toNat (ynar 1 (I36 (q + 9) x2.toNat)) → (0 ≤ x2 ∧ x2 < 8 ∧ (0 ≤ x2 ∧ x2 < 8 ∧ (∀ I46, I46 = yU I41 (p + 10) x2.toNat (ynar 1 (I41 (q + 10) x2.toNat)) → (0 ≤ x2 ∧ x2 < 8 ∧ (0 ≤ x2 ∧ x2 < 8 ∧ (∀ I51, I51 = yU I46 (p + 11) x2.toNat (ynar 1 (I46 (q + 11) x2.toNat)) → (yW l zSS D cy zFk z d 62 bc bs K 0 0 33 [(0, yr (some p)), (1, yr (some q)), (2, yi (yadd x2 1))] [] (N, T, R, I51))))))))))))))))))))))))))))))))) :
    yW l zSS D cy zFk z d 62 bc bs K 0 0 33 [(0, yr (some p)), (1, yr (some q)), (2, yi x2)] [] (N, T, R, I) := by
  refine e_10 (f_62 (pc := 33) (e := (33, 10, 2, 0, 0, 0, 0, 34)) rfl) rfl ?_
  refine e_1 (f_62 (pc := 34) (e := (34, 1, 8, 0, 0, 0, 0, 36)) rfl) (v := 8) rfl ?_
  refine e_73 (f_62 (pc := 36) (e := (36, 73, 165, 0, 0, 0, 0, 39)) rfl) (fun c1 => ?_) (fun c1 => ?_)
  · replace F := F.1 c1
    refine e_0 (f_62 (pc := 165) (e := (165, 0, 0, 0, 0, 0, 0, 166)) rfl) (v := 0) rfl ?_
    refine e_20 (f_62 (pc := 166) (e := (166, 20, 2, 0, 0, 0, 0, 167)) rfl) ?_
    refine e_lo [0, 1, 2] rfl ?_
    exact F
  · replace F := F.2 c1
    refine e_12 (f_62 (pc := 39) (e := (39, 12, 0, 0, 0, 0, 0, 40)) rfl) rfl ?_
    refine e_90r zA (f_62 (pc := 40) (e := (40, 90, 5, 2, 3, 15, 910, 43)) rfl) rfl (hp.1 0 rfl) rfl rfl (hp.2 2 rfl) ?_
    refine e_10 (f_62 (pc := 43) (e := (43, 10, 2, 0, 0, 0, 0, 44)) rfl) rfl ?_
    refine e_12 (f_62 (pc := 44) (e := (44, 12, 1, 0, 0, 0, 0, 45)) rfl) rfl ?_
    refine e_90r zA (f_62 (pc := 45) (e := (45, 90, 5, 2, 3, 15, 910, 48)) rfl) rfl (hq.1 0 rfl) rfl rfl (hq.2 2 rfl) ?_
    refine e_10 (f_62 (pc := 48) (e := (48, 10, 2, 0, 0, 0, 0, 49)) rfl) rfl ?_
    obtain ⟨b2, b3, F⟩ := F
    refine e_110 (f_62 (pc := 49) (e := (49, 110, 0, 0, 0, 0, 0, 50)) rfl) rfl (hq.1 2 rfl) b2 b3 ?_
    obtain ⟨b4, b5, F⟩ := F
    refine e_111 (f_62 (pc := 50) (e := (50, 111, 0, 0, 0, 0, 0, 51)) rfl) rfl (hp.1 2 rfl) b4 b5 ?_
    replace F := F _ rfl
    refine e_12 (f_62 (pc := 51) (e := (51, 12, 0, 0, 0, 0, 0, 52)) rfl) rfl ?_
    refine e_90r zA (f_62 (pc := 52) (e := (52, 90, 5, 3, 3, 18, 911, 55)) rfl) rfl (hp.1 0 rfl) rfl rfl (hp.2 3 rfl) ?_
    refine e_10 (f_62 (pc := 55) (e := (55, 10, 2, 0, 0, 0, 0, 56)) rfl) rfl ?_
    refine e_12 (f_62 (pc := 56) (e := (56, 12, 1, 0, 0, 0, 0, 57)) rfl) rfl ?_
    refine e_90r zA (f_62 (pc := 57) (e := (57, 90, 5, 3, 3, 18, 911, 60)) rfl) rfl (hq.1 0 rfl) rfl rfl (hq.2 3 rfl) ?_
    refine e_10 (f_62 (pc := 60) (e := (60, 10, 2, 0, 0, 0, 0, 61)) rfl) rfl ?_
    obtain ⟨b7, b8, F⟩ := F
    refine e_110 (f_62 (pc := 61) (e := (61, 110, 0, 0, 0, 0, 0, 62)) rfl) rfl (hq.1 3 rfl) b7 b8 ?_
    obtain ⟨b9, b10, F⟩ := F
    refine e_111 (f_62 (pc := 62) (e := (62, 111, 0, 0, 0, 0, 0, 63)) rfl) rfl (hp.1 3 rfl) b9 b10 ?_
    replace F := F _ rfl
    refine e_12 (f_62 (pc := 63) (e := (63, 12, 0, 0, 0, 0, 0, 64)) rfl) rfl ?_
    refine e_90r zA (f_62 (pc := 64) (e := (64, 90, 5, 4, 3, 21, 912, 67)) rfl) rfl (hp.1 0 rfl) rfl rfl (hp.2 4 rfl) ?_
    refine e_10 (f_62 (pc := 67) (e := (67, 10, 2, 0, 0, 0, 0, 68)) rfl) rfl ?_
    refine e_12 (f_62 (pc := 68) (e := (68, 12, 1, 0, 0, 0, 0, 69)) rfl) rfl ?_
    refine e_90r zA (f_62 (pc := 69) (e := (69, 90, 5, 4, 3, 21, 912, 72)) rfl) rfl (hq.1 0 rfl) rfl rfl (hq.2 4 rfl) ?_
    refine e_10 (f_62 (pc := 72) (e := (72, 10, 2, 0, 0, 0, 0, 73)) rfl) rfl ?_
    obtain ⟨b12, b13, F⟩ := F
    refine e_110 (f_62 (pc := 73) (e := (73, 110, 0, 0, 0, 0, 0, 74)) rfl) rfl (hq.1 4 rfl) b12 b13 ?_
    obtain ⟨b14, b15, F⟩ := F
    refine e_111 (f_62 (pc := 74) (e := (74, 111, 0, 0, 0, 0, 0, 75)) rfl) rfl (hp.1 4 rfl) b14 b15 ?_
    replace F := F _ rfl
    refine e_12 (f_62 (pc := 75) (e := (75, 12, 0, 0, 0, 0, 0, 76)) rfl) rfl ?_
    refine e_90r zA (f_62 (pc := 76) (e := (76, 90, 5, 5, 3, 24, 913, 79)) rfl) rfl (hp.1 0 rfl) rfl rfl (hp.2 5 rfl) ?_
    refine e_10 (f_62 (pc := 79) (e := (79, 10, 2, 0, 0, 0, 0, 80)) rfl) rfl ?_
    refine e_12 (f_62 (pc := 80) (e := (80, 12, 1, 0, 0, 0, 0, 81)) rfl) rfl ?_
    refine e_90r zA (f_62 (pc := 81) (e := (81, 90, 5, 5, 3, 24, 913, 84)) rfl) rfl (hq.1 0 rfl) rfl rfl (hq.2 5 rfl) ?_
    refine e_10 (f_62 (pc := 84) (e := (84, 10, 2, 0, 0, 0, 0, 85)) rfl) rfl ?_
    obtain ⟨b17, b18, F⟩ := F
    refine e_110 (f_62 (pc := 85) (e := (85, 110, 0, 0, 0, 0, 0, 86)) rfl) rfl (hq.1 5 rfl) b17 b18 ?_
    obtain ⟨b19, b20, F⟩ := F
    refine e_111 (f_62 (pc := 86) (e := (86, 111, 0, 0, 0, 0, 0, 87)) rfl) rfl (hp.1 5 rfl) b19 b20 ?_
    replace F := F _ rfl
    refine e_12 (f_62 (pc := 87) (e := (87, 12, 0, 0, 0, 0, 0, 88)) rfl) rfl ?_
    refine e_90r zA (f_62 (pc := 88) (e := (88, 90, 5, 6, 3, 27, 914, 91)) rfl) rfl (hp.1 0 rfl) rfl rfl (hp.2 6 rfl) ?_
    refine e_10 (f_62 (pc := 91) (e := (91, 10, 2, 0, 0, 0, 0, 92)) rfl) rfl ?_
    refine e_12 (f_62 (pc := 92) (e := (92, 12, 1, 0, 0, 0, 0, 93)) rfl) rfl ?_
    refine e_90r zA (f_62 (pc := 93) (e := (93, 90, 5, 6, 3, 27, 914, 96)) rfl) rfl (hq.1 0 rfl) rfl rfl (hq.2 6 rfl) ?_
    refine e_10 (f_62 (pc := 96) (e := (96, 10, 2, 0, 0, 0, 0, 97)) rfl) rfl ?_
    obtain ⟨b22, b23, F⟩ := F
    refine e_110 (f_62 (pc := 97) (e := (97, 110, 0, 0, 0, 0, 0, 98)) rfl) rfl (hq.1 6 rfl) b22 b23 ?_
    obtain ⟨b24, b25, F⟩ := F
    refine e_111 (f_62 (pc := 98) (e := (98, 111, 0, 0, 0, 0, 0, 99)) rfl) rfl (hp.1 6 rfl) b24 b25 ?_
    replace F := F _ rfl
    refine e_12 (f_62 (pc := 99) (e := (99, 12, 0, 0, 0, 0, 0, 100)) rfl) rfl ?_
    refine e_90r zA (f_62 (pc := 100) (e := (100, 90, 5, 7, 3, 30, 915, 103)) rfl) rfl (hp.1 0 rfl) rfl rfl (hp.2 7 rfl) ?_
    refine e_10 (f_62 (pc := 103) (e := (103, 10, 2, 0, 0, 0, 0, 104)) rfl) rfl ?_
    refine e_12 (f_62 (pc := 104) (e := (104, 12, 1, 0, 0, 0, 0, 105)) rfl) rfl ?_
    refine e_90r zA (f_62 (pc := 105) (e := (105, 90, 5, 7, 3, 30, 915, 108)) rfl) rfl (hq.1 0 rfl) rfl rfl (hq.2 7 rfl) ?_
    refine e_10 (f_62 (pc := 108) (e := (108, 10, 2, 0, 0, 0, 0, 109)) rfl) rfl ?_
    obtain ⟨b27, b28, F⟩ := F
    refine e_110 (f_62 (pc := 109) (e := (109, 110, 0, 0, 0, 0, 0, 110)) rfl) rfl (hq.1 7 rfl) b27 b28 ?_
    obtain ⟨b29, b30, F⟩ := F
    refine e_111 (f_62 (pc := 110) (e := (110, 111, 0, 0, 0, 0, 0, 111)) rfl) rfl (hp.1 7 rfl) b29 b30 ?_
    replace F := F _ rfl
    refine e_12 (f_62 (pc := 111) (e := (111, 12, 0, 0, 0, 0, 0, 112)) rfl) rfl ?_
    refine e_90r zA (f_62 (pc := 112) (e := (112, 90, 5, 8, 3, 33, 916, 115)) rfl) rfl (hp.1 0 rfl) rfl rfl (hp.2 8 rfl) ?_
    refine e_10 (f_62 (pc := 115) (e := (115, 10, 2, 0, 0, 0, 0, 116)) rfl) rfl ?_
    refine e_12 (f_62 (pc := 116) (e := (116, 12, 1, 0, 0, 0, 0, 117)) rfl) rfl ?_
    refine e_90r zA (f_62 (pc := 117) (e := (117, 90, 5, 8, 3, 33, 916, 120)) rfl) rfl (hq.1 0 rfl) rfl rfl (hq.2 8 rfl) ?_
    refine e_10 (f_62 (pc := 120) (e := (120, 10, 2, 0, 0, 0, 0, 121)) rfl) rfl ?_
    obtain ⟨b32, b33, F⟩ := F
    refine e_110 (f_62 (pc := 121) (e := (121, 110, 0, 0, 0, 0, 0, 122)) rfl) rfl (hq.1 8 rfl) b32 b33 ?_
    obtain ⟨b34, b35, F⟩ := F
    refine e_111 (f_62 (pc := 122) (e := (122, 111, 0, 0, 0, 0, 0, 123)) rfl) rfl (hp.1 8 rfl) b34 b35 ?_
    replace F := F _ rfl
    refine e_12 (f_62 (pc := 123) (e := (123, 12, 0, 0, 0, 0, 0, 124)) rfl) rfl ?_
    refine e_90r zA (f_62 (pc := 124) (e := (124, 90, 5, 9, 3, 36, 917, 127)) rfl) rfl (hp.1 0 rfl) rfl rfl (hp.2 9 rfl) ?_
    refine e_10 (f_62 (pc := 127) (e := (127, 10, 2, 0, 0, 0, 0, 128)) rfl) rfl ?_
    refine e_12 (f_62 (pc := 128) (e := (128, 12, 1, 0, 0, 0, 0, 129)) rfl) rfl ?_
    refine e_90r zA (f_62 (pc := 129) (e := (129, 90, 5, 9, 3, 36, 917, 132)) rfl) rfl (hq.1 0 rfl) rfl rfl (hq.2 9 rfl) ?_
    refine e_10 (f_62 (pc := 132) (e := (132, 10, 2, 0, 0, 0, 0, 133)) rfl) rfl ?_
    obtain ⟨b37, b38, F⟩ := F
    refine e_110 (f_62 (pc := 133) (e := (133, 110, 0, 0, 0, 0, 0, 134)) rfl) rfl (hq.1 9 rfl) b37 b38 ?_
    obtain ⟨b39, b40, F⟩ := F
    refine e_111 (f_62 (pc := 134) (e := (134, 111, 0, 0, 0, 0, 0, 135)) rfl) rfl (hp.1 9 rfl) b39 b40 ?_
    replace F := F _ rfl
    refine e_12 (f_62 (pc := 135) (e := (135, 12, 0, 0, 0, 0, 0, 136)) rfl) rfl ?_
    refine e_90r zA (f_62 (pc := 136) (e := (136, 90, 5, 10, 3, 39, 918, 139)) rfl) rfl (hp.1 0 rfl) rfl rfl (hp.2 10 rfl) ?_
    refine e_10 (f_62 (pc := 139) (e := (139, 10, 2, 0, 0, 0, 0, 140)) rfl) rfl ?_
    refine e_12 (f_62 (pc := 140) (e := (140, 12, 1, 0, 0, 0, 0, 141)) rfl) rfl ?_
    refine e_90r zA (f_62 (pc := 141) (e := (141, 90, 5, 10, 3, 39, 918, 144)) rfl) rfl (hq.1 0 rfl) rfl rfl (hq.2 10 rfl) ?_
    refine e_10 (f_62 (pc := 144) (e := (144, 10, 2, 0, 0, 0, 0, 145)) rfl) rfl ?_
    obtain ⟨b42, b43, F⟩ := F
    refine e_110 (f_62 (pc := 145) (e := (145, 110, 0, 0, 0, 0, 0, 146)) rfl) rfl (hq.1 10 rfl) b42 b43 ?_
    obtain ⟨b44, b45, F⟩ := F
    refine e_111 (f_62 (pc := 146) (e := (146, 111, 0, 0, 0, 0, 0, 147)) rfl) rfl (hp.1 10 rfl) b44 b45 ?_
    replace F := F _ rfl
    refine e_12 (f_62 (pc := 147) (e := (147, 12, 0, 0, 0, 0, 0, 148)) rfl) rfl ?_
    refine e_90r zA (f_62 (pc := 148) (e := (148, 90, 5, 11, 3, 42, 919, 151)) rfl) rfl (hp.1 0 rfl) rfl rfl (hp.2 11 rfl) ?_
    refine e_10 (f_62 (pc := 151) (e := (151, 10, 2, 0, 0, 0, 0, 152)) rfl) rfl ?_
    refine e_12 (f_62 (pc := 152) (e := (152, 12, 1, 0, 0, 0, 0, 153)) rfl) rfl ?_
    refine e_90r zA (f_62 (pc := 153) (e := (153, 90, 5, 11, 3, 42, 919, 156)) rfl) rfl (hq.1 0 rfl) rfl rfl (hq.2 11 rfl) ?_
    refine e_10 (f_62 (pc := 156) (e := (156, 10, 2, 0, 0, 0, 0, 157)) rfl) rfl ?_
    obtain ⟨b47, b48, F⟩ := F
    refine e_110 (f_62 (pc := 157) (e := (157, 110, 0, 0, 0, 0, 0, 158)) rfl) rfl (hq.1 11 rfl) b47 b48 ?_
    obtain ⟨b49, b50, F⟩ := F
    refine e_111 (f_62 (pc := 158) (e := (158, 111, 0, 0, 0, 0, 0, 159)) rfl) rfl (hp.1 11 rfl) b49 b50 ?_
    replace F := F _ rfl
    refine e_26 (f_62 (pc := 159) (e := (159, 26, 2, 1, 0, 0, 0, 162)) rfl) (w := 1) rfl rfl ?_
    refine e_80 (f_62 (pc := 162) (e := (162, 80, 33, 0, 0, 0, 0, 165)) rfl) ?_
    refine e_lo [0, 1, 2] rfl ?_
    exact F
set_option maxRecDepth 20000 in
theorem B_62_167 (hT : yLT T) (hR : yLR R) {p : Nat} (hp : yAtState T R p) {q : Nat} (hq : yAtState T R q) {x2 : Int} (F : ((ymul (I p 12) 5) ≤ x2 → K none (N, T, R, I)) ∧ (¬ ((ymul (I p 12) 5) ≤ x2) → (300 ≤ x2 → K none (N, T, R, I)) ∧ (¬ (300 ≤ x2) → 0 ≤ x2 ∧ x2 < 300 ∧ (0 ≤ x2 ∧ x2 < 300 ∧ (∀ I7, I7 = yU I (p + 12) x2.toNat (ynar 1 (I (q + 12) x2.toNat)) → (yW l zSS D cy zFk z d 62 bc bs K 0 0 167 [(0, yr (some p)), (1, yr (some q)), (2, yi (yadd x2 1))] [] (N, T, R, I7))))))) :
    yW l zSS D cy zFk z d 62 bc bs K 0 0 167 [(0, yr (some p)), (1, yr (some q)), (2, yi x2)] [] (N, T, R, I) := by
  refine e_10 (f_62 (pc := 167) (e := (167, 10, 2, 0, 0, 0, 0, 168)) rfl) rfl ?_
  refine e_12 (f_62 (pc := 168) (e := (168, 12, 0, 0, 0, 0, 0, 169)) rfl) rfl ?_
  refine e_90 zA (f_62 (pc := 169) (e := (169, 90, 5, 12, 0, 72, 921, 172)) rfl) rfl (hp.1 0 rfl) rfl rfl ?_
  refine e_0 (f_62 (pc := 172) (e := (172, 0, 5, 0, 0, 0, 0, 173)) rfl) (v := 5) rfl ?_
  refine e_32 (f_62 (pc := 173) (e := (173, 32, 0, 0, 0, 0, 0, 174)) rfl) ?_
  refine e_73 (f_62 (pc := 174) (e := (174, 73, 204, 0, 0, 0, 0, 177)) rfl) (fun c1 => ?_) (fun c1 => ?_)
  · replace F := F.1 c1
    exact e_122 (f_62 (pc := 204) (e := (204, 122, 0, 0, 0, 0, 0, 0)) rfl) F
  · replace F := F.2 c1
    refine e_10 (f_62 (pc := 177) (e := (177, 10, 2, 0, 0, 0, 0, 178)) rfl) rfl ?_
    refine e_12 (f_62 (pc := 178) (e := (178, 12, 0, 0, 0, 0, 0, 179)) rfl) rfl ?_
    refine e_90r zA (f_62 (pc := 179) (e := (179, 90, 5, 13, 3, 45, 920, 182)) rfl) rfl (hp.1 0 rfl) rfl rfl (hp.2 13 rfl) ?_
    refine e_103 (f_62 (pc := 182) (e := (182, 103, 0, 0, 0, 0, 0, 183)) rfl) rfl (hp.1 12 rfl) (by decide) (by decide) ?_
    refine e_73 (f_62 (pc := 183) (e := (183, 73, 204, 0, 0, 0, 0, 186)) rfl) (fun c2 => ?_) (fun c2 => ?_)
    · replace F := F.1 c2
      exact e_122 (f_62 (pc := 204) (e := (204, 122, 0, 0, 0, 0, 0, 0)) rfl) F
    · replace F := F.2 c2
      refine e_12 (f_62 (pc := 186) (e := (186, 12, 0, 0, 0, 0, 0, 187)) rfl) rfl ?_
      refine e_90r zA (f_62 (pc := 187) (e := (187, 90, 5, 13, 3, 45, 920, 190)) rfl) rfl (hp.1 0 rfl) rfl rfl (hp.2 13 rfl) ?_
      refine e_10 (f_62 (pc := 190) (e := (190, 10, 2, 0, 0, 0, 0, 191)) rfl) rfl ?_
      refine e_12 (f_62 (pc := 191) (e := (191, 12, 1, 0, 0, 0, 0, 192)) rfl) rfl ?_
      refine e_90r zA (f_62 (pc := 192) (e := (192, 90, 5, 13, 3, 45, 920, 195)) rfl) rfl (hq.1 0 rfl) rfl rfl (hq.2 13 rfl) ?_
      refine e_10 (f_62 (pc := 195) (e := (195, 10, 2, 0, 0, 0, 0, 196)) rfl) rfl ?_
      obtain ⟨b3, b4, F⟩ := F
      refine e_110 (f_62 (pc := 196) (e := (196, 110, 0, 0, 0, 0, 0, 197)) rfl) rfl (hq.1 12 rfl) b3 b4 ?_
      obtain ⟨b5, b6, F⟩ := F
      refine e_111 (f_62 (pc := 197) (e := (197, 111, 0, 0, 0, 0, 0, 198)) rfl) rfl (hp.1 12 rfl) b5 b6 ?_
      replace F := F _ rfl
      refine e_26 (f_62 (pc := 198) (e := (198, 26, 2, 1, 0, 0, 0, 201)) rfl) (w := 1) rfl rfl ?_
      refine e_80 (f_62 (pc := 201) (e := (201, 80, 167, 0, 0, 0, 0, 204)) rfl) ?_
      refine e_lo [0, 1, 2] rfl ?_
      exact F

/-! ChairAlley$State.lanesNow()I -/
set_option maxRecDepth 20000 in
theorem B_64_0 (hT : yLT T) (hR : yLR R) {p : Nat} (hp : yAtState T R p) (F : yW l zSS D cy zFk z d 64 bc bs K 0 0 4 [(0, yr (some p)), (1, yi 0), (2, yi 0)] [] (N, T, R, I)) :
    yW l zSS D cy zFk z d 64 bc bs K 0 0 0 [(0, yr (some p))] [] (N, T, R, I) := by
  refine e_0 (f_64 (pc := 0) (e := (0, 0, 0, 0, 0, 0, 0, 1)) rfl) (v := 0) rfl ?_
  refine e_20 (f_64 (pc := 1) (e := (1, 20, 1, 0, 0, 0, 0, 2)) rfl) ?_
  refine e_0 (f_64 (pc := 2) (e := (2, 0, 0, 0, 0, 0, 0, 3)) rfl) (v := 0) rfl ?_
  refine e_20 (f_64 (pc := 3) (e := (3, 20, 2, 0, 0, 0, 0, 4)) rfl) ?_
  refine e_lo [0, 1, 2] rfl ?_
  exact F
set_option maxRecDepth 20000 in
theorem B_64_4 (hT : yLT T) (hR : yLR R) {p : Nat} (hp : yAtState T R p) {x1 x2 : Int} (F : (100 ≤ x2 → K (some (yi x1)) (N, T, R, I)) ∧ (¬ (100 ≤ x2) → 0 ≤ x2 ∧ x2 < 100 ∧ (((I (p + 1) x2.toNat) = (-1) → yW l zSS D cy zFk z d 64 bc bs K 0 0 4 [(0, yr (some p)), (1, yi (yadd x1 0)), (2, yi (yadd x2 1))] [] (N, T, R, I)) ∧ (¬ ((I (p + 1) x2.toNat) = (-1)) → yW l zSS D cy zFk z d 64 bc bs K 0 0 4 [(0, yr (some p)), (1, yi (yadd x1 1)), (2, yi (yadd x2 1))] [] (N, T, R, I))))) :
    yW l zSS D cy zFk z d 64 bc bs K 0 0 4 [(0, yr (some p)), (1, yi x1), (2, yi x2)] [] (N, T, R, I) := by
  refine e_10 (f_64 (pc := 4) (e := (4, 10, 2, 0, 0, 0, 0, 5)) rfl) rfl ?_
  refine e_1 (f_64 (pc := 5) (e := (5, 1, 100, 0, 0, 0, 0, 7)) rfl) (v := 100) rfl ?_
  refine e_73 (f_64 (pc := 7) (e := (7, 73, 34, 0, 0, 0, 0, 10)) rfl) (fun c1 => ?_) (fun c1 => ?_)
  · replace F := F.1 c1
    refine e_10 (f_64 (pc := 34) (e := (34, 10, 1, 0, 0, 0, 0, 35)) rfl) rfl ?_
    exact e_120 (f_64 (pc := 35) (e := (35, 120, 0, 0, 0, 0, 0, 0)) rfl) F
  · replace F := F.2 c1
    refine e_10 (f_64 (pc := 10) (e := (10, 10, 1, 0, 0, 0, 0, 11)) rfl) rfl ?_
    refine e_12 (f_64 (pc := 11) (e := (11, 12, 0, 0, 0, 0, 0, 12)) rfl) rfl ?_
    refine e_90r zA (f_64 (pc := 12) (e := (12, 90, 5, 1, 3, 9, 909, 15)) rfl) rfl (hp.1 0 rfl) rfl rfl (hp.2 1 rfl) ?_
    refine e_10 (f_64 (pc := 15) (e := (15, 10, 2, 0, 0, 0, 0, 16)) rfl) rfl ?_
    obtain ⟨b2, b3, F⟩ := F
    refine e_110 (f_64 (pc := 16) (e := (16, 110, 0, 0, 0, 0, 0, 17)) rfl) rfl (hp.1 1 rfl) b2 b3 ?_
    refine e_0 (f_64 (pc := 17) (e := (17, 0, 4294967295, 0, 0, 0, 0, 18)) rfl) (v := (-1)) rfl ?_
    refine e_70 (f_64 (pc := 18) (e := (18, 70, 25, 0, 0, 0, 0, 21)) rfl) (fun c4 => ?_) (fun c4 => ?_)
    · replace F := F.1 c4
      refine e_0 (f_64 (pc := 25) (e := (25, 0, 0, 0, 0, 0, 0, 26)) rfl) (v := 0) rfl ?_
      refine e_30 (f_64 (pc := 26) (e := (26, 30, 0, 0, 0, 0, 0, 27)) rfl) ?_
      refine e_20 (f_64 (pc := 27) (e := (27, 20, 1, 0, 0, 0, 0, 28)) rfl) ?_
      refine e_26 (f_64 (pc := 28) (e := (28, 26, 2, 1, 0, 0, 0, 31)) rfl) (w := 1) rfl rfl ?_
      refine e_80 (f_64 (pc := 31) (e := (31, 80, 4, 0, 0, 0, 0, 34)) rfl) ?_
      refine e_lo [0, 1, 2] rfl ?_
      exact F
    · replace F := F.2 c4
      refine e_0 (f_64 (pc := 21) (e := (21, 0, 1, 0, 0, 0, 0, 22)) rfl) (v := 1) rfl ?_
      refine e_80 (f_64 (pc := 22) (e := (22, 80, 26, 0, 0, 0, 0, 25)) rfl) ?_
      refine e_30 (f_64 (pc := 26) (e := (26, 30, 0, 0, 0, 0, 0, 27)) rfl) ?_
      refine e_20 (f_64 (pc := 27) (e := (27, 20, 1, 0, 0, 0, 0, 28)) rfl) ?_
      refine e_26 (f_64 (pc := 28) (e := (28, 26, 2, 1, 0, 0, 0, 31)) rfl) (w := 1) rfl rfl ?_
      refine e_80 (f_64 (pc := 31) (e := (31, 80, 4, 0, 0, 0, 0, 34)) rfl) ?_
      refine e_lo [0, 1, 2] rfl ?_
      exact F

/-! ChairAlley$State.numberOf(LChairAlley$Land;II)I -/
set_option maxRecDepth 20000 in
theorem B_65_0 (hT : yLT T) (hR : yLR R) {p : Nat} (hp : yAtState T R p) {x2 x3 : Int} (F : (x3 < 0 → K (some (yi (-1))) (N, T, R, I)) ∧ (¬ (x3 < 0) → (x3 < 8 → (x2 = 9 → 0 ≤ x3 ∧ x3 < 8 ∧ (K (some (yi (I (p + 3) x3.toNat))) (N, T, R, I))) ∧ (¬ (x2 = 9) → (x2 = 10 → 0 ≤ x3 ∧ x3 < 8 ∧ (K (some (yi (I 12 x3.toNat))) (N, T, R, I))) ∧ (¬ (x2 = 10) → (x2 = 11 → 0 ≤ x3 ∧ x3 < 8 ∧ (K (some (yi (I (p + 6) x3.toNat))) (N, T, R, I))) ∧ (¬ (x2 = 11) → (x2 = 12 → K (some (yi x3)) (N, T, R, I)) ∧ (¬ (x2 = 12) → (x2 = 13 → K (some (yi x3)) (N, T, R, I)) ∧ (¬ (x2 = 13) → (x2 = 14 → K (some (yi x3)) (N, T, R, I)) ∧ (¬ (x2 = 14) → (x2 = 15 → K (some (yi x3)) (N, T, R, I)) ∧ (¬ (x2 = 15) → (x2 = 16 → K (some (yi x3)) (N, T, R, I)) ∧ (¬ (x2 = 16) → (x2 = 17 → K (some (yi x3)) (N, T, R, I)) ∧ (¬ (x2 = 17) → (x2 = 18 → K (some (yi x3)) (N, T, R, I)) ∧ (¬ (x2 = 18) → (x2 = 19 → K (some (yi x3)) (N, T, R, I)) ∧ (¬ (x2 = 19) → (x2 = 20 → K (some (yi x3)) (N, T, R, I)) ∧ (¬ (x2 = 20) → (x2 = 21 → 0 ≤ x3 ∧ x3 < 8 ∧ (K (some (yi (I (p + 7) x3.toNat))) (N, T, R, I))) ∧ (¬ (x2 = 21) → (x2 = 22 → 0 ≤ x3 ∧ x3 < 8 ∧ (K (some (yi (I (p + 8) x3.toNat))) (N, T, R, I))) ∧ (¬ (x2 = 22) → K (some (yi x3)) (N, T, R, I)))))))))))))))) ∧ (¬ (x3 < 8) → K (some (yi (-1))) (N, T, R, I)))) :
    yW l zSS D cy zFk z d 65 bc bs K 0 0 0 [(0, yr (some p)), (1, yr (some 4)), (2, yi x2), (3, yi x3)] [] (N, T, R, I) := by
  refine e_10 (f_65 (pc := 0) (e := (0, 10, 3, 0, 0, 0, 0, 1)) rfl) rfl ?_
  refine e_62 (f_65 (pc := 1) (e := (1, 62, 10, 0, 0, 0, 0, 4)) rfl) (fun c1 => ?_) (fun c1 => ?_)
  · replace F := F.1 c1
    refine e_0 (f_65 (pc := 10) (e := (10, 0, 4294967295, 0, 0, 0, 0, 11)) rfl) (v := (-1)) rfl ?_
    exact e_120 (f_65 (pc := 11) (e := (11, 120, 0, 0, 0, 0, 0, 12)) rfl) F
  · replace F := F.2 c1
    refine e_10 (f_65 (pc := 4) (e := (4, 10, 3, 0, 0, 0, 0, 5)) rfl) rfl ?_
    refine e_1 (f_65 (pc := 5) (e := (5, 1, 8, 0, 0, 0, 0, 7)) rfl) (v := 8) rfl ?_
    refine e_72 (f_65 (pc := 7) (e := (7, 72, 12, 0, 0, 0, 0, 10)) rfl) (fun c2 => ?_) (fun c2 => ?_)
    · replace F := F.1 c2
      refine e_10 (f_65 (pc := 12) (e := (12, 10, 2, 0, 0, 0, 0, 13)) rfl) rfl ?_
      refine e_83 (f_65 (pc := 13) (e := (13, 83, 2147483657, 14, 3, 0, 0, 119)) rfl) (v := x2) (low := 9) rfl ?_
      by_cases c3 : x2 = 9
      · replace F := F.1 c3
        rw [show ySw 9 (yTg zGG 3) 119 x2 = 84 from by rw [c3]; rfl]
        refine e_12 (f_65 (pc := 84) (e := (84, 12, 0, 0, 0, 0, 0, 85)) rfl) rfl ?_
        refine e_90r zA (f_65 (pc := 85) (e := (85, 90, 5, 3, 3, 18, 911, 88)) rfl) rfl (hp.1 0 rfl) rfl rfl (hp.2 3 rfl) ?_
        refine e_10 (f_65 (pc := 88) (e := (88, 10, 3, 0, 0, 0, 0, 89)) rfl) rfl ?_
        obtain ⟨b4, b5, F⟩ := F
        refine e_110 (f_65 (pc := 89) (e := (89, 110, 0, 0, 0, 0, 0, 90)) rfl) rfl (hp.1 3 rfl) b4 b5 ?_
        exact e_120 (f_65 (pc := 90) (e := (90, 120, 0, 0, 0, 0, 0, 91)) rfl) F
      · replace F := F.2 c3
        by_cases c6 : x2 = 10
        · replace F := F.1 c6
          rw [show ySw 9 (yTg zGG 3) 119 x2 = 91 from by rw [c6]; rfl]
          refine e_12 (f_65 (pc := 91) (e := (91, 12, 1, 0, 0, 0, 0, 92)) rfl) rfl ?_
          refine e_90r zA (f_65 (pc := 92) (e := (92, 90, 1, 10, 3, 96, 930, 95)) rfl) rfl (hT 4 rfl) rfl rfl (hR 4 10 rfl) ?_
          refine e_10 (f_65 (pc := 95) (e := (95, 10, 3, 0, 0, 0, 0, 96)) rfl) rfl ?_
          obtain ⟨b7, b8, F⟩ := F
          refine e_110 (f_65 (pc := 96) (e := (96, 110, 0, 0, 0, 0, 0, 97)) rfl) rfl (hT 12 rfl) b7 b8 ?_
          exact e_120 (f_65 (pc := 97) (e := (97, 120, 0, 0, 0, 0, 0, 98)) rfl) F
        · replace F := F.2 c6
          by_cases c9 : x2 = 11
          · replace F := F.1 c9
            rw [show ySw 9 (yTg zGG 3) 119 x2 = 98 from by rw [c9]; rfl]
            refine e_12 (f_65 (pc := 98) (e := (98, 12, 0, 0, 0, 0, 0, 99)) rfl) rfl ?_
            refine e_90r zA (f_65 (pc := 99) (e := (99, 90, 5, 6, 3, 27, 914, 102)) rfl) rfl (hp.1 0 rfl) rfl rfl (hp.2 6 rfl) ?_
            refine e_10 (f_65 (pc := 102) (e := (102, 10, 3, 0, 0, 0, 0, 103)) rfl) rfl ?_
            obtain ⟨b10, b11, F⟩ := F
            refine e_110 (f_65 (pc := 103) (e := (103, 110, 0, 0, 0, 0, 0, 104)) rfl) rfl (hp.1 6 rfl) b10 b11 ?_
            exact e_120 (f_65 (pc := 104) (e := (104, 120, 0, 0, 0, 0, 0, 105)) rfl) F
          · replace F := F.2 c9
            by_cases c12 : x2 = 12
            · replace F := F.1 c12
              rw [show ySw 9 (yTg zGG 3) 119 x2 = 119 from by rw [c12]; rfl]
              refine e_10 (f_65 (pc := 119) (e := (119, 10, 3, 0, 0, 0, 0, 120)) rfl) rfl ?_
              exact e_120 (f_65 (pc := 120) (e := (120, 120, 0, 0, 0, 0, 0, 0)) rfl) F
            · replace F := F.2 c12
              by_cases c13 : x2 = 13
              · replace F := F.1 c13
                rw [show ySw 9 (yTg zGG 3) 119 x2 = 119 from by rw [c13]; rfl]
                refine e_10 (f_65 (pc := 119) (e := (119, 10, 3, 0, 0, 0, 0, 120)) rfl) rfl ?_
                exact e_120 (f_65 (pc := 120) (e := (120, 120, 0, 0, 0, 0, 0, 0)) rfl) F
              · replace F := F.2 c13
                by_cases c14 : x2 = 14
                · replace F := F.1 c14
                  rw [show ySw 9 (yTg zGG 3) 119 x2 = 119 from by rw [c14]; rfl]
                  refine e_10 (f_65 (pc := 119) (e := (119, 10, 3, 0, 0, 0, 0, 120)) rfl) rfl ?_
                  exact e_120 (f_65 (pc := 120) (e := (120, 120, 0, 0, 0, 0, 0, 0)) rfl) F
                · replace F := F.2 c14
                  by_cases c15 : x2 = 15
                  · replace F := F.1 c15
                    rw [show ySw 9 (yTg zGG 3) 119 x2 = 119 from by rw [c15]; rfl]
                    refine e_10 (f_65 (pc := 119) (e := (119, 10, 3, 0, 0, 0, 0, 120)) rfl) rfl ?_
                    exact e_120 (f_65 (pc := 120) (e := (120, 120, 0, 0, 0, 0, 0, 0)) rfl) F
                  · replace F := F.2 c15
                    by_cases c16 : x2 = 16
                    · replace F := F.1 c16
                      rw [show ySw 9 (yTg zGG 3) 119 x2 = 119 from by rw [c16]; rfl]
                      refine e_10 (f_65 (pc := 119) (e := (119, 10, 3, 0, 0, 0, 0, 120)) rfl) rfl ?_
                      exact e_120 (f_65 (pc := 120) (e := (120, 120, 0, 0, 0, 0, 0, 0)) rfl) F
                    · replace F := F.2 c16
                      by_cases c17 : x2 = 17
                      · replace F := F.1 c17
                        rw [show ySw 9 (yTg zGG 3) 119 x2 = 119 from by rw [c17]; rfl]
                        refine e_10 (f_65 (pc := 119) (e := (119, 10, 3, 0, 0, 0, 0, 120)) rfl) rfl ?_
                        exact e_120 (f_65 (pc := 120) (e := (120, 120, 0, 0, 0, 0, 0, 0)) rfl) F
                      · replace F := F.2 c17
                        by_cases c18 : x2 = 18
                        · replace F := F.1 c18
                          rw [show ySw 9 (yTg zGG 3) 119 x2 = 119 from by rw [c18]; rfl]
                          refine e_10 (f_65 (pc := 119) (e := (119, 10, 3, 0, 0, 0, 0, 120)) rfl) rfl ?_
                          exact e_120 (f_65 (pc := 120) (e := (120, 120, 0, 0, 0, 0, 0, 0)) rfl) F
                        · replace F := F.2 c18
                          by_cases c19 : x2 = 19
                          · replace F := F.1 c19
                            rw [show ySw 9 (yTg zGG 3) 119 x2 = 119 from by rw [c19]; rfl]
                            refine e_10 (f_65 (pc := 119) (e := (119, 10, 3, 0, 0, 0, 0, 120)) rfl) rfl ?_
                            exact e_120 (f_65 (pc := 120) (e := (120, 120, 0, 0, 0, 0, 0, 0)) rfl) F
                          · replace F := F.2 c19
                            by_cases c20 : x2 = 20
                            · replace F := F.1 c20
                              rw [show ySw 9 (yTg zGG 3) 119 x2 = 119 from by rw [c20]; rfl]
                              refine e_10 (f_65 (pc := 119) (e := (119, 10, 3, 0, 0, 0, 0, 120)) rfl) rfl ?_
                              exact e_120 (f_65 (pc := 120) (e := (120, 120, 0, 0, 0, 0, 0, 0)) rfl) F
                            · replace F := F.2 c20
                              by_cases c21 : x2 = 21
                              · replace F := F.1 c21
                                rw [show ySw 9 (yTg zGG 3) 119 x2 = 105 from by rw [c21]; rfl]
                                refine e_12 (f_65 (pc := 105) (e := (105, 12, 0, 0, 0, 0, 0, 106)) rfl) rfl ?_
                                refine e_90r zA (f_65 (pc := 106) (e := (106, 90, 5, 7, 3, 30, 915, 109)) rfl) rfl (hp.1 0 rfl) rfl rfl (hp.2 7 rfl) ?_
                                refine e_10 (f_65 (pc := 109) (e := (109, 10, 3, 0, 0, 0, 0, 110)) rfl) rfl ?_
                                obtain ⟨b22, b23, F⟩ := F
                                refine e_110 (f_65 (pc := 110) (e := (110, 110, 0, 0, 0, 0, 0, 111)) rfl) rfl (hp.1 7 rfl) b22 b23 ?_
                                exact e_120 (f_65 (pc := 111) (e := (111, 120, 0, 0, 0, 0, 0, 112)) rfl) F
                              · replace F := F.2 c21
                                by_cases c24 : x2 = 22
                                · replace F := F.1 c24
                                  rw [show ySw 9 (yTg zGG 3) 119 x2 = 112 from by rw [c24]; rfl]
                                  refine e_12 (f_65 (pc := 112) (e := (112, 12, 0, 0, 0, 0, 0, 113)) rfl) rfl ?_
                                  refine e_90r zA (f_65 (pc := 113) (e := (113, 90, 5, 8, 3, 33, 916, 116)) rfl) rfl (hp.1 0 rfl) rfl rfl (hp.2 8 rfl) ?_
                                  refine e_10 (f_65 (pc := 116) (e := (116, 10, 3, 0, 0, 0, 0, 117)) rfl) rfl ?_
                                  obtain ⟨b25, b26, F⟩ := F
                                  refine e_110 (f_65 (pc := 117) (e := (117, 110, 0, 0, 0, 0, 0, 118)) rfl) rfl (hp.1 8 rfl) b25 b26 ?_
                                  exact e_120 (f_65 (pc := 118) (e := (118, 120, 0, 0, 0, 0, 0, 119)) rfl) F
                                · replace F := F.2 c24
                                  rw [show ySw 9 (yTg zGG 3) 119 x2 = 119 from ySw_out (n := 14) rfl (by omega)]
                                  refine e_10 (f_65 (pc := 119) (e := (119, 10, 3, 0, 0, 0, 0, 120)) rfl) rfl ?_
                                  exact e_120 (f_65 (pc := 120) (e := (120, 120, 0, 0, 0, 0, 0, 0)) rfl) F
    · replace F := F.2 c2
      refine e_0 (f_65 (pc := 10) (e := (10, 0, 4294967295, 0, 0, 0, 0, 11)) rfl) (v := (-1)) rfl ?_
      exact e_120 (f_65 (pc := 11) (e := (11, 120, 0, 0, 0, 0, 0, 12)) rfl) F

/-! ChairAlley$State.precedence(LChairAlley$Land;I)J -/
set_option maxRecDepth 20000 in
theorem B_66_0 (hT : yLT T) (hR : yLR R) {p : Nat} (hp : yAtState T R p) {x2 : Int} (F : (x2 < 0 → K (some (yj (-1))) (N, T, R, I)) ∧ (¬ (x2 < 0) → (x2 < 8 → 0 ≤ x2 ∧ x2 < 8 ∧ (((I 14 x2.toNat) = 0 → yW l zSS D cy zFk z d 66 bc bs K 0 0 32 [(0, yr (some p)), (1, yr (some 4)), (2, yi x2), (3, yj 0), (5, yi 0)] [] (N, T, R, I)) ∧ (¬ ((I 14 x2.toNat) = 0) → yW l zSS D cy zFk z d 66 bc bs K 0 0 32 [(0, yr (some p)), (1, yr (some 4)), (2, yi x2), (3, yj 1), (5, yi 0)] [] (N, T, R, I)))) ∧ (¬ (x2 < 8) → K (some (yj (-1))) (N, T, R, I)))) :
    yW l zSS D cy zFk z d 66 bc bs K 0 0 0 [(0, yr (some p)), (1, yr (some 4)), (2, yi x2)] [] (N, T, R, I) := by
  refine e_10 (f_66 (pc := 0) (e := (0, 10, 2, 0, 0, 0, 0, 1)) rfl) rfl ?_
  refine e_62 (f_66 (pc := 1) (e := (1, 62, 10, 0, 0, 0, 0, 4)) rfl) (fun c1 => ?_) (fun c1 => ?_)
  · replace F := F.1 c1
    refine e_5 (f_66 (pc := 10) (e := (10, 5, 18446744073709551615, 0, 0, 76, 931, 13)) rfl) (v := (-1)) rfl ?_
    exact e_123 (f_66 (pc := 13) (e := (13, 123, 0, 0, 0, 0, 0, 14)) rfl) F
  · replace F := F.2 c1
    refine e_10 (f_66 (pc := 4) (e := (4, 10, 2, 0, 0, 0, 0, 5)) rfl) rfl ?_
    refine e_1 (f_66 (pc := 5) (e := (5, 1, 8, 0, 0, 0, 0, 7)) rfl) (v := 8) rfl ?_
    refine e_72 (f_66 (pc := 7) (e := (7, 72, 14, 0, 0, 0, 0, 10)) rfl) (fun c2 => ?_) (fun c2 => ?_)
    · replace F := F.1 c2
      refine e_12 (f_66 (pc := 14) (e := (14, 12, 1, 0, 0, 0, 0, 15)) rfl) rfl ?_
      refine e_90r zA (f_66 (pc := 15) (e := (15, 90, 1, 12, 3, 78, 932, 18)) rfl) rfl (hT 4 rfl) rfl rfl (hR 4 12 rfl) ?_
      refine e_10 (f_66 (pc := 18) (e := (18, 10, 2, 0, 0, 0, 0, 19)) rfl) rfl ?_
      obtain ⟨b3, b4, F⟩ := F
      refine e_112 (f_66 (pc := 19) (e := (19, 112, 0, 0, 0, 0, 0, 20)) rfl) rfl (hT 14 rfl) b3 b4 (.inr rfl) ?_
      refine e_60 (f_66 (pc := 20) (e := (20, 60, 27, 0, 0, 0, 0, 23)) rfl) (fun c5 => ?_) (fun c5 => ?_)
      · replace F := F.1 c5
        refine e_6 (f_66 (pc := 27) (e := (27, 6, 0, 0, 0, 0, 0, 28)) rfl) (v := 0) rfl ?_
        refine e_24 (f_66 (pc := 28) (e := (28, 24, 3, 0, 0, 0, 0, 29)) rfl) ?_
        refine e_0 (f_66 (pc := 29) (e := (29, 0, 0, 0, 0, 0, 0, 30)) rfl) (v := 0) rfl ?_
        refine e_21 (f_66 (pc := 30) (e := (30, 21, 5, 0, 0, 0, 0, 32)) rfl) ?_
        refine e_lo [0, 1, 2, 3, 5] rfl ?_
        exact F
      · replace F := F.2 c5
        refine e_6 (f_66 (pc := 23) (e := (23, 6, 1, 0, 0, 0, 0, 24)) rfl) (v := 1) rfl ?_
        refine e_80 (f_66 (pc := 24) (e := (24, 80, 28, 0, 0, 0, 0, 27)) rfl) ?_
        refine e_24 (f_66 (pc := 28) (e := (28, 24, 3, 0, 0, 0, 0, 29)) rfl) ?_
        refine e_0 (f_66 (pc := 29) (e := (29, 0, 0, 0, 0, 0, 0, 30)) rfl) (v := 0) rfl ?_
        refine e_21 (f_66 (pc := 30) (e := (30, 21, 5, 0, 0, 0, 0, 32)) rfl) ?_
        refine e_lo [0, 1, 2, 3, 5] rfl ?_
        exact F
    · replace F := F.2 c2
      refine e_5 (f_66 (pc := 10) (e := (10, 5, 18446744073709551615, 0, 0, 76, 931, 13)) rfl) (v := (-1)) rfl ?_
      exact e_123 (f_66 (pc := 13) (e := (13, 123, 0, 0, 0, 0, 0, 14)) rfl) F
set_option maxRecDepth 20000 in
theorem B_66_32 (hT : yLT T) (hR : yLR R) {p : Nat} (hp : yAtState T R p) {x2 x3 x5 : Int} (F : (3 ≤ x5 → K (some (yj (yladd (ylmul x3 8) (yi2l (ysub 7 x2))))) (N, T, R, I)) ∧ (¬ (3 ≤ x5) → ((I 4 14) ≤ x5 → yW l zSS D cy zFk z (d + 1) 66 bc bs K 0 0 32 [(0, yr (some p)), (1, yr (some 4)), (2, yi x2), (3, yj (yladd (ylmul x3 65536) (yi2l 0))), (5, yi (yadd x5 1))] [] (N, T, R, I)) ∧ (¬ ((I 4 14) ≤ x5) → 0 ≤ x5 ∧ x5 < 3 ∧ (yW l zSS D cy zFk z d 65 0 0 (fun r h' => ∃ r6 I5, r = some (yi r6) ∧ h' = (N, T, R, I5) ∧ (yW l zSS D cy zFk z (d + 1) 66 bc bs K 0 0 32 [(0, yr (some p)), (1, yr (some 4)), (2, yi x2), (3, yj (yladd (ylmul x3 65536) (yi2l r6))), (5, yi (yadd x5 1))] [] (N, T, R, I5))) 0 0 0 [(0, yr (some p)), (1, yr (some 4)), (2, yi (I 15 x5.toNat)), (3, yi x2)] [] (N, T, R, I))))) :
    yW l zSS D cy zFk z (d + 1) 66 bc bs K 0 0 32 [(0, yr (some p)), (1, yr (some 4)), (2, yi x2), (3, yj x3), (5, yi x5)] [] (N, T, R, I) := by
  refine e_11 (f_66 (pc := 32) (e := (32, 11, 5, 0, 0, 0, 0, 34)) rfl) rfl ?_
  refine e_0 (f_66 (pc := 34) (e := (34, 0, 3, 0, 0, 0, 0, 35)) rfl) (v := 3) rfl ?_
  refine e_73 (f_66 (pc := 35) (e := (35, 73, 78, 0, 0, 0, 0, 38)) rfl) (fun c1 => ?_) (fun c1 => ?_)
  · replace F := F.1 c1
    refine e_14 (f_66 (pc := 78) (e := (78, 14, 3, 0, 0, 0, 0, 79)) rfl) rfl ?_
    refine e_5 (f_66 (pc := 79) (e := (79, 5, 8, 0, 0, 94, 937, 82)) rfl) (v := 8) rfl ?_
    refine e_44 (f_66 (pc := 82) (e := (82, 44, 0, 0, 0, 0, 0, 83)) rfl) ?_
    refine e_1 (f_66 (pc := 83) (e := (83, 1, 7, 0, 0, 0, 0, 85)) rfl) (v := 7) rfl ?_
    refine e_10 (f_66 (pc := 85) (e := (85, 10, 2, 0, 0, 0, 0, 86)) rfl) rfl ?_
    refine e_31 (f_66 (pc := 86) (e := (86, 31, 0, 0, 0, 0, 0, 87)) rfl) ?_
    refine e_42 (f_66 (pc := 87) (e := (87, 42, 0, 0, 0, 0, 0, 88)) rfl) ?_
    refine e_43 (f_66 (pc := 88) (e := (88, 43, 0, 0, 0, 0, 0, 89)) rfl) ?_
    exact e_123 (f_66 (pc := 89) (e := (89, 123, 0, 0, 0, 0, 0, 0)) rfl) F
  · replace F := F.2 c1
    refine e_14 (f_66 (pc := 38) (e := (38, 14, 3, 0, 0, 0, 0, 39)) rfl) rfl ?_
    refine e_5 (f_66 (pc := 39) (e := (39, 5, 65536, 0, 0, 82, 933, 42)) rfl) (v := 65536) rfl ?_
    refine e_44 (f_66 (pc := 42) (e := (42, 44, 0, 0, 0, 0, 0, 43)) rfl) ?_
    refine e_11 (f_66 (pc := 43) (e := (43, 11, 5, 0, 0, 0, 0, 45)) rfl) rfl ?_
    refine e_12 (f_66 (pc := 45) (e := (45, 12, 1, 0, 0, 0, 0, 46)) rfl) rfl ?_
    refine e_90 zA (f_66 (pc := 46) (e := (46, 90, 1, 14, 0, 84, 934, 49)) rfl) rfl (hT 4 rfl) rfl rfl ?_
    refine e_73 (f_66 (pc := 49) (e := (49, 73, 68, 0, 0, 0, 0, 52)) rfl) (fun c2 => ?_) (fun c2 => ?_)
    · replace F := F.1 c2
      refine e_0 (f_66 (pc := 68) (e := (68, 0, 0, 0, 0, 0, 0, 69)) rfl) (v := 0) rfl ?_
      refine e_42 (f_66 (pc := 69) (e := (69, 42, 0, 0, 0, 0, 0, 70)) rfl) ?_
      refine e_43 (f_66 (pc := 70) (e := (70, 43, 0, 0, 0, 0, 0, 71)) rfl) ?_
      refine e_24 (f_66 (pc := 71) (e := (71, 24, 3, 0, 0, 0, 0, 72)) rfl) ?_
      refine e_26 (f_66 (pc := 72) (e := (72, 26, 5, 1, 0, 0, 0, 75)) rfl) (w := 1) rfl rfl ?_
      refine e_80 (f_66 (pc := 75) (e := (75, 80, 32, 0, 0, 0, 0, 78)) rfl) ?_
      refine e_lo [0, 1, 2, 3, 5] rfl ?_
      exact F
    · replace F := F.2 c2
      refine e_12 (f_66 (pc := 52) (e := (52, 12, 0, 0, 0, 0, 0, 53)) rfl) rfl ?_
      refine e_12 (f_66 (pc := 53) (e := (53, 12, 1, 0, 0, 0, 0, 54)) rfl) rfl ?_
      refine e_12 (f_66 (pc := 54) (e := (54, 12, 1, 0, 0, 0, 0, 55)) rfl) rfl ?_
      refine e_90r zA (f_66 (pc := 55) (e := (55, 90, 1, 13, 3, 87, 935, 58)) rfl) rfl (hT 4 rfl) rfl rfl (hR 4 13 rfl) ?_
      refine e_11 (f_66 (pc := 58) (e := (58, 11, 5, 0, 0, 0, 0, 60)) rfl) rfl ?_
      obtain ⟨b3, b4, F⟩ := F
      refine e_110 (f_66 (pc := 60) (e := (60, 110, 0, 0, 0, 0, 0, 61)) rfl) rfl (hT 15 rfl) b3 b4 ?_
      refine e_10 (f_66 (pc := 61) (e := (61, 10, 2, 0, 0, 0, 0, 62)) rfl) rfl ?_
      refine e_130 (f_66 (pc := 62) (e := (62, 130, 65, 0, 5, 90, 936, 65)) rfl) zA (as := [yr (some p), yr (some 4), yi _, yi x2]) (rest := [yj _]) rfl rfl rfl rfl (Nat.le_of_ble_eq_true rfl) (Nat.le_of_ble_eq_true rfl) ⟨_, _, _, rfl, (hp.1 0 rfl)⟩ (mc := 0) (ms := 0) (Nat.zero_le _) (Nat.zero_le _) ?_
      refine e_K ?_ F
      rintro r h' ⟨r6, I5, rfl, rfl, F⟩
      refine e_80 (f_66 (pc := 65) (e := (65, 80, 69, 0, 0, 0, 0, 68)) rfl) ?_
      refine e_42 (f_66 (pc := 69) (e := (69, 42, 0, 0, 0, 0, 0, 70)) rfl) ?_
      refine e_43 (f_66 (pc := 70) (e := (70, 43, 0, 0, 0, 0, 0, 71)) rfl) ?_
      refine e_24 (f_66 (pc := 71) (e := (71, 24, 3, 0, 0, 0, 0, 72)) rfl) ?_
      refine e_26 (f_66 (pc := 72) (e := (72, 26, 5, 1, 0, 0, 0, 75)) rfl) (w := 1) rfl rfl ?_
      refine e_80 (f_66 (pc := 75) (e := (75, 80, 32, 0, 0, 0, 0, 78)) rfl) ?_
      refine e_lo [0, 1, 2, 3, 5] rfl ?_
      exact F

/-! ChairAlley$State.sum([II)I -/
set_option maxRecDepth 20000 in
theorem B_67_0 (hT : yLT T) (hR : yLR R) {w : Nat} (hw : T w = (1, 8)) {x1 : Int} (F : yW l zSS D cy zFk z d 67 bc bs K 0 0 4 [(0, yr (some w)), (1, yi x1), (2, yi 0), (3, yi 0)] [] (N, T, R, I)) :
    yW l zSS D cy zFk z d 67 bc bs K 0 0 0 [(0, yr (some w)), (1, yi x1)] [] (N, T, R, I) := by
  refine e_0 (f_67 (pc := 0) (e := (0, 0, 0, 0, 0, 0, 0, 1)) rfl) (v := 0) rfl ?_
  refine e_20 (f_67 (pc := 1) (e := (1, 20, 2, 0, 0, 0, 0, 2)) rfl) ?_
  refine e_0 (f_67 (pc := 2) (e := (2, 0, 0, 0, 0, 0, 0, 3)) rfl) (v := 0) rfl ?_
  refine e_20 (f_67 (pc := 3) (e := (3, 20, 3, 0, 0, 0, 0, 4)) rfl) ?_
  refine e_lo [0, 1, 2, 3] rfl ?_
  exact F
set_option maxRecDepth 20000 in
theorem B_67_4 (hT : yLT T) (hR : yLR R) {w : Nat} (hw : T w = (1, 8)) {x1 x2 x3 : Int} (F : (x1 ≤ x3 → K (some (yi x2)) (N, T, R, I)) ∧ (¬ (x1 ≤ x3) → (8 ≤ x3 → K (some (yi x2)) (N, T, R, I)) ∧ (¬ (8 ≤ x3) → 0 ≤ x3 ∧ x3 < 8 ∧ (yW l zSS D cy zFk z d 67 bc bs K 0 0 4 [(0, yr (some w)), (1, yi x1), (2, yi (yadd x2 (I w x3.toNat))), (3, yi (yadd x3 1))] [] (N, T, R, I))))) :
    yW l zSS D cy zFk z d 67 bc bs K 0 0 4 [(0, yr (some w)), (1, yi x1), (2, yi x2), (3, yi x3)] [] (N, T, R, I) := by
  refine e_10 (f_67 (pc := 4) (e := (4, 10, 3, 0, 0, 0, 0, 5)) rfl) rfl ?_
  refine e_10 (f_67 (pc := 5) (e := (5, 10, 1, 0, 0, 0, 0, 6)) rfl) rfl ?_
  refine e_73 (f_67 (pc := 6) (e := (6, 73, 27, 0, 0, 0, 0, 9)) rfl) (fun c1 => ?_) (fun c1 => ?_)
  · replace F := F.1 c1
    refine e_10 (f_67 (pc := 27) (e := (27, 10, 2, 0, 0, 0, 0, 28)) rfl) rfl ?_
    exact e_120 (f_67 (pc := 28) (e := (28, 120, 0, 0, 0, 0, 0, 0)) rfl) F
  · replace F := F.2 c1
    refine e_10 (f_67 (pc := 9) (e := (9, 10, 3, 0, 0, 0, 0, 10)) rfl) rfl ?_
    refine e_12 (f_67 (pc := 10) (e := (10, 12, 0, 0, 0, 0, 0, 11)) rfl) rfl ?_
    refine e_103 (f_67 (pc := 11) (e := (11, 103, 0, 0, 0, 0, 0, 12)) rfl) rfl hw (by decide) (by decide) ?_
    refine e_73 (f_67 (pc := 12) (e := (12, 73, 27, 0, 0, 0, 0, 15)) rfl) (fun c2 => ?_) (fun c2 => ?_)
    · replace F := F.1 c2
      refine e_10 (f_67 (pc := 27) (e := (27, 10, 2, 0, 0, 0, 0, 28)) rfl) rfl ?_
      exact e_120 (f_67 (pc := 28) (e := (28, 120, 0, 0, 0, 0, 0, 0)) rfl) F
    · replace F := F.2 c2
      refine e_10 (f_67 (pc := 15) (e := (15, 10, 2, 0, 0, 0, 0, 16)) rfl) rfl ?_
      refine e_12 (f_67 (pc := 16) (e := (16, 12, 0, 0, 0, 0, 0, 17)) rfl) rfl ?_
      refine e_10 (f_67 (pc := 17) (e := (17, 10, 3, 0, 0, 0, 0, 18)) rfl) rfl ?_
      obtain ⟨b3, b4, F⟩ := F
      refine e_110 (f_67 (pc := 18) (e := (18, 110, 0, 0, 0, 0, 0, 19)) rfl) rfl hw b3 b4 ?_
      refine e_30 (f_67 (pc := 19) (e := (19, 30, 0, 0, 0, 0, 0, 20)) rfl) ?_
      refine e_20 (f_67 (pc := 20) (e := (20, 20, 2, 0, 0, 0, 0, 21)) rfl) ?_
      refine e_26 (f_67 (pc := 21) (e := (21, 26, 3, 1, 0, 0, 0, 24)) rfl) (w := 1) rfl rfl ?_
      refine e_80 (f_67 (pc := 24) (e := (24, 80, 4, 0, 0, 0, 0, 27)) rfl) ?_
      refine e_lo [0, 1, 2, 3] rfl ?_
      exact F

/-! ChairAlley$State.takeAway(I)V -/
set_option maxRecDepth 20000 in
theorem B_68_0 (hT : yLT T) (hR : yLR R) {p : Nat} (hp : yAtState T R p) {x1 : Int} (F : (x1 < 0 → K none (N, T, R, I)) ∧ (¬ (x1 < 0) → (8 ≤ x1 → K none (N, T, R, I)) ∧ (¬ (8 ≤ x1) → 0 ≤ x1 ∧ x1 < 8 ∧ (∀ I5, I5 = yU I (p + 4) x1.toNat (ynar 1 (-1)) → (0 ≤ x1 ∧ x1 < 8 ∧ (∀ I8, I8 = yU I5 (p + 9) x1.toNat (ynar 1 (I5 p 0)) → (K none (N, T, R, I8)))))))) :
    yW l zSS D cy zFk z d 68 bc bs K 0 0 0 [(0, yr (some p)), (1, yi x1)] [] (N, T, R, I) := by
  refine e_10 (f_68 (pc := 0) (e := (0, 10, 1, 0, 0, 0, 0, 1)) rfl) rfl ?_
  refine e_62 (f_68 (pc := 1) (e := (1, 62, 27, 0, 0, 0, 0, 4)) rfl) (fun c1 => ?_) (fun c1 => ?_)
  · replace F := F.1 c1
    exact e_122 (f_68 (pc := 27) (e := (27, 122, 0, 0, 0, 0, 0, 0)) rfl) F
  · replace F := F.2 c1
    refine e_10 (f_68 (pc := 4) (e := (4, 10, 1, 0, 0, 0, 0, 5)) rfl) rfl ?_
    refine e_1 (f_68 (pc := 5) (e := (5, 1, 8, 0, 0, 0, 0, 7)) rfl) (v := 8) rfl ?_
    refine e_73 (f_68 (pc := 7) (e := (7, 73, 27, 0, 0, 0, 0, 10)) rfl) (fun c2 => ?_) (fun c2 => ?_)
    · replace F := F.1 c2
      exact e_122 (f_68 (pc := 27) (e := (27, 122, 0, 0, 0, 0, 0, 0)) rfl) F
    · replace F := F.2 c2
      refine e_12 (f_68 (pc := 10) (e := (10, 12, 0, 0, 0, 0, 0, 11)) rfl) rfl ?_
      refine e_90r zA (f_68 (pc := 11) (e := (11, 90, 5, 4, 3, 21, 912, 14)) rfl) rfl (hp.1 0 rfl) rfl rfl (hp.2 4 rfl) ?_
      refine e_10 (f_68 (pc := 14) (e := (14, 10, 1, 0, 0, 0, 0, 15)) rfl) rfl ?_
      refine e_0 (f_68 (pc := 15) (e := (15, 0, 4294967295, 0, 0, 0, 0, 16)) rfl) (v := (-1)) rfl ?_
      obtain ⟨b3, b4, F⟩ := F
      refine e_111 (f_68 (pc := 16) (e := (16, 111, 0, 0, 0, 0, 0, 17)) rfl) rfl (hp.1 4 rfl) b3 b4 ?_
      replace F := F _ rfl
      refine e_12 (f_68 (pc := 17) (e := (17, 12, 0, 0, 0, 0, 0, 18)) rfl) rfl ?_
      refine e_90r zA (f_68 (pc := 18) (e := (18, 90, 5, 9, 3, 36, 917, 21)) rfl) rfl (hp.1 0 rfl) rfl rfl (hp.2 9 rfl) ?_
      refine e_10 (f_68 (pc := 21) (e := (21, 10, 1, 0, 0, 0, 0, 22)) rfl) rfl ?_
      refine e_12 (f_68 (pc := 22) (e := (22, 12, 0, 0, 0, 0, 0, 23)) rfl) rfl ?_
      refine e_90 zA (f_68 (pc := 23) (e := (23, 90, 5, 0, 0, 68, 922, 26)) rfl) rfl (hp.1 0 rfl) rfl rfl ?_
      obtain ⟨b6, b7, F⟩ := F
      refine e_111 (f_68 (pc := 26) (e := (26, 111, 0, 0, 0, 0, 0, 27)) rfl) rfl (hp.1 9 rfl) b6 b7 ?_
      replace F := F _ rfl
      exact e_122 (f_68 (pc := 27) (e := (27, 122, 0, 0, 0, 0, 0, 0)) rfl) F

/-! ChairAlley$Untier.goOnFrom(I)V -/
set_option maxRecDepth 20000 in
theorem B_70_0 (hT : yLT T) (hR : yLR R) {vs ns : Nat} (hvs : R 91 9 = some vs) (hTvs : T vs = (0, ns)) (hns : ns < 2147483648) {vq nq : Nat} (hvq : R 91 10 = some vq) (hTvq : T vq = (1, nq)) (hnq : nq < 2147483648) {vt nt : Nat} (hvt : R 91 12 = some vt) (hTvt : T vt = (1, nt)) (hnt : nt < 2147483648) {x1 : Int} (F : yW l zSS D cy zFk z d 76 0 0 (fun r h' => ∃ I1, r = none ∧ h' = (N, T, R, I1) ∧ (yW l zSS D cy zFk z (d + 1) 70 bc bs K 0 0 7 [(0, yr (some 91)), (1, yi x1), (2, yi 0)] [] (N, T, R, I1))) 0 0 0 [(0, yr (some 91)), (1, yi x1)] [] (N, T, R, I)) :
    yW l zSS D cy zFk z (d + 1) 70 bc bs K 0 0 0 [(0, yr (some 91)), (1, yi x1)] [] (N, T, R, I) := by
  refine e_12 (f_70 (pc := 0) (e := (0, 12, 0, 0, 0, 0, 0, 1)) rfl) rfl ?_
  refine e_10 (f_70 (pc := 1) (e := (1, 10, 1, 0, 0, 0, 0, 2)) rfl) rfl ?_
  refine e_130 (f_70 (pc := 2) (e := (2, 130, 76, 0, 6, 119, 948, 5)) rfl) zA (as := [yr (some 91), yi x1]) (rest := []) rfl rfl rfl rfl (Nat.le_of_ble_eq_true rfl) (Nat.le_of_ble_eq_true rfl) ⟨_, _, _, rfl, (hT 91 rfl)⟩ (mc := 0) (ms := 0) (Nat.zero_le _) (Nat.zero_le _) ?_
  refine e_K ?_ F
  rintro r h' ⟨I1, rfl, rfl, F⟩
  refine e_0 (f_70 (pc := 5) (e := (5, 0, 0, 0, 0, 0, 0, 6)) rfl) (v := 0) rfl ?_
  refine e_20 (f_70 (pc := 6) (e := (6, 20, 2, 0, 0, 0, 0, 7)) rfl) ?_
  refine e_lo [0, 1, 2] rfl ?_
  exact F
set_option maxRecDepth 20000 in
theorem B_70_7 (hT : yLT T) (hR : yLR R) {vs ns : Nat} (hvs : R 91 9 = some vs) (hTvs : T vs = (0, ns)) (hns : ns < 2147483648) {vq nq : Nat} (hvq : R 91 10 = some vq) (hTvq : T vq = (1, nq)) (hnq : nq < 2147483648) {vt nt : Nat} (hvt : R 91 12 = some vt) (hTvt : T vt = (1, nt)) (hnt : nt < 2147483648) {x1 x2 : Int} (F : ((I 91 2) ≤ x2 → K none (N, T, R, I)) ∧ (¬ ((I 91 2) ≤ x2) → (3 ≤ x2 → K none (N, T, R, I)) ∧ (¬ (3 ≤ x2) → yW l zSS D cy zFk z d 70 bc bs K 0 0 22 [(0, yr (some 91)), (1, yi x1), (2, yi x2), (3, yi 0)] [] (N, T, R, I)))) :
    yW l zSS D cy zFk z d 70 bc bs K 0 0 7 [(0, yr (some 91)), (1, yi x1), (2, yi x2)] [] (N, T, R, I) := by
  refine e_10 (f_70 (pc := 7) (e := (7, 10, 2, 0, 0, 0, 0, 8)) rfl) rfl ?_
  refine e_12 (f_70 (pc := 8) (e := (8, 12, 0, 0, 0, 0, 0, 9)) rfl) rfl ?_
  refine e_90 zA (f_70 (pc := 9) (e := (9, 90, 6, 2, 0, 103, 949, 12)) rfl) rfl (hT 91 rfl) rfl rfl ?_
  refine e_73 (f_70 (pc := 12) (e := (12, 73, 163, 0, 0, 0, 0, 15)) rfl) (fun c1 => ?_) (fun c1 => ?_)
  · replace F := F.1 c1
    exact e_122 (f_70 (pc := 163) (e := (163, 122, 0, 0, 0, 0, 0, 0)) rfl) F
  · replace F := F.2 c1
    refine e_10 (f_70 (pc := 15) (e := (15, 10, 2, 0, 0, 0, 0, 16)) rfl) rfl ?_
    refine e_0 (f_70 (pc := 16) (e := (16, 0, 3, 0, 0, 0, 0, 17)) rfl) (v := 3) rfl ?_
    refine e_73 (f_70 (pc := 17) (e := (17, 73, 163, 0, 0, 0, 0, 20)) rfl) (fun c2 => ?_) (fun c2 => ?_)
    · replace F := F.1 c2
      exact e_122 (f_70 (pc := 163) (e := (163, 122, 0, 0, 0, 0, 0, 0)) rfl) F
    · replace F := F.2 c2
      refine e_0 (f_70 (pc := 20) (e := (20, 0, 0, 0, 0, 0, 0, 21)) rfl) (v := 0) rfl ?_
      refine e_20 (f_70 (pc := 21) (e := (21, 20, 3, 0, 0, 0, 0, 22)) rfl) ?_
      refine e_lo [0, 1, 2, 3] rfl ?_
      exact F
set_option maxRecDepth 20000 in
theorem B_70_22 (hT : yLT T) (hR : yLR R) {vs ns : Nat} (hvs : R 91 9 = some vs) (hTvs : T vs = (0, ns)) (hns : ns < 2147483648) {vq nq : Nat} (hvq : R 91 10 = some vq) (hTvq : T vq = (1, nq)) (hnq : nq < 2147483648) {vt nt : Nat} (hvt : R 91 12 = some vt) (hTvt : T vt = (1, nt)) (hnt : nt < 2147483648) {x1 x2 x3 : Int} (F : (4 ≤ x3 → yW l zSS D cy zFk z (d + 1) 70 bc bs K 0 0 7 [(0, yr (some 91)), (1, yi x1), (2, yi (yadd x2 1))] [] (N, T, R, I)) ∧ (¬ (4 ≤ x3) → 0 ≤ x2 ∧ x2 < 3 ∧ (((I 91 1) ≤ (I 95 x2.toNat) → yW l zSS D cy zFk z (d + 1) 70 bc bs K 0 0 7 [(0, yr (some 91)), (1, yi x1), (2, yi (yadd x2 1))] [] (N, T, R, I)) ∧ (¬ ((I 91 1) ≤ (I 95 x2.toNat)) → yW l zSS D cy zFk z d 79 0 0 (fun r h' => ∃ r6 I5, r = some (yi r6) ∧ h' = (N, T, R, I5) ∧ ((r6 ≠ (-1) → 0 ≤ x2 ∧ x2 < 3 ∧ (0 ≤ x2 ∧ x2 < 3 ∧ (((yadd x1 (ymul (ysub r6 (I5 95 x2.toNat)) (I5 94 x2.toNat))) < 0 → yW l zSS D cy zFk z (d + 1) 70 bc bs K 0 0 22 [(0, yr (some 91)), (1, yi x1), (2, yi x2), (3, yi (yadd x3 1))] [] (N, T, R, I5)) ∧ (¬ ((yadd x1 (ymul (ysub r6 (I5 95 x2.toNat)) (I5 94 x2.toNat))) < 0) → ((ns : Int) ≤ (yadd x1 (ymul (ysub r6 (I5 95 x2.toNat)) (I5 94 x2.toNat))) → yW l zSS D cy zFk z (d + 1) 70 bc bs K 0 0 22 [(0, yr (some 91)), (1, yi x1), (2, yi x2), (3, yi (yadd x3 1))] [] (N, T, R, I5)) ∧ (¬ ((ns : Int) ≤ (yadd x1 (ymul (ysub r6 (I5 95 x2.toNat)) (I5 94 x2.toNat)))) → ((nq : Int) ≤ (I5 91 11) → yW l zSS D cy zFk z (d + 1) 70 bc bs K 0 0 22 [(0, yr (some 91)), (1, yi x1), (2, yi x2), (3, yi (yadd x3 1))] [] (N, T, R, I5)) ∧ (¬ ((nq : Int) ≤ (I5 91 11)) → 0 ≤ (yadd x1 (ymul (ysub r6 (I5 95 x2.toNat)) (I5 94 x2.toNat))) ∧ (yadd x1 (ymul (ysub r6 (I5 95 x2.toNat)) (I5 94 x2.toNat))) < (ns : Int) ∧ (((I5 vs (yadd x1 (ymul (ysub r6 (I5 95 x2.toNat)) (I5 94 x2.toNat))).toNat) ≠ 0 → yW l zSS D cy zFk z (d + 1) 70 bc bs K 0 0 22 [(0, yr (some 91)), (1, yi x1), (2, yi x2), (3, yi (yadd x3 1))] [] (N, T, R, I5)) ∧ (¬ ((I5 vs (yadd x1 (ymul (ysub r6 (I5 95 x2.toNat)) (I5 94 x2.toNat))).toNat) ≠ 0) → 0 ≤ (yadd x1 (ymul (ysub r6 (I5 95 x2.toNat)) (I5 94 x2.toNat))) ∧ (yadd x1 (ymul (ysub r6 (I5 95 x2.toNat)) (I5 94 x2.toNat))) < (ns : Int) ∧ (∀ I20, I20 = yU I5 vs ((yadd x1 (ymul (ysub r6 (I5 95 x2.toNat)) (I5 94 x2.toNat))).toNat) (ynar 0 (yi2b (yadd (yadd (ymul x2 4) x3) 1))) → (0 ≤ (I20 91 11) ∧ (I20 91 11) < (nq : Int) ∧ (∀ I23, I23 = yU I20 vq ((I20 91 11).toNat) (ynar 1 (yadd x1 (ymul (ysub r6 (I5 95 x2.toNat)) (I5 94 x2.toNat)))) → (∀ I24, I24 = yU I23 91 11 (yadd (I23 91 11) 1) → (yW l zSS D cy zFk z (d + 1) 70 bc bs K 0 0 22 [(0, yr (some 91)), (1, yi x1), (2, yi x2), (3, yi (yadd x3 1))] [] (N, T, R, I24)))))))))))))) ∧ (¬ (r6 ≠ (-1)) → yW l zSS D cy zFk z (d + 1) 70 bc bs K 0 0 22 [(0, yr (some 91)), (1, yi x1), (2, yi x2), (3, yi (yadd x3 1))] [] (N, T, R, I5)))) 0 0 0 [(0, yr (some 91)), (1, yi x2), (2, yi x3)] [] (N, T, R, I))))) :
    yW l zSS D cy zFk z (d + 1) 70 bc bs K 0 0 22 [(0, yr (some 91)), (1, yi x1), (2, yi x2), (3, yi x3)] [] (N, T, R, I) := by
  refine e_10 (f_70 (pc := 22) (e := (22, 10, 3, 0, 0, 0, 0, 23)) rfl) rfl ?_
  refine e_0 (f_70 (pc := 23) (e := (23, 0, 4, 0, 0, 0, 0, 24)) rfl) (v := 4) rfl ?_
  refine e_73 (f_70 (pc := 24) (e := (24, 73, 157, 0, 0, 0, 0, 27)) rfl) (fun c1 => ?_) (fun c1 => ?_)
  · replace F := F.1 c1
    refine e_26 (f_70 (pc := 157) (e := (157, 26, 2, 1, 0, 0, 0, 160)) rfl) (w := 1) rfl rfl ?_
    refine e_80 (f_70 (pc := 160) (e := (160, 80, 7, 0, 0, 0, 0, 163)) rfl) ?_
    refine e_lo [0, 1, 2] rfl ?_
    exact F
  · replace F := F.2 c1
    refine e_12 (f_70 (pc := 27) (e := (27, 12, 0, 0, 0, 0, 0, 28)) rfl) rfl ?_
    refine e_90r zA (f_70 (pc := 28) (e := (28, 90, 6, 6, 3, 21, 942, 31)) rfl) rfl (hT 91 rfl) rfl rfl (hR 91 6 rfl) ?_
    refine e_10 (f_70 (pc := 31) (e := (31, 10, 2, 0, 0, 0, 0, 32)) rfl) rfl ?_
    obtain ⟨b2, b3, F⟩ := F
    refine e_110 (f_70 (pc := 32) (e := (32, 110, 0, 0, 0, 0, 0, 33)) rfl) rfl (hT 95 rfl) b2 b3 ?_
    refine e_12 (f_70 (pc := 33) (e := (33, 12, 0, 0, 0, 0, 0, 34)) rfl) rfl ?_
    refine e_90 zA (f_70 (pc := 34) (e := (34, 90, 6, 1, 0, 58, 950, 37)) rfl) rfl (hT 91 rfl) rfl rfl ?_
    refine e_73 (f_70 (pc := 37) (e := (37, 73, 157, 0, 0, 0, 0, 40)) rfl) (fun c4 => ?_) (fun c4 => ?_)
    · replace F := F.1 c4
      refine e_26 (f_70 (pc := 157) (e := (157, 26, 2, 1, 0, 0, 0, 160)) rfl) (w := 1) rfl rfl ?_
      refine e_80 (f_70 (pc := 160) (e := (160, 80, 7, 0, 0, 0, 0, 163)) rfl) ?_
      refine e_lo [0, 1, 2] rfl ?_
      exact F
    · replace F := F.2 c4
      refine e_12 (f_70 (pc := 40) (e := (40, 12, 0, 0, 0, 0, 0, 41)) rfl) rfl ?_
      refine e_10 (f_70 (pc := 41) (e := (41, 10, 2, 0, 0, 0, 0, 42)) rfl) rfl ?_
      refine e_10 (f_70 (pc := 42) (e := (42, 10, 3, 0, 0, 0, 0, 43)) rfl) rfl ?_
      refine e_130 (f_70 (pc := 43) (e := (43, 130, 79, 0, 6, 122, 951, 46)) rfl) zA (as := [yr (some 91), yi x2, yi x3]) (rest := []) rfl rfl rfl rfl (Nat.le_of_ble_eq_true rfl) (Nat.le_of_ble_eq_true rfl) ⟨_, _, _, rfl, (hT 91 rfl)⟩ (mc := 0) (ms := 0) (Nat.zero_le _) (Nat.zero_le _) ?_
      refine e_K ?_ F
      rintro r h' ⟨r6, I5, rfl, rfl, F⟩
      refine e_21 (f_70 (pc := 46) (e := (46, 21, 4, 0, 0, 0, 0, 48)) rfl) ?_
      refine e_11 (f_70 (pc := 48) (e := (48, 11, 4, 0, 0, 0, 0, 50)) rfl) rfl ?_
      refine e_0 (f_70 (pc := 50) (e := (50, 0, 4294967295, 0, 0, 0, 0, 51)) rfl) (v := (-1)) rfl ?_
      refine e_71 (f_70 (pc := 51) (e := (51, 71, 58, 0, 0, 0, 0, 54)) rfl) (fun c7 => ?_) (fun c7 => ?_)
      · replace F := F.1 c7
        refine e_10 (f_70 (pc := 58) (e := (58, 10, 1, 0, 0, 0, 0, 59)) rfl) rfl ?_
        refine e_11 (f_70 (pc := 59) (e := (59, 11, 4, 0, 0, 0, 0, 61)) rfl) rfl ?_
        refine e_12 (f_70 (pc := 61) (e := (61, 12, 0, 0, 0, 0, 0, 62)) rfl) rfl ?_
        refine e_90r zA (f_70 (pc := 62) (e := (62, 90, 6, 6, 3, 21, 942, 65)) rfl) rfl (hT 91 rfl) rfl rfl (hR 91 6 rfl) ?_
        refine e_10 (f_70 (pc := 65) (e := (65, 10, 2, 0, 0, 0, 0, 66)) rfl) rfl ?_
        obtain ⟨b8, b9, F⟩ := F
        refine e_110 (f_70 (pc := 66) (e := (66, 110, 0, 0, 0, 0, 0, 67)) rfl) rfl (hT 95 rfl) b8 b9 ?_
        refine e_31 (f_70 (pc := 67) (e := (67, 31, 0, 0, 0, 0, 0, 68)) rfl) ?_
        refine e_12 (f_70 (pc := 68) (e := (68, 12, 0, 0, 0, 0, 0, 69)) rfl) rfl ?_
        refine e_90r zA (f_70 (pc := 69) (e := (69, 90, 6, 5, 3, 18, 941, 72)) rfl) rfl (hT 91 rfl) rfl rfl (hR 91 5 rfl) ?_
        refine e_10 (f_70 (pc := 72) (e := (72, 10, 2, 0, 0, 0, 0, 73)) rfl) rfl ?_
        obtain ⟨b10, b11, F⟩ := F
        refine e_110 (f_70 (pc := 73) (e := (73, 110, 0, 0, 0, 0, 0, 74)) rfl) rfl (hT 94 rfl) b10 b11 ?_
        refine e_32 (f_70 (pc := 74) (e := (74, 32, 0, 0, 0, 0, 0, 75)) rfl) ?_
        refine e_30 (f_70 (pc := 75) (e := (75, 30, 0, 0, 0, 0, 0, 76)) rfl) ?_
        refine e_21 (f_70 (pc := 76) (e := (76, 21, 5, 0, 0, 0, 0, 78)) rfl) ?_
        refine e_11 (f_70 (pc := 78) (e := (78, 11, 5, 0, 0, 0, 0, 80)) rfl) rfl ?_
        refine e_62 (f_70 (pc := 80) (e := (80, 62, 151, 0, 0, 0, 0, 83)) rfl) (fun c12 => ?_) (fun c12 => ?_)
        · replace F := F.1 c12
          refine e_26 (f_70 (pc := 151) (e := (151, 26, 3, 1, 0, 0, 0, 154)) rfl) (w := 1) rfl rfl ?_
          refine e_80 (f_70 (pc := 154) (e := (154, 80, 22, 0, 0, 0, 0, 157)) rfl) ?_
          refine e_lo [0, 1, 2, 3] rfl ?_
          exact F
        · replace F := F.2 c12
          refine e_11 (f_70 (pc := 83) (e := (83, 11, 5, 0, 0, 0, 0, 85)) rfl) rfl ?_
          refine e_12 (f_70 (pc := 85) (e := (85, 12, 0, 0, 0, 0, 0, 86)) rfl) rfl ?_
          refine e_90r zA (f_70 (pc := 86) (e := (86, 90, 6, 9, 3, 30, 945, 89)) rfl) rfl (hT 91 rfl) rfl rfl hvs ?_
          refine e_103 (f_70 (pc := 89) (e := (89, 103, 0, 0, 0, 0, 0, 90)) rfl) rfl hTvs (by decide) hns ?_
          refine e_73 (f_70 (pc := 90) (e := (90, 73, 151, 0, 0, 0, 0, 93)) rfl) (fun c13 => ?_) (fun c13 => ?_)
          · replace F := F.1 c13
            refine e_26 (f_70 (pc := 151) (e := (151, 26, 3, 1, 0, 0, 0, 154)) rfl) (w := 1) rfl rfl ?_
            refine e_80 (f_70 (pc := 154) (e := (154, 80, 22, 0, 0, 0, 0, 157)) rfl) ?_
            refine e_lo [0, 1, 2, 3] rfl ?_
            exact F
          · replace F := F.2 c13
            refine e_12 (f_70 (pc := 93) (e := (93, 12, 0, 0, 0, 0, 0, 94)) rfl) rfl ?_
            refine e_90 zA (f_70 (pc := 94) (e := (94, 90, 6, 11, 0, 113, 952, 97)) rfl) rfl (hT 91 rfl) rfl rfl ?_
            refine e_12 (f_70 (pc := 97) (e := (97, 12, 0, 0, 0, 0, 0, 98)) rfl) rfl ?_
            refine e_90r zA (f_70 (pc := 98) (e := (98, 90, 6, 10, 3, 34, 946, 101)) rfl) rfl (hT 91 rfl) rfl rfl hvq ?_
            refine e_103 (f_70 (pc := 101) (e := (101, 103, 0, 0, 0, 0, 0, 102)) rfl) rfl hTvq (by decide) hnq ?_
            refine e_73 (f_70 (pc := 102) (e := (102, 73, 151, 0, 0, 0, 0, 105)) rfl) (fun c14 => ?_) (fun c14 => ?_)
            · replace F := F.1 c14
              refine e_26 (f_70 (pc := 151) (e := (151, 26, 3, 1, 0, 0, 0, 154)) rfl) (w := 1) rfl rfl ?_
              refine e_80 (f_70 (pc := 154) (e := (154, 80, 22, 0, 0, 0, 0, 157)) rfl) ?_
              refine e_lo [0, 1, 2, 3] rfl ?_
              exact F
            · replace F := F.2 c14
              refine e_12 (f_70 (pc := 105) (e := (105, 12, 0, 0, 0, 0, 0, 106)) rfl) rfl ?_
              refine e_90r zA (f_70 (pc := 106) (e := (106, 90, 6, 9, 3, 30, 945, 109)) rfl) rfl (hT 91 rfl) rfl rfl hvs ?_
              refine e_11 (f_70 (pc := 109) (e := (109, 11, 5, 0, 0, 0, 0, 111)) rfl) rfl ?_
              obtain ⟨b15, b16, F⟩ := F
              refine e_112 (f_70 (pc := 111) (e := (111, 112, 0, 0, 0, 0, 0, 112)) rfl) rfl hTvs b15 b16 (.inl rfl) ?_
              refine e_61 (f_70 (pc := 112) (e := (112, 61, 151, 0, 0, 0, 0, 115)) rfl) (fun c17 => ?_) (fun c17 => ?_)
              · replace F := F.1 c17
                refine e_26 (f_70 (pc := 151) (e := (151, 26, 3, 1, 0, 0, 0, 154)) rfl) (w := 1) rfl rfl ?_
                refine e_80 (f_70 (pc := 154) (e := (154, 80, 22, 0, 0, 0, 0, 157)) rfl) ?_
                refine e_lo [0, 1, 2, 3] rfl ?_
                exact F
              · replace F := F.2 c17
                refine e_12 (f_70 (pc := 115) (e := (115, 12, 0, 0, 0, 0, 0, 116)) rfl) rfl ?_
                refine e_90r zA (f_70 (pc := 116) (e := (116, 90, 6, 9, 3, 30, 945, 119)) rfl) rfl (hT 91 rfl) rfl rfl hvs ?_
                refine e_11 (f_70 (pc := 119) (e := (119, 11, 5, 0, 0, 0, 0, 121)) rfl) rfl ?_
                refine e_10 (f_70 (pc := 121) (e := (121, 10, 2, 0, 0, 0, 0, 122)) rfl) rfl ?_
                refine e_0 (f_70 (pc := 122) (e := (122, 0, 4, 0, 0, 0, 0, 123)) rfl) (v := 4) rfl ?_
                refine e_32 (f_70 (pc := 123) (e := (123, 32, 0, 0, 0, 0, 0, 124)) rfl) ?_
                refine e_10 (f_70 (pc := 124) (e := (124, 10, 3, 0, 0, 0, 0, 125)) rfl) rfl ?_
                refine e_30 (f_70 (pc := 125) (e := (125, 30, 0, 0, 0, 0, 0, 126)) rfl) ?_
                refine e_0 (f_70 (pc := 126) (e := (126, 0, 1, 0, 0, 0, 0, 127)) rfl) (v := 1) rfl ?_
                refine e_30 (f_70 (pc := 127) (e := (127, 30, 0, 0, 0, 0, 0, 128)) rfl) ?_
                refine e_40 (f_70 (pc := 128) (e := (128, 40, 0, 0, 0, 0, 0, 129)) rfl) ?_
                obtain ⟨b18, b19, F⟩ := F
                refine e_113 (f_70 (pc := 129) (e := (129, 113, 0, 0, 0, 0, 0, 130)) rfl) rfl hTvs b18 b19 (.inl rfl) ?_
                replace F := F _ rfl
                refine e_12 (f_70 (pc := 130) (e := (130, 12, 0, 0, 0, 0, 0, 131)) rfl) rfl ?_
                refine e_90r zA (f_70 (pc := 131) (e := (131, 90, 6, 10, 3, 34, 946, 134)) rfl) rfl (hT 91 rfl) rfl rfl hvq ?_
                refine e_12 (f_70 (pc := 134) (e := (134, 12, 0, 0, 0, 0, 0, 135)) rfl) rfl ?_
                refine e_90 zA (f_70 (pc := 135) (e := (135, 90, 6, 11, 0, 113, 952, 138)) rfl) rfl (hT 91 rfl) rfl rfl ?_
                refine e_11 (f_70 (pc := 138) (e := (138, 11, 5, 0, 0, 0, 0, 140)) rfl) rfl ?_
                obtain ⟨b21, b22, F⟩ := F
                refine e_111 (f_70 (pc := 140) (e := (140, 111, 0, 0, 0, 0, 0, 141)) rfl) rfl hTvq b21 b22 ?_
                replace F := F _ rfl
                refine e_12 (f_70 (pc := 141) (e := (141, 12, 0, 0, 0, 0, 0, 142)) rfl) rfl ?_
                refine e_50 (f_70 (pc := 142) (e := (142, 50, 0, 0, 0, 0, 0, 143)) rfl) rfl ?_
                refine e_90 zA (f_70 (pc := 143) (e := (143, 90, 6, 11, 0, 113, 952, 146)) rfl) rfl (hT 91 rfl) rfl rfl ?_
                refine e_0 (f_70 (pc := 146) (e := (146, 0, 1, 0, 0, 0, 0, 147)) rfl) (v := 1) rfl ?_
                refine e_30 (f_70 (pc := 147) (e := (147, 30, 0, 0, 0, 0, 0, 148)) rfl) ?_
                refine e_91 zA (f_70 (pc := 148) (e := (148, 91, 6, 11, 0, 113, 952, 151)) rfl) rfl (hT 91 rfl) rfl rfl trivial ?_
                replace F := F _ rfl
                refine e_26 (f_70 (pc := 151) (e := (151, 26, 3, 1, 0, 0, 0, 154)) rfl) (w := 1) rfl rfl ?_
                refine e_80 (f_70 (pc := 154) (e := (154, 80, 22, 0, 0, 0, 0, 157)) rfl) ?_
                refine e_lo [0, 1, 2, 3] rfl ?_
                exact F
      · replace F := F.2 c7
        refine e_0 (f_70 (pc := 54) (e := (54, 0, 4294967295, 0, 0, 0, 0, 55)) rfl) (v := (-1)) rfl ?_
        refine e_80 (f_70 (pc := 55) (e := (55, 80, 76, 0, 0, 0, 0, 58)) rfl) ?_
        refine e_21 (f_70 (pc := 76) (e := (76, 21, 5, 0, 0, 0, 0, 78)) rfl) ?_
        refine e_11 (f_70 (pc := 78) (e := (78, 11, 5, 0, 0, 0, 0, 80)) rfl) rfl ?_
        refine e_62 (f_70 (pc := 80) (e := (80, 62, 151, 0, 0, 0, 0, 83)) rfl) (fun _ => ?_) (fun g => absurd (by decide) g)
        refine e_26 (f_70 (pc := 151) (e := (151, 26, 3, 1, 0, 0, 0, 154)) rfl) (w := 1) rfl rfl ?_
        refine e_80 (f_70 (pc := 154) (e := (154, 80, 22, 0, 0, 0, 0, 157)) rfl) ?_
        refine e_lo [0, 1, 2, 3] rfl ?_
        exact F
end Sy
