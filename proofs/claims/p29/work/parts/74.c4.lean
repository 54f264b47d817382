/-! BLOCKS of the class, printed by wip/whole/y/gen74.py (4) -/
section Sy
variable {l : Launch} {D : va_G} {cy : Nat → ClassId} {z d bc bs N : Nat} {T : Nat → Nat × Nat} {R : Nat → Nat → Option Nat} {I : Nat → Nat → Int} {K : yKo}
/-! ChairAlley.met(II)I -/
set_option maxRecDepth 20000 in
theorem B_136_0 (hT : yLT T) (hR : yLR R) {x1 x2 : Int} (F : (x1 < 0 → K (some (yi (-1))) (N, T, R, I)) ∧ (¬ (x1 < 0) → (60 ≤ x1 → K (some (yi (-1))) (N, T, R, I)) ∧ (¬ (60 ≤ x1) → (x1 < (I 16 12) → (x2 < 0 → K (some (yi (-1))) (N, T, R, I)) ∧ (¬ (x2 < 0) → (x2 < 5 → 0 ≤ (yadd (ymul x1 5) x2) ∧ (yadd (ymul x1 5) x2) < 300 ∧ (K (some (yi (I 28 (yadd (ymul x1 5) x2).toNat))) (N, T, R, I))) ∧ (¬ (x2 < 5) → K (some (yi (-1))) (N, T, R, I)))) ∧ (¬ (x1 < (I 16 12)) → K (some (yi (-1))) (N, T, R, I))))) :
    yW l zSS D cy zFk z d 136 bc bs K 0 0 0 [(0, yr (some 0)), (1, yi x1), (2, yi x2)] [] (N, T, R, I) := by
  refine e_10 (f_136 (pc := 0) (e := (0, 10, 1, 0, 0, 0, 0, 1)) rfl) rfl ?_
  refine e_62 (f_136 (pc := 1) (e := (1, 62, 24, 0, 0, 0, 0, 4)) rfl) (fun c1 => ?_) (fun c1 => ?_)
  · replace F := F.1 c1
    refine e_0 (f_136 (pc := 24) (e := (24, 0, 4294967295, 0, 0, 0, 0, 25)) rfl) (v := (-1)) rfl ?_
    exact e_120 (f_136 (pc := 25) (e := (25, 120, 0, 0, 0, 0, 0, 26)) rfl) F
  · replace F := F.2 c1
    refine e_10 (f_136 (pc := 4) (e := (4, 10, 1, 0, 0, 0, 0, 5)) rfl) rfl ?_
    refine e_1 (f_136 (pc := 5) (e := (5, 1, 60, 0, 0, 0, 0, 7)) rfl) (v := 60) rfl ?_
    refine e_73 (f_136 (pc := 7) (e := (7, 73, 24, 0, 0, 0, 0, 10)) rfl) (fun c2 => ?_) (fun c2 => ?_)
    · replace F := F.1 c2
      refine e_0 (f_136 (pc := 24) (e := (24, 0, 4294967295, 0, 0, 0, 0, 25)) rfl) (v := (-1)) rfl ?_
      exact e_120 (f_136 (pc := 25) (e := (25, 120, 0, 0, 0, 0, 0, 26)) rfl) F
    · replace F := F.2 c2
      refine e_10 (f_136 (pc := 10) (e := (10, 10, 1, 0, 0, 0, 0, 11)) rfl) rfl ?_
      refine e_12 (f_136 (pc := 11) (e := (11, 12, 0, 0, 0, 0, 0, 12)) rfl) rfl ?_
      refine e_90r zA (f_136 (pc := 12) (e := (12, 90, 10, 1, 3, 19, 1064, 15)) rfl) rfl (hT 0 rfl) rfl rfl (hR 0 1 rfl) ?_
      refine e_90r zA (f_136 (pc := 15) (e := (15, 90, 9, 1, 3, 92, 1084, 18)) rfl) rfl (hT 3 rfl) rfl rfl (hR 3 1 rfl) ?_
      refine e_90 zA (f_136 (pc := 18) (e := (18, 90, 5, 12, 0, 227, 1132, 21)) rfl) rfl (hT 16 rfl) rfl rfl ?_
      refine e_72 (f_136 (pc := 21) (e := (21, 72, 26, 0, 0, 0, 0, 24)) rfl) (fun c3 => ?_) (fun c3 => ?_)
      · replace F := F.1 c3
        refine e_10 (f_136 (pc := 26) (e := (26, 10, 2, 0, 0, 0, 0, 27)) rfl) rfl ?_
        refine e_62 (f_136 (pc := 27) (e := (27, 62, 35, 0, 0, 0, 0, 30)) rfl) (fun c4 => ?_) (fun c4 => ?_)
        · replace F := F.1 c4
          refine e_0 (f_136 (pc := 35) (e := (35, 0, 4294967295, 0, 0, 0, 0, 36)) rfl) (v := (-1)) rfl ?_
          exact e_120 (f_136 (pc := 36) (e := (36, 120, 0, 0, 0, 0, 0, 37)) rfl) F
        · replace F := F.2 c4
          refine e_10 (f_136 (pc := 30) (e := (30, 10, 2, 0, 0, 0, 0, 31)) rfl) rfl ?_
          refine e_0 (f_136 (pc := 31) (e := (31, 0, 5, 0, 0, 0, 0, 32)) rfl) (v := 5) rfl ?_
          refine e_72 (f_136 (pc := 32) (e := (32, 72, 37, 0, 0, 0, 0, 35)) rfl) (fun c5 => ?_) (fun c5 => ?_)
          · replace F := F.1 c5
            refine e_12 (f_136 (pc := 37) (e := (37, 12, 0, 0, 0, 0, 0, 38)) rfl) rfl ?_
            refine e_90r zA (f_136 (pc := 38) (e := (38, 90, 10, 1, 3, 19, 1064, 41)) rfl) rfl (hT 0 rfl) rfl rfl (hR 0 1 rfl) ?_
            refine e_90r zA (f_136 (pc := 41) (e := (41, 90, 9, 1, 3, 92, 1084, 44)) rfl) rfl (hT 3 rfl) rfl rfl (hR 3 1 rfl) ?_
            refine e_90r zA (f_136 (pc := 44) (e := (44, 90, 5, 13, 3, 234, 1133, 47)) rfl) rfl (hT 16 rfl) rfl rfl (hR 16 13 rfl) ?_
            refine e_10 (f_136 (pc := 47) (e := (47, 10, 1, 0, 0, 0, 0, 48)) rfl) rfl ?_
            refine e_0 (f_136 (pc := 48) (e := (48, 0, 5, 0, 0, 0, 0, 49)) rfl) (v := 5) rfl ?_
            refine e_32 (f_136 (pc := 49) (e := (49, 32, 0, 0, 0, 0, 0, 50)) rfl) ?_
            refine e_10 (f_136 (pc := 50) (e := (50, 10, 2, 0, 0, 0, 0, 51)) rfl) rfl ?_
            refine e_30 (f_136 (pc := 51) (e := (51, 30, 0, 0, 0, 0, 0, 52)) rfl) ?_
            obtain ⟨b6, b7, F⟩ := F
            refine e_110 (f_136 (pc := 52) (e := (52, 110, 0, 0, 0, 0, 0, 53)) rfl) rfl (hT 28 rfl) b6 b7 ?_
            exact e_120 (f_136 (pc := 53) (e := (53, 120, 0, 0, 0, 0, 0, 0)) rfl) F
          · replace F := F.2 c5
            refine e_0 (f_136 (pc := 35) (e := (35, 0, 4294967295, 0, 0, 0, 0, 36)) rfl) (v := (-1)) rfl ?_
            exact e_120 (f_136 (pc := 36) (e := (36, 120, 0, 0, 0, 0, 0, 37)) rfl) F
      · replace F := F.2 c3
        refine e_0 (f_136 (pc := 24) (e := (24, 0, 4294967295, 0, 0, 0, 0, 25)) rfl) (v := (-1)) rfl ?_
        exact e_120 (f_136 (pc := 25) (e := (25, 120, 0, 0, 0, 0, 0, 26)) rfl) F

/-! ChairAlley.next(I)I -/
set_option maxRecDepth 20000 in
theorem B_137_0 (hT : yLT T) (hR : yLR R) {x1 : Int} (F : yW l zSS D cy zFk z d 126 0 0 (fun r h' => ∃ r2 I1, r = some (yi r2) ∧ h' = (N, T, R, I1) ∧ ((r2 ≠ 0 → 0 ≤ x1 ∧ x1 < 8 ∧ (yW l zSS D cy zFk z d 109 0 0 (fun r h' => ∃ I6, r = none ∧ h' = (N, T, R, I6) ∧ (0 ≤ x1 ∧ x1 < 8 ∧ (yW l zSS D cy zFk z d 108 0 0 (fun r h' => ∃ r10 I9, r = some (yi r10) ∧ h' = (N, T, R, I9) ∧ (K (some (yi r10)) (N, T, R, I9))) 0 0 0 [(0, yr (some 85)), (1, yi x1), (2, yi (I6 20 x1.toNat))] [] (N, T, R, I6)))) 0 0 0 [(0, yr (some 85)), (1, yr (some 17)), (2, yi (I1 10 x1.toNat)), (3, yi x1)] [] (N, T, R, I1))) ∧ (¬ (r2 ≠ 0) → K (some (yi (-1))) (N, T, R, I1)))) 0 0 0 [(0, yr (some 0)), (1, yi x1)] [] (N, T, R, I)) :
    yW l zSS D cy zFk z (d + 1) 137 bc bs K 0 0 0 [(0, yr (some 0)), (1, yi x1)] [] (N, T, R, I) := by
  refine e_12 (f_137 (pc := 0) (e := (0, 12, 0, 0, 0, 0, 0, 1)) rfl) rfl ?_
  refine e_10 (f_137 (pc := 1) (e := (1, 10, 1, 0, 0, 0, 0, 2)) rfl) rfl ?_
  refine e_130 (f_137 (pc := 2) (e := (2, 130, 126, 0, 10, 186, 1134, 5)) rfl) zA (as := [yr (some 0), yi x1]) (rest := []) rfl rfl rfl rfl (Nat.le_of_ble_eq_true rfl) (Nat.le_of_ble_eq_true rfl) ⟨_, _, _, rfl, (hT 0 rfl)⟩ (mc := 0) (ms := 0) (Nat.zero_le _) (Nat.zero_le _) ?_
  refine e_K ?_ F
  rintro r h' ⟨r2, I1, rfl, rfl, F⟩
  refine e_61 (f_137 (pc := 5) (e := (5, 61, 10, 0, 0, 0, 0, 8)) rfl) (fun c3 => ?_) (fun c3 => ?_)
  · replace F := F.1 c3
    refine e_12 (f_137 (pc := 10) (e := (10, 12, 0, 0, 0, 0, 0, 11)) rfl) rfl ?_
    refine e_90r zA (f_137 (pc := 11) (e := (11, 90, 10, 3, 3, 35, 1069, 14)) rfl) rfl (hT 0 rfl) rfl rfl (hR 0 3 rfl) ?_
    refine e_90r zA (f_137 (pc := 14) (e := (14, 90, 7, 1, 3, 173, 1135, 17)) rfl) rfl (hT 67 rfl) rfl rfl (hR 67 1 rfl) ?_
    refine e_12 (f_137 (pc := 17) (e := (17, 12, 0, 0, 0, 0, 0, 18)) rfl) rfl ?_
    refine e_90r zA (f_137 (pc := 18) (e := (18, 90, 10, 1, 3, 19, 1064, 21)) rfl) rfl (hT 0 rfl) rfl rfl (hR 0 1 rfl) ?_
    refine e_90r zA (f_137 (pc := 21) (e := (21, 90, 9, 1, 3, 92, 1084, 24)) rfl) rfl (hT 3 rfl) rfl rfl (hR 3 1 rfl) ?_
    refine e_90r zA (f_137 (pc := 24) (e := (24, 90, 5, 1, 3, 166, 1099, 27)) rfl) rfl (hT 16 rfl) rfl rfl (hR 16 1 rfl) ?_
    refine e_12 (f_137 (pc := 27) (e := (27, 12, 0, 0, 0, 0, 0, 28)) rfl) rfl ?_
    refine e_90r zA (f_137 (pc := 28) (e := (28, 90, 10, 1, 3, 19, 1064, 31)) rfl) rfl (hT 0 rfl) rfl rfl (hR 0 1 rfl) ?_
    refine e_90r zA (f_137 (pc := 31) (e := (31, 90, 9, 0, 3, 28, 1067, 34)) rfl) rfl (hT 3 rfl) rfl rfl (hR 3 0 rfl) ?_
    refine e_90r zA (f_137 (pc := 34) (e := (34, 90, 1, 8, 3, 137, 1105, 37)) rfl) rfl (hT 4 rfl) rfl rfl (hR 4 8 rfl) ?_
    refine e_10 (f_137 (pc := 37) (e := (37, 10, 1, 0, 0, 0, 0, 38)) rfl) rfl ?_
    obtain ⟨b4, b5, F⟩ := F
    refine e_110 (f_137 (pc := 38) (e := (38, 110, 0, 0, 0, 0, 0, 39)) rfl) rfl (hT 10 rfl) b4 b5 ?_
    refine e_10 (f_137 (pc := 39) (e := (39, 10, 1, 0, 0, 0, 0, 40)) rfl) rfl ?_
    refine e_130 (f_137 (pc := 40) (e := (40, 130, 109, 0, 8, 177, 1136, 43)) rfl) zA (as := [yr (some 85), yr (some 17), yi _, yi x1]) (rest := []) rfl rfl rfl rfl (Nat.le_of_ble_eq_true rfl) (Nat.le_of_ble_eq_true rfl) ⟨_, _, _, rfl, (hT 85 rfl)⟩ (mc := 0) (ms := 0) (Nat.zero_le _) (Nat.zero_le _) ?_
    refine e_K ?_ F
    rintro r h' ⟨I6, rfl, rfl, F⟩
    refine e_12 (f_137 (pc := 43) (e := (43, 12, 0, 0, 0, 0, 0, 44)) rfl) rfl ?_
    refine e_90r zA (f_137 (pc := 44) (e := (44, 90, 10, 3, 3, 35, 1069, 47)) rfl) rfl (hT 0 rfl) rfl rfl (hR 0 3 rfl) ?_
    refine e_90r zA (f_137 (pc := 47) (e := (47, 90, 7, 1, 3, 173, 1135, 50)) rfl) rfl (hT 67 rfl) rfl rfl (hR 67 1 rfl) ?_
    refine e_10 (f_137 (pc := 50) (e := (50, 10, 1, 0, 0, 0, 0, 51)) rfl) rfl ?_
    refine e_12 (f_137 (pc := 51) (e := (51, 12, 0, 0, 0, 0, 0, 52)) rfl) rfl ?_
    refine e_90r zA (f_137 (pc := 52) (e := (52, 90, 10, 1, 3, 19, 1064, 55)) rfl) rfl (hT 0 rfl) rfl rfl (hR 0 1 rfl) ?_
    refine e_90r zA (f_137 (pc := 55) (e := (55, 90, 9, 1, 3, 92, 1084, 58)) rfl) rfl (hT 3 rfl) rfl rfl (hR 3 1 rfl) ?_
    refine e_90r zA (f_137 (pc := 58) (e := (58, 90, 5, 4, 3, 127, 1102, 61)) rfl) rfl (hT 16 rfl) rfl rfl (hR 16 4 rfl) ?_
    refine e_10 (f_137 (pc := 61) (e := (61, 10, 1, 0, 0, 0, 0, 62)) rfl) rfl ?_
    obtain ⟨b7, b8, F⟩ := F
    refine e_110 (f_137 (pc := 62) (e := (62, 110, 0, 0, 0, 0, 0, 63)) rfl) rfl (hT 20 rfl) b7 b8 ?_
    refine e_130 (f_137 (pc := 63) (e := (63, 130, 108, 0, 8, 189, 1137, 66)) rfl) zA (as := [yr (some 85), yi x1, yi _]) (rest := []) rfl rfl rfl rfl (Nat.le_of_ble_eq_true rfl) (Nat.le_of_ble_eq_true rfl) ⟨_, _, _, rfl, (hT 85 rfl)⟩ (mc := 0) (ms := 0) (Nat.zero_le _) (Nat.zero_le _) ?_
    refine e_K ?_ F
    rintro r h' ⟨r10, I9, rfl, rfl, F⟩
    exact e_120 (f_137 (pc := 66) (e := (66, 120, 0, 0, 0, 0, 0, 0)) rfl) F
  · replace F := F.2 c3
    refine e_0 (f_137 (pc := 8) (e := (8, 0, 4294967295, 0, 0, 0, 0, 9)) rfl) (v := (-1)) rfl ?_
    exact e_120 (f_137 (pc := 9) (e := (9, 120, 0, 0, 0, 0, 0, 10)) rfl) F

/-! ChairAlley.now(I)I -/
set_option maxRecDepth 20000 in
theorem B_138_0 (hT : yLT T) (hR : yLR R) {x1 : Int} (F : (x1 = 0 → K (some (yi (I 16 0))) (N, T, R, I)) ∧ (¬ (x1 = 0) → (x1 = 1 → yW l zSS D cy zFk z d 60 0 0 (fun r h' => ∃ r4 I3, r = some (yi r4) ∧ h' = (N, T, R, I3) ∧ (K (some (yi r4)) (N, T, R, I3))) 0 0 0 [(0, yr (some 16)), (1, yi (I 4 5))] [] (N, T, R, I)) ∧ (¬ (x1 = 1) → (x1 = 2 → yW l zSS D cy zFk z d 61 0 0 (fun r h' => ∃ r7 I6, r = some (yi r7) ∧ h' = (N, T, R, I6) ∧ (K (some (yi r7)) (N, T, R, I6))) 0 0 0 [(0, yr (some 16)), (1, yi (I 4 5))] [] (N, T, R, I)) ∧ (¬ (x1 = 2) → (x1 = 3 → K (some (yi (I 16 12))) (N, T, R, I)) ∧ (¬ (x1 = 3) → (x1 = 4 → yW l zSS D cy zFk z d 67 0 0 (fun r h' => ∃ r11 I10, r = some (yi r11) ∧ h' = (N, T, R, I10) ∧ (K (some (yi r11)) (N, T, R, I10))) 0 0 0 [(0, yr (some 23)), (1, yi (I 4 5))] [] (N, T, R, I)) ∧ (¬ (x1 = 4) → (x1 = 5 → yW l zSS D cy zFk z d 67 0 0 (fun r h' => ∃ r14 I13, r = some (yi r14) ∧ h' = (N, T, R, I13) ∧ (K (some (yi r14)) (N, T, R, I13))) 0 0 0 [(0, yr (some 24)), (1, yi (I 4 5))] [] (N, T, R, I)) ∧ (¬ (x1 = 5) → K (some (yi (-1))) (N, T, R, I)))))))) :
    yW l zSS D cy zFk z (d + 1) 138 bc bs K 0 0 0 [(0, yr (some 0)), (1, yi x1)] [] (N, T, R, I) := by
  refine e_12 (f_138 (pc := 0) (e := (0, 12, 0, 0, 0, 0, 0, 1)) rfl) rfl ?_
  refine e_90r zA (f_138 (pc := 1) (e := (1, 90, 10, 1, 3, 19, 1064, 4)) rfl) rfl (hT 0 rfl) rfl rfl (hR 0 1 rfl) ?_
  refine e_90r zA (f_138 (pc := 4) (e := (4, 90, 9, 1, 3, 92, 1084, 7)) rfl) rfl (hT 3 rfl) rfl rfl (hR 3 1 rfl) ?_
  refine e_22 (f_138 (pc := 7) (e := (7, 22, 2, 0, 0, 0, 0, 8)) rfl) ?_
  refine e_12 (f_138 (pc := 8) (e := (8, 12, 0, 0, 0, 0, 0, 9)) rfl) rfl ?_
  refine e_90r zA (f_138 (pc := 9) (e := (9, 90, 10, 1, 3, 19, 1064, 12)) rfl) rfl (hT 0 rfl) rfl rfl (hR 0 1 rfl) ?_
  refine e_90r zA (f_138 (pc := 12) (e := (12, 90, 9, 0, 3, 28, 1067, 15)) rfl) rfl (hT 3 rfl) rfl rfl (hR 3 0 rfl) ?_
  refine e_90 zA (f_138 (pc := 15) (e := (15, 90, 1, 5, 0, 218, 1093, 18)) rfl) rfl (hT 4 rfl) rfl rfl ?_
  refine e_20 (f_138 (pc := 18) (e := (18, 20, 3, 0, 0, 0, 0, 19)) rfl) ?_
  refine e_10 (f_138 (pc := 19) (e := (19, 10, 1, 0, 0, 0, 0, 20)) rfl) rfl ?_
  refine e_83 (f_138 (pc := 20) (e := (20, 83, 2147483648, 6, 9, 0, 0, 100)) rfl) (v := x1) (low := 0) rfl ?_
  by_cases c1 : x1 = 0
  · replace F := F.1 c1
    rw [show ySw 0 (yTg zGG 9) 100 x1 = 60 from by rw [c1]; rfl]
    refine e_12 (f_138 (pc := 60) (e := (60, 12, 2, 0, 0, 0, 0, 61)) rfl) rfl ?_
    refine e_90 zA (f_138 (pc := 61) (e := (61, 90, 5, 0, 0, 209, 1138, 64)) rfl) rfl (hT 16 rfl) rfl rfl ?_
    exact e_120 (f_138 (pc := 64) (e := (64, 120, 0, 0, 0, 0, 0, 65)) rfl) F
  · replace F := F.2 c1
    by_cases c2 : x1 = 1
    · replace F := F.1 c2
      rw [show ySw 0 (yTg zGG 9) 100 x1 = 65 from by rw [c2]; rfl]
      refine e_12 (f_138 (pc := 65) (e := (65, 12, 2, 0, 0, 0, 0, 66)) rfl) rfl ?_
      refine e_10 (f_138 (pc := 66) (e := (66, 10, 3, 0, 0, 0, 0, 67)) rfl) rfl ?_
      refine e_130 (f_138 (pc := 67) (e := (67, 130, 60, 0, 5, 221, 1139, 70)) rfl) zA (as := [yr (some 16), yi _]) (rest := []) rfl rfl rfl rfl (Nat.le_of_ble_eq_true rfl) (Nat.le_of_ble_eq_true rfl) ⟨_, _, _, rfl, (hT 16 rfl)⟩ (mc := 0) (ms := 0) (Nat.zero_le _) (Nat.zero_le _) ?_
      refine e_K ?_ F
      rintro r h' ⟨r4, I3, rfl, rfl, F⟩
      exact e_120 (f_138 (pc := 70) (e := (70, 120, 0, 0, 0, 0, 0, 71)) rfl) F
    · replace F := F.2 c2
      by_cases c5 : x1 = 2
      · replace F := F.1 c5
        rw [show ySw 0 (yTg zGG 9) 100 x1 = 71 from by rw [c5]; rfl]
        refine e_12 (f_138 (pc := 71) (e := (71, 12, 2, 0, 0, 0, 0, 72)) rfl) rfl ?_
        refine e_10 (f_138 (pc := 72) (e := (72, 10, 3, 0, 0, 0, 0, 73)) rfl) rfl ?_
        refine e_130 (f_138 (pc := 73) (e := (73, 130, 61, 0, 5, 224, 1121, 76)) rfl) zA (as := [yr (some 16), yi _]) (rest := []) rfl rfl rfl rfl (Nat.le_of_ble_eq_true rfl) (Nat.le_of_ble_eq_true rfl) ⟨_, _, _, rfl, (hT 16 rfl)⟩ (mc := 0) (ms := 0) (Nat.zero_le _) (Nat.zero_le _) ?_
        refine e_K ?_ F
        rintro r h' ⟨r7, I6, rfl, rfl, F⟩
        exact e_120 (f_138 (pc := 76) (e := (76, 120, 0, 0, 0, 0, 0, 77)) rfl) F
      · replace F := F.2 c5
        by_cases c8 : x1 = 3
        · replace F := F.1 c8
          rw [show ySw 0 (yTg zGG 9) 100 x1 = 77 from by rw [c8]; rfl]
          refine e_12 (f_138 (pc := 77) (e := (77, 12, 2, 0, 0, 0, 0, 78)) rfl) rfl ?_
          refine e_90 zA (f_138 (pc := 78) (e := (78, 90, 5, 12, 0, 227, 1132, 81)) rfl) rfl (hT 16 rfl) rfl rfl ?_
          exact e_120 (f_138 (pc := 81) (e := (81, 120, 0, 0, 0, 0, 0, 82)) rfl) F
        · replace F := F.2 c8
          by_cases c9 : x1 = 4
          · replace F := F.1 c9
            rw [show ySw 0 (yTg zGG 9) 100 x1 = 82 from by rw [c9]; rfl]
            refine e_12 (f_138 (pc := 82) (e := (82, 12, 2, 0, 0, 0, 0, 83)) rfl) rfl ?_
            refine e_90r zA (f_138 (pc := 83) (e := (83, 90, 5, 7, 3, 150, 1109, 86)) rfl) rfl (hT 16 rfl) rfl rfl (hR 16 7 rfl) ?_
            refine e_10 (f_138 (pc := 86) (e := (86, 10, 3, 0, 0, 0, 0, 87)) rfl) rfl ?_
            refine e_132 (f_138 (pc := 87) (e := (87, 132, 67, 2, 5, 230, 1140, 90)) rfl) zA (as := [yr (some 23), yi _]) (rest := []) rfl rfl rfl rfl (Nat.le_of_ble_eq_true rfl) (Nat.le_of_ble_eq_true rfl) (mc := 0) (ms := 0) (Nat.zero_le _) (Nat.zero_le _) ?_
            refine e_K ?_ F
            rintro r h' ⟨r11, I10, rfl, rfl, F⟩
            exact e_120 (f_138 (pc := 90) (e := (90, 120, 0, 0, 0, 0, 0, 91)) rfl) F
          · replace F := F.2 c9
            by_cases c12 : x1 = 5
            · replace F := F.1 c12
              rw [show ySw 0 (yTg zGG 9) 100 x1 = 91 from by rw [c12]; rfl]
              refine e_12 (f_138 (pc := 91) (e := (91, 12, 2, 0, 0, 0, 0, 92)) rfl) rfl ?_
              refine e_90r zA (f_138 (pc := 92) (e := (92, 90, 5, 8, 3, 153, 1110, 95)) rfl) rfl (hT 16 rfl) rfl rfl (hR 16 8 rfl) ?_
              refine e_10 (f_138 (pc := 95) (e := (95, 10, 3, 0, 0, 0, 0, 96)) rfl) rfl ?_
              refine e_132 (f_138 (pc := 96) (e := (96, 132, 67, 2, 5, 230, 1140, 99)) rfl) zA (as := [yr (some 24), yi _]) (rest := []) rfl rfl rfl rfl (Nat.le_of_ble_eq_true rfl) (Nat.le_of_ble_eq_true rfl) (mc := 0) (ms := 0) (Nat.zero_le _) (Nat.zero_le _) ?_
              refine e_K ?_ F
              rintro r h' ⟨r14, I13, rfl, rfl, F⟩
              exact e_120 (f_138 (pc := 99) (e := (99, 120, 0, 0, 0, 0, 0, 100)) rfl) F
            · replace F := F.2 c12
              rw [show ySw 0 (yTg zGG 9) 100 x1 = 100 from ySw_out (n := 6) rfl (by omega)]
              refine e_0 (f_138 (pc := 100) (e := (100, 0, 4294967295, 0, 0, 0, 0, 101)) rfl) (v := (-1)) rfl ?_
              exact e_120 (f_138 (pc := 101) (e := (101, 120, 0, 0, 0, 0, 0, 0)) rfl) F

/-! ChairAlley.odds(II)I -/
set_option maxRecDepth 20000 in
theorem B_139_0 (hT : yLT T) (hR : yLR R) {x1 x2 : Int} (F : (x1 < 1 → K (some (yi (-1))) (N, T, R, I)) ∧ (¬ (x1 < 1) → (40 < x1 → K (some (yi (-1))) (N, T, R, I)) ∧ (¬ (40 < x1) → ((I 4 5) ≠ 0 → yW l zSS D cy zFk z d 103 0 0 (fun r h' => ∃ I4, r = none ∧ h' = (N, T, R, I4) ∧ (yW l zSS D cy zFk z d 96 0 0 (fun r h' => ∃ I5, r = none ∧ h' = (N, T, R, I5) ∧ (yW l zSS D cy zFk z (d + 1) 139 bc bs K 0 0 52 [(0, yr (some 0)), (1, yi x1), (2, yi x2), (3, yi 0), (4, yi 0)] [] (N, T, R, I5))) 0 0 0 [(0, yr (some 67))] [] (N, T, R, I4))) 0 0 0 [(0, yr (some 67)), (1, yr (some 16))] [] (N, T, R, I)) ∧ (¬ ((I 4 5) ≠ 0) → K (some (yi (-1))) (N, T, R, I))))) :
    yW l zSS D cy zFk z (d + 1) 139 bc bs K 0 0 0 [(0, yr (some 0)), (1, yi x1), (2, yi x2)] [] (N, T, R, I) := by
  refine e_10 (f_139 (pc := 0) (e := (0, 10, 1, 0, 0, 0, 0, 1)) rfl) rfl ?_
  refine e_0 (f_139 (pc := 1) (e := (1, 0, 1, 0, 0, 0, 0, 2)) rfl) (v := 1) rfl ?_
  refine e_72 (f_139 (pc := 2) (e := (2, 72, 24, 0, 0, 0, 0, 5)) rfl) (fun c1 => ?_) (fun c1 => ?_)
  · replace F := F.1 c1
    refine e_0 (f_139 (pc := 24) (e := (24, 0, 4294967295, 0, 0, 0, 0, 25)) rfl) (v := (-1)) rfl ?_
    exact e_120 (f_139 (pc := 25) (e := (25, 120, 0, 0, 0, 0, 0, 26)) rfl) F
  · replace F := F.2 c1
    refine e_10 (f_139 (pc := 5) (e := (5, 10, 1, 0, 0, 0, 0, 6)) rfl) rfl ?_
    refine e_1 (f_139 (pc := 6) (e := (6, 1, 40, 0, 0, 0, 0, 8)) rfl) (v := 40) rfl ?_
    refine e_74 (f_139 (pc := 8) (e := (8, 74, 24, 0, 0, 0, 0, 11)) rfl) (fun c2 => ?_) (fun c2 => ?_)
    · replace F := F.1 c2
      refine e_0 (f_139 (pc := 24) (e := (24, 0, 4294967295, 0, 0, 0, 0, 25)) rfl) (v := (-1)) rfl ?_
      exact e_120 (f_139 (pc := 25) (e := (25, 120, 0, 0, 0, 0, 0, 26)) rfl) F
    · replace F := F.2 c2
      refine e_12 (f_139 (pc := 11) (e := (11, 12, 0, 0, 0, 0, 0, 12)) rfl) rfl ?_
      refine e_90r zA (f_139 (pc := 12) (e := (12, 90, 10, 1, 3, 19, 1064, 15)) rfl) rfl (hT 0 rfl) rfl rfl (hR 0 1 rfl) ?_
      refine e_90r zA (f_139 (pc := 15) (e := (15, 90, 9, 0, 3, 28, 1067, 18)) rfl) rfl (hT 3 rfl) rfl rfl (hR 3 0 rfl) ?_
      refine e_90 zA (f_139 (pc := 18) (e := (18, 90, 1, 5, 0, 218, 1093, 21)) rfl) rfl (hT 4 rfl) rfl rfl ?_
      refine e_61 (f_139 (pc := 21) (e := (21, 61, 26, 0, 0, 0, 0, 24)) rfl) (fun c3 => ?_) (fun c3 => ?_)
      · replace F := F.1 c3
        refine e_12 (f_139 (pc := 26) (e := (26, 12, 0, 0, 0, 0, 0, 27)) rfl) rfl ?_
        refine e_90r zA (f_139 (pc := 27) (e := (27, 90, 10, 3, 3, 35, 1069, 30)) rfl) rfl (hT 0 rfl) rfl rfl (hR 0 3 rfl) ?_
        refine e_12 (f_139 (pc := 30) (e := (30, 12, 0, 0, 0, 0, 0, 31)) rfl) rfl ?_
        refine e_90r zA (f_139 (pc := 31) (e := (31, 90, 10, 1, 3, 19, 1064, 34)) rfl) rfl (hT 0 rfl) rfl rfl (hR 0 1 rfl) ?_
        refine e_90r zA (f_139 (pc := 34) (e := (34, 90, 9, 1, 3, 92, 1084, 37)) rfl) rfl (hT 3 rfl) rfl rfl (hR 3 1 rfl) ?_
        refine e_130 (f_139 (pc := 37) (e := (37, 130, 103, 0, 7, 271, 1091, 40)) rfl) zA (as := [yr (some 67), yr (some 16)]) (rest := []) rfl rfl rfl rfl (Nat.le_of_ble_eq_true rfl) (Nat.le_of_ble_eq_true rfl) ⟨_, _, _, rfl, (hT 67 rfl)⟩ (mc := 0) (ms := 0) (Nat.zero_le _) (Nat.zero_le _) ?_
        refine e_K ?_ F
        rintro r h' ⟨I4, rfl, rfl, F⟩
        refine e_12 (f_139 (pc := 40) (e := (40, 12, 0, 0, 0, 0, 0, 41)) rfl) rfl ?_
        refine e_90r zA (f_139 (pc := 41) (e := (41, 90, 10, 3, 3, 35, 1069, 44)) rfl) rfl (hT 0 rfl) rfl rfl (hR 0 3 rfl) ?_
        refine e_130 (f_139 (pc := 44) (e := (44, 130, 96, 0, 7, 203, 1092, 47)) rfl) zA (as := [yr (some 67)]) (rest := []) rfl rfl rfl rfl (Nat.le_of_ble_eq_true rfl) (Nat.le_of_ble_eq_true rfl) ⟨_, _, _, rfl, (hT 67 rfl)⟩ (mc := 0) (ms := 0) (Nat.zero_le _) (Nat.zero_le _) ?_
        refine e_K ?_ F
        rintro r h' ⟨I5, rfl, rfl, F⟩
        refine e_0 (f_139 (pc := 47) (e := (47, 0, 0, 0, 0, 0, 0, 48)) rfl) (v := 0) rfl ?_
        refine e_20 (f_139 (pc := 48) (e := (48, 20, 3, 0, 0, 0, 0, 49)) rfl) ?_
        refine e_0 (f_139 (pc := 49) (e := (49, 0, 0, 0, 0, 0, 0, 50)) rfl) (v := 0) rfl ?_
        refine e_21 (f_139 (pc := 50) (e := (50, 21, 4, 0, 0, 0, 0, 52)) rfl) ?_
        refine e_lo [0, 1, 2, 3, 4] rfl ?_
        exact F
      · replace F := F.2 c3
        refine e_0 (f_139 (pc := 24) (e := (24, 0, 4294967295, 0, 0, 0, 0, 25)) rfl) (v := (-1)) rfl ?_
        exact e_120 (f_139 (pc := 25) (e := (25, 120, 0, 0, 0, 0, 0, 26)) rfl) F
set_option maxRecDepth 20000 in
theorem B_139_52 (hT : yLT T) (hR : yLR R) {x1 x2 x3 x4 : Int} (F : (x1 ≤ x4 → K (some (yi x3)) (N, T, R, I)) ∧ (¬ (x1 ≤ x4) → yW l zSS D cy zFk z d 103 0 0 (fun r h' => ∃ I2, r = none ∧ h' = (N, T, R, I2) ∧ (yW l zSS D cy zFk z d 63 0 0 (fun r h' => ∃ I3, r = none ∧ h' = (N, T, R, I3) ∧ (yW l zSS D cy zFk z d 90 0 0 (fun r h' => ∃ r5 I4, r = some (yi r5) ∧ h' = (N, T, R, I4) ∧ ((r5 = 0 → yW l zSS D cy zFk z (d + 1) 139 bc bs K 0 0 52 [(0, yr (some 0)), (1, yi x1), (2, yi x2), (3, yi x3), (4, yi (yadd x4 1))] [] (N, T, R, I4)) ∧ (¬ (r5 = 0) → yW l zSS D cy zFk z (d + 1) 139 bc bs K 0 0 52 [(0, yr (some 0)), (1, yi x1), (2, yi x2), (3, yi (yadd x3 1)), (4, yi (yadd x4 1))] [] (N, T, R, I4)))) 0 0 0 [(0, yr (some 67))] [] (N, T, R, I3))) 0 0 0 [(0, yr (some 68)), (1, yi (yadd x2 x4))] [] (N, T, R, I2))) 0 0 0 [(0, yr (some 67)), (1, yr (some 16))] [] (N, T, R, I))) :
    yW l zSS D cy zFk z (d + 1) 139 bc bs K 0 0 52 [(0, yr (some 0)), (1, yi x1), (2, yi x2), (3, yi x3), (4, yi x4)] [] (N, T, R, I) := by
  refine e_11 (f_139 (pc := 52) (e := (52, 11, 4, 0, 0, 0, 0, 54)) rfl) rfl ?_
  refine e_10 (f_139 (pc := 54) (e := (54, 10, 1, 0, 0, 0, 0, 55)) rfl) rfl ?_
  refine e_73 (f_139 (pc := 55) (e := (55, 73, 105, 0, 0, 0, 0, 58)) rfl) (fun c1 => ?_) (fun c1 => ?_)
  · replace F := F.1 c1
    refine e_10 (f_139 (pc := 105) (e := (105, 10, 3, 0, 0, 0, 0, 106)) rfl) rfl ?_
    exact e_120 (f_139 (pc := 106) (e := (106, 120, 0, 0, 0, 0, 0, 0)) rfl) F
  · replace F := F.2 c1
    refine e_12 (f_139 (pc := 58) (e := (58, 12, 0, 0, 0, 0, 0, 59)) rfl) rfl ?_
    refine e_90r zA (f_139 (pc := 59) (e := (59, 90, 10, 3, 3, 35, 1069, 62)) rfl) rfl (hT 0 rfl) rfl rfl (hR 0 3 rfl) ?_
    refine e_12 (f_139 (pc := 62) (e := (62, 12, 0, 0, 0, 0, 0, 63)) rfl) rfl ?_
    refine e_90r zA (f_139 (pc := 63) (e := (63, 90, 10, 1, 3, 19, 1064, 66)) rfl) rfl (hT 0 rfl) rfl rfl (hR 0 1 rfl) ?_
    refine e_90r zA (f_139 (pc := 66) (e := (66, 90, 9, 1, 3, 92, 1084, 69)) rfl) rfl (hT 3 rfl) rfl rfl (hR 3 1 rfl) ?_
    refine e_130 (f_139 (pc := 69) (e := (69, 130, 103, 0, 7, 271, 1091, 72)) rfl) zA (as := [yr (some 67), yr (some 16)]) (rest := []) rfl rfl rfl rfl (Nat.le_of_ble_eq_true rfl) (Nat.le_of_ble_eq_true rfl) ⟨_, _, _, rfl, (hT 67 rfl)⟩ (mc := 0) (ms := 0) (Nat.zero_le _) (Nat.zero_le _) ?_
    refine e_K ?_ F
    rintro r h' ⟨I2, rfl, rfl, F⟩
    refine e_12 (f_139 (pc := 72) (e := (72, 12, 0, 0, 0, 0, 0, 73)) rfl) rfl ?_
    refine e_90r zA (f_139 (pc := 73) (e := (73, 90, 10, 3, 3, 35, 1069, 76)) rfl) rfl (hT 0 rfl) rfl rfl (hR 0 3 rfl) ?_
    refine e_90r zA (f_139 (pc := 76) (e := (76, 90, 7, 2, 3, 206, 1094, 79)) rfl) rfl (hT 67 rfl) rfl rfl (hR 67 2 rfl) ?_
    refine e_10 (f_139 (pc := 79) (e := (79, 10, 2, 0, 0, 0, 0, 80)) rfl) rfl ?_
    refine e_11 (f_139 (pc := 80) (e := (80, 11, 4, 0, 0, 0, 0, 82)) rfl) rfl ?_
    refine e_30 (f_139 (pc := 82) (e := (82, 30, 0, 0, 0, 0, 0, 83)) rfl) ?_
    refine e_130 (f_139 (pc := 83) (e := (83, 130, 63, 0, 5, 289, 1117, 86)) rfl) zA (as := [yr (some 68), yi _]) (rest := []) rfl rfl rfl rfl (Nat.le_of_ble_eq_true rfl) (Nat.le_of_ble_eq_true rfl) ⟨_, _, _, rfl, (hT 68 rfl)⟩ (mc := 0) (ms := 0) (Nat.zero_le _) (Nat.zero_le _) ?_
    refine e_K ?_ F
    rintro r h' ⟨I3, rfl, rfl, F⟩
    refine e_12 (f_139 (pc := 86) (e := (86, 12, 0, 0, 0, 0, 0, 87)) rfl) rfl ?_
    refine e_90r zA (f_139 (pc := 87) (e := (87, 90, 10, 3, 3, 35, 1069, 90)) rfl) rfl (hT 0 rfl) rfl rfl (hR 0 3 rfl) ?_
    refine e_130 (f_139 (pc := 90) (e := (90, 130, 90, 0, 7, 274, 1096, 93)) rfl) zA (as := [yr (some 67)]) (rest := []) rfl rfl rfl rfl (Nat.le_of_ble_eq_true rfl) (Nat.le_of_ble_eq_true rfl) ⟨_, _, _, rfl, (hT 67 rfl)⟩ (mc := 0) (ms := 0) (Nat.zero_le _) (Nat.zero_le _) ?_
    refine e_K ?_ F
    rintro r h' ⟨r5, I4, rfl, rfl, F⟩
    refine e_60 (f_139 (pc := 93) (e := (93, 60, 99, 0, 0, 0, 0, 96)) rfl) (fun c6 => ?_) (fun c6 => ?_)
    · replace F := F.1 c6
      refine e_26 (f_139 (pc := 99) (e := (99, 26, 4, 1, 0, 0, 0, 102)) rfl) (w := 1) rfl rfl ?_
      refine e_80 (f_139 (pc := 102) (e := (102, 80, 52, 0, 0, 0, 0, 105)) rfl) ?_
      refine e_lo [0, 1, 2, 3, 4] rfl ?_
      exact F
    · replace F := F.2 c6
      refine e_26 (f_139 (pc := 96) (e := (96, 26, 3, 1, 0, 0, 0, 99)) rfl) (w := 1) rfl rfl ?_
      refine e_26 (f_139 (pc := 99) (e := (99, 26, 4, 1, 0, 0, 0, 102)) rfl) (w := 1) rfl rfl ?_
      refine e_80 (f_139 (pc := 102) (e := (102, 80, 52, 0, 0, 0, 0, 105)) rfl) ?_
      refine e_lo [0, 1, 2, 3, 4] rfl ?_
      exact F

/-! ChairAlley.on(I)I -/
set_option maxRecDepth 20000 in
theorem B_140_0 (hT : yLT T) (hR : yLR R) {x1 : Int} (F : (x1 < 1 → K (some (yi (-1))) (N, T, R, I)) ∧ (¬ (x1 < 1) → (x1 ≤ 100 → yW l zSS D cy zFk z d 102 0 0 (fun r h' => ∃ I3, r = none ∧ h' = (N, T, R, I3) ∧ (yW l zSS D cy zFk z d 96 0 0 (fun r h' => ∃ I4, r = none ∧ h' = (N, T, R, I4) ∧ (yW l zSS D cy zFk z (d + 1) 140 bc bs K 0 0 36 [(0, yr (some 0)), (1, yi x1), (2, yi 0)] [] (N, T, R, I4))) 0 0 0 [(0, yr (some 67))] [] (N, T, R, I3))) 0 0 0 [(0, yr (some 67)), (1, yr (some 16))] [] (N, T, R, I)) ∧ (¬ (x1 ≤ 100) → K (some (yi (-1))) (N, T, R, I)))) :
    yW l zSS D cy zFk z (d + 1) 140 bc bs K 0 0 0 [(0, yr (some 0)), (1, yi x1)] [] (N, T, R, I) := by
  refine e_10 (f_140 (pc := 0) (e := (0, 10, 1, 0, 0, 0, 0, 1)) rfl) rfl ?_
  refine e_0 (f_140 (pc := 1) (e := (1, 0, 1, 0, 0, 0, 0, 2)) rfl) (v := 1) rfl ?_
  refine e_72 (f_140 (pc := 2) (e := (2, 72, 11, 0, 0, 0, 0, 5)) rfl) (fun c1 => ?_) (fun c1 => ?_)
  · replace F := F.1 c1
    refine e_0 (f_140 (pc := 11) (e := (11, 0, 4294967295, 0, 0, 0, 0, 12)) rfl) (v := (-1)) rfl ?_
    exact e_120 (f_140 (pc := 12) (e := (12, 120, 0, 0, 0, 0, 0, 13)) rfl) F
  · replace F := F.2 c1
    refine e_10 (f_140 (pc := 5) (e := (5, 10, 1, 0, 0, 0, 0, 6)) rfl) rfl ?_
    refine e_1 (f_140 (pc := 6) (e := (6, 1, 100, 0, 0, 0, 0, 8)) rfl) (v := 100) rfl ?_
    refine e_75 (f_140 (pc := 8) (e := (8, 75, 13, 0, 0, 0, 0, 11)) rfl) (fun c2 => ?_) (fun c2 => ?_)
    · replace F := F.1 c2
      refine e_12 (f_140 (pc := 13) (e := (13, 12, 0, 0, 0, 0, 0, 14)) rfl) rfl ?_
      refine e_90r zA (f_140 (pc := 14) (e := (14, 90, 10, 3, 3, 35, 1069, 17)) rfl) rfl (hT 0 rfl) rfl rfl (hR 0 3 rfl) ?_
      refine e_12 (f_140 (pc := 17) (e := (17, 12, 0, 0, 0, 0, 0, 18)) rfl) rfl ?_
      refine e_90r zA (f_140 (pc := 18) (e := (18, 90, 10, 1, 3, 19, 1064, 21)) rfl) rfl (hT 0 rfl) rfl rfl (hR 0 1 rfl) ?_
      refine e_90r zA (f_140 (pc := 21) (e := (21, 90, 9, 1, 3, 92, 1084, 24)) rfl) rfl (hT 3 rfl) rfl rfl (hR 3 1 rfl) ?_
      refine e_130 (f_140 (pc := 24) (e := (24, 130, 102, 0, 7, 193, 1122, 27)) rfl) zA (as := [yr (some 67), yr (some 16)]) (rest := []) rfl rfl rfl rfl (Nat.le_of_ble_eq_true rfl) (Nat.le_of_ble_eq_true rfl) ⟨_, _, _, rfl, (hT 67 rfl)⟩ (mc := 0) (ms := 0) (Nat.zero_le _) (Nat.zero_le _) ?_
      refine e_K ?_ F
      rintro r h' ⟨I3, rfl, rfl, F⟩
      refine e_12 (f_140 (pc := 27) (e := (27, 12, 0, 0, 0, 0, 0, 28)) rfl) rfl ?_
      refine e_90r zA (f_140 (pc := 28) (e := (28, 90, 10, 3, 3, 35, 1069, 31)) rfl) rfl (hT 0 rfl) rfl rfl (hR 0 3 rfl) ?_
      refine e_130 (f_140 (pc := 31) (e := (31, 130, 96, 0, 7, 203, 1092, 34)) rfl) zA (as := [yr (some 67)]) (rest := []) rfl rfl rfl rfl (Nat.le_of_ble_eq_true rfl) (Nat.le_of_ble_eq_true rfl) ⟨_, _, _, rfl, (hT 67 rfl)⟩ (mc := 0) (ms := 0) (Nat.zero_le _) (Nat.zero_le _) ?_
      refine e_K ?_ F
      rintro r h' ⟨I4, rfl, rfl, F⟩
      refine e_0 (f_140 (pc := 34) (e := (34, 0, 0, 0, 0, 0, 0, 35)) rfl) (v := 0) rfl ?_
      refine e_20 (f_140 (pc := 35) (e := (35, 20, 2, 0, 0, 0, 0, 36)) rfl) ?_
      refine e_lo [0, 1, 2] rfl ?_
      exact F
    · replace F := F.2 c2
      refine e_0 (f_140 (pc := 11) (e := (11, 0, 4294967295, 0, 0, 0, 0, 12)) rfl) (v := (-1)) rfl ?_
      exact e_120 (f_140 (pc := 12) (e := (12, 120, 0, 0, 0, 0, 0, 13)) rfl) F
set_option maxRecDepth 20000 in
theorem B_140_36 (hT : yLT T) (hR : yLR R) {x1 x2 : Int} (F : (x1 ≤ x2 → ((ysub (I 68 0) (I 16 0)) ≤ 0 → K (some (yi (ysub (I 68 0) (I 16 0)))) (N, T, R, I)) ∧ (¬ ((ysub (I 68 0) (I 16 0)) ≤ 0) → yW l zSS D cy zFk z d 134 0 0 (fun r h' => ∃ I3, r = none ∧ h' = (N, T, R, I3) ∧ (K (some (yi (ysub (I 68 0) (I 16 0)))) (N, T, R, I3))) 0 0 0 [(0, yr (some 0))] [] (N, T, R, I))) ∧ (¬ (x1 ≤ x2) → (500 ≤ (I 68 0) → ((ysub (I 68 0) (I 16 0)) ≤ 0 → K (some (yi (ysub (I 68 0) (I 16 0)))) (N, T, R, I)) ∧ (¬ ((ysub (I 68 0) (I 16 0)) ≤ 0) → yW l zSS D cy zFk z d 134 0 0 (fun r h' => ∃ I6, r = none ∧ h' = (N, T, R, I6) ∧ (K (some (yi (ysub (I 68 0) (I 16 0)))) (N, T, R, I6))) 0 0 0 [(0, yr (some 0))] [] (N, T, R, I))) ∧ (¬ (500 ≤ (I 68 0)) → yW l zSS D cy zFk z d 88 0 0 (fun r h' => ∃ I7, r = none ∧ h' = (N, T, R, I7) ∧ (yW l zSS D cy zFk z (d + 1) 140 bc bs K 0 0 36 [(0, yr (some 0)), (1, yi x1), (2, yi (yadd x2 1))] [] (N, T, R, I7))) 0 0 0 [(0, yr (some 67))] [] (N, T, R, I)))) :
    yW l zSS D cy zFk z (d + 1) 140 bc bs K 0 0 36 [(0, yr (some 0)), (1, yi x1), (2, yi x2)] [] (N, T, R, I) := by
  refine e_10 (f_140 (pc := 36) (e := (36, 10, 2, 0, 0, 0, 0, 37)) rfl) rfl ?_
  refine e_10 (f_140 (pc := 37) (e := (37, 10, 1, 0, 0, 0, 0, 38)) rfl) rfl ?_
  refine e_73 (f_140 (pc := 38) (e := (38, 73, 70, 0, 0, 0, 0, 41)) rfl) (fun c1 => ?_) (fun c1 => ?_)
  · replace F := F.1 c1
    refine e_12 (f_140 (pc := 70) (e := (70, 12, 0, 0, 0, 0, 0, 71)) rfl) rfl ?_
    refine e_90r zA (f_140 (pc := 71) (e := (71, 90, 10, 3, 3, 35, 1069, 74)) rfl) rfl (hT 0 rfl) rfl rfl (hR 0 3 rfl) ?_
    refine e_90r zA (f_140 (pc := 74) (e := (74, 90, 7, 2, 3, 206, 1094, 77)) rfl) rfl (hT 67 rfl) rfl rfl (hR 67 2 rfl) ?_
    refine e_90 zA (f_140 (pc := 77) (e := (77, 90, 5, 0, 0, 209, 1138, 80)) rfl) rfl (hT 68 rfl) rfl rfl ?_
    refine e_12 (f_140 (pc := 80) (e := (80, 12, 0, 0, 0, 0, 0, 81)) rfl) rfl ?_
    refine e_90r zA (f_140 (pc := 81) (e := (81, 90, 10, 1, 3, 19, 1064, 84)) rfl) rfl (hT 0 rfl) rfl rfl (hR 0 1 rfl) ?_
    refine e_90r zA (f_140 (pc := 84) (e := (84, 90, 9, 1, 3, 92, 1084, 87)) rfl) rfl (hT 3 rfl) rfl rfl (hR 3 1 rfl) ?_
    refine e_90 zA (f_140 (pc := 87) (e := (87, 90, 5, 0, 0, 209, 1138, 90)) rfl) rfl (hT 16 rfl) rfl rfl ?_
    refine e_31 (f_140 (pc := 90) (e := (90, 31, 0, 0, 0, 0, 0, 91)) rfl) ?_
    refine e_20 (f_140 (pc := 91) (e := (91, 20, 2, 0, 0, 0, 0, 92)) rfl) ?_
    refine e_10 (f_140 (pc := 92) (e := (92, 10, 2, 0, 0, 0, 0, 93)) rfl) rfl ?_
    refine e_65 (f_140 (pc := 93) (e := (93, 65, 100, 0, 0, 0, 0, 96)) rfl) (fun c2 => ?_) (fun c2 => ?_)
    · replace F := F.1 c2
      refine e_10 (f_140 (pc := 100) (e := (100, 10, 2, 0, 0, 0, 0, 101)) rfl) rfl ?_
      exact e_120 (f_140 (pc := 101) (e := (101, 120, 0, 0, 0, 0, 0, 0)) rfl) F
    · replace F := F.2 c2
      refine e_12 (f_140 (pc := 96) (e := (96, 12, 0, 0, 0, 0, 0, 97)) rfl) rfl ?_
      refine e_130 (f_140 (pc := 97) (e := (97, 130, 134, 0, 10, 215, 1125, 100)) rfl) zA (as := [yr (some 0)]) (rest := []) rfl rfl rfl rfl (Nat.le_of_ble_eq_true rfl) (Nat.le_of_ble_eq_true rfl) ⟨_, _, _, rfl, (hT 0 rfl)⟩ (mc := 0) (ms := 0) (Nat.zero_le _) (Nat.zero_le _) ?_
      refine e_K ?_ F
      rintro r h' ⟨I3, rfl, rfl, F⟩
      refine e_10 (f_140 (pc := 100) (e := (100, 10, 2, 0, 0, 0, 0, 101)) rfl) rfl ?_
      exact e_120 (f_140 (pc := 101) (e := (101, 120, 0, 0, 0, 0, 0, 0)) rfl) F
  · replace F := F.2 c1
    refine e_12 (f_140 (pc := 41) (e := (41, 12, 0, 0, 0, 0, 0, 42)) rfl) rfl ?_
    refine e_90r zA (f_140 (pc := 42) (e := (42, 90, 10, 3, 3, 35, 1069, 45)) rfl) rfl (hT 0 rfl) rfl rfl (hR 0 3 rfl) ?_
    refine e_90r zA (f_140 (pc := 45) (e := (45, 90, 7, 2, 3, 206, 1094, 48)) rfl) rfl (hT 67 rfl) rfl rfl (hR 67 2 rfl) ?_
    refine e_90 zA (f_140 (pc := 48) (e := (48, 90, 5, 0, 0, 209, 1138, 51)) rfl) rfl (hT 68 rfl) rfl rfl ?_
    refine e_2 (f_140 (pc := 51) (e := (51, 2, 500, 0, 0, 0, 0, 54)) rfl) (v := 500) rfl ?_
    refine e_73 (f_140 (pc := 54) (e := (54, 73, 70, 0, 0, 0, 0, 57)) rfl) (fun c4 => ?_) (fun c4 => ?_)
    · replace F := F.1 c4
      refine e_12 (f_140 (pc := 70) (e := (70, 12, 0, 0, 0, 0, 0, 71)) rfl) rfl ?_
      refine e_90r zA (f_140 (pc := 71) (e := (71, 90, 10, 3, 3, 35, 1069, 74)) rfl) rfl (hT 0 rfl) rfl rfl (hR 0 3 rfl) ?_
      refine e_90r zA (f_140 (pc := 74) (e := (74, 90, 7, 2, 3, 206, 1094, 77)) rfl) rfl (hT 67 rfl) rfl rfl (hR 67 2 rfl) ?_
      refine e_90 zA (f_140 (pc := 77) (e := (77, 90, 5, 0, 0, 209, 1138, 80)) rfl) rfl (hT 68 rfl) rfl rfl ?_
      refine e_12 (f_140 (pc := 80) (e := (80, 12, 0, 0, 0, 0, 0, 81)) rfl) rfl ?_
      refine e_90r zA (f_140 (pc := 81) (e := (81, 90, 10, 1, 3, 19, 1064, 84)) rfl) rfl (hT 0 rfl) rfl rfl (hR 0 1 rfl) ?_
      refine e_90r zA (f_140 (pc := 84) (e := (84, 90, 9, 1, 3, 92, 1084, 87)) rfl) rfl (hT 3 rfl) rfl rfl (hR 3 1 rfl) ?_
      refine e_90 zA (f_140 (pc := 87) (e := (87, 90, 5, 0, 0, 209, 1138, 90)) rfl) rfl (hT 16 rfl) rfl rfl ?_
      refine e_31 (f_140 (pc := 90) (e := (90, 31, 0, 0, 0, 0, 0, 91)) rfl) ?_
      refine e_20 (f_140 (pc := 91) (e := (91, 20, 2, 0, 0, 0, 0, 92)) rfl) ?_
      refine e_10 (f_140 (pc := 92) (e := (92, 10, 2, 0, 0, 0, 0, 93)) rfl) rfl ?_
      refine e_65 (f_140 (pc := 93) (e := (93, 65, 100, 0, 0, 0, 0, 96)) rfl) (fun c5 => ?_) (fun c5 => ?_)
      · replace F := F.1 c5
        refine e_10 (f_140 (pc := 100) (e := (100, 10, 2, 0, 0, 0, 0, 101)) rfl) rfl ?_
        exact e_120 (f_140 (pc := 101) (e := (101, 120, 0, 0, 0, 0, 0, 0)) rfl) F
      · replace F := F.2 c5
        refine e_12 (f_140 (pc := 96) (e := (96, 12, 0, 0, 0, 0, 0, 97)) rfl) rfl ?_
        refine e_130 (f_140 (pc := 97) (e := (97, 130, 134, 0, 10, 215, 1125, 100)) rfl) zA (as := [yr (some 0)]) (rest := []) rfl rfl rfl rfl (Nat.le_of_ble_eq_true rfl) (Nat.le_of_ble_eq_true rfl) ⟨_, _, _, rfl, (hT 0 rfl)⟩ (mc := 0) (ms := 0) (Nat.zero_le _) (Nat.zero_le _) ?_
        refine e_K ?_ F
        rintro r h' ⟨I6, rfl, rfl, F⟩
        refine e_10 (f_140 (pc := 100) (e := (100, 10, 2, 0, 0, 0, 0, 101)) rfl) rfl ?_
        exact e_120 (f_140 (pc := 101) (e := (101, 120, 0, 0, 0, 0, 0, 0)) rfl) F
    · replace F := F.2 c4
      refine e_12 (f_140 (pc := 57) (e := (57, 12, 0, 0, 0, 0, 0, 58)) rfl) rfl ?_
      refine e_90r zA (f_140 (pc := 58) (e := (58, 90, 10, 3, 3, 35, 1069, 61)) rfl) rfl (hT 0 rfl) rfl rfl (hR 0 3 rfl) ?_
      refine e_130 (f_140 (pc := 61) (e := (61, 130, 88, 0, 7, 212, 1141, 64)) rfl) zA (as := [yr (some 67)]) (rest := []) rfl rfl rfl rfl (Nat.le_of_ble_eq_true rfl) (Nat.le_of_ble_eq_true rfl) ⟨_, _, _, rfl, (hT 67 rfl)⟩ (mc := 0) (ms := 0) (Nat.zero_le _) (Nat.zero_le _) ?_
      refine e_K ?_ F
      rintro r h' ⟨I7, rfl, rfl, F⟩
      refine e_26 (f_140 (pc := 64) (e := (64, 26, 2, 1, 0, 0, 0, 67)) rfl) (w := 1) rfl rfl ?_
      refine e_80 (f_140 (pc := 67) (e := (67, 80, 36, 0, 0, 0, 0, 70)) rfl) ?_
      refine e_lo [0, 1, 2] rfl ?_
      exact F

/-! ChairAlley.oneWay()I -/
set_option maxRecDepth 20000 in
theorem B_141_0 (hT : yLT T) (hR : yLR R) (F : yW l zSS D cy zFk z d 125 0 0 (fun r h' => ∃ r2 I1, r = some (yi r2) ∧ h' = (N, T, R, I1) ∧ ((r2 = 0 → yW l zSS D cy zFk z d 102 0 0 (fun r h' => ∃ I4, r = none ∧ h' = (N, T, R, I4) ∧ (yW l zSS D cy zFk z d 96 0 0 (fun r h' => ∃ I5, r = none ∧ h' = (N, T, R, I5) ∧ (yW l zSS D cy zFk z d 89 0 0 (fun r h' => ∃ I6, r = none ∧ h' = (N, T, R, I6) ∧ (yW l zSS D cy zFk z d 93 0 0 (fun r h' => ∃ r8 I7, r = some (yi r8) ∧ h' = (N, T, R, I7) ∧ (yW l zSS D cy zFk z d 105 0 0 (fun r h' => ∃ r10 I9, r = some (yi r10) ∧ h' = (N, T, R, I9) ∧ (yW l zSS D cy zFk z (d + 1) 141 bc bs K 0 0 61 [(0, yr (some 0)), (1, yi r8), (2, yi r10), (3, yi (-1)), (4, yi 0)] [] (N, T, R, I9))) 0 0 0 [(0, yr (some 67))] [] (N, T, R, I7))) 0 0 0 [(0, yr (some 67))] [] (N, T, R, I6))) 0 0 0 [(0, yr (some 67)), (1, yi 500)] [] (N, T, R, I5))) 0 0 0 [(0, yr (some 67))] [] (N, T, R, I4))) 0 0 0 [(0, yr (some 67)), (1, yr (some 16))] [] (N, T, R, I1)) ∧ (¬ (r2 = 0) → K (some (yi (-1))) (N, T, R, I1)))) 0 0 0 [(0, yr (some 0))] [] (N, T, R, I)) :
    yW l zSS D cy zFk z (d + 1) 141 bc bs K 0 0 0 [(0, yr (some 0))] [] (N, T, R, I) := by
  refine e_12 (f_141 (pc := 0) (e := (0, 12, 0, 0, 0, 0, 0, 1)) rfl) rfl ?_
  refine e_130 (f_141 (pc := 1) (e := (1, 130, 125, 0, 10, 254, 1126, 4)) rfl) zA (as := [yr (some 0)]) (rest := []) rfl rfl rfl rfl (Nat.le_of_ble_eq_true rfl) (Nat.le_of_ble_eq_true rfl) ⟨_, _, _, rfl, (hT 0 rfl)⟩ (mc := 0) (ms := 0) (Nat.zero_le _) (Nat.zero_le _) ?_
  refine e_K ?_ F
  rintro r h' ⟨r2, I1, rfl, rfl, F⟩
  refine e_60 (f_141 (pc := 4) (e := (4, 60, 9, 0, 0, 0, 0, 7)) rfl) (fun c3 => ?_) (fun c3 => ?_)
  · replace F := F.1 c3
    refine e_12 (f_141 (pc := 9) (e := (9, 12, 0, 0, 0, 0, 0, 10)) rfl) rfl ?_
    refine e_90r zA (f_141 (pc := 10) (e := (10, 90, 10, 3, 3, 35, 1069, 13)) rfl) rfl (hT 0 rfl) rfl rfl (hR 0 3 rfl) ?_
    refine e_12 (f_141 (pc := 13) (e := (13, 12, 0, 0, 0, 0, 0, 14)) rfl) rfl ?_
    refine e_90r zA (f_141 (pc := 14) (e := (14, 90, 10, 1, 3, 19, 1064, 17)) rfl) rfl (hT 0 rfl) rfl rfl (hR 0 1 rfl) ?_
    refine e_90r zA (f_141 (pc := 17) (e := (17, 90, 9, 1, 3, 92, 1084, 20)) rfl) rfl (hT 3 rfl) rfl rfl (hR 3 1 rfl) ?_
    refine e_130 (f_141 (pc := 20) (e := (20, 130, 102, 0, 7, 193, 1122, 23)) rfl) zA (as := [yr (some 67), yr (some 16)]) (rest := []) rfl rfl rfl rfl (Nat.le_of_ble_eq_true rfl) (Nat.le_of_ble_eq_true rfl) ⟨_, _, _, rfl, (hT 67 rfl)⟩ (mc := 0) (ms := 0) (Nat.zero_le _) (Nat.zero_le _) ?_
    refine e_K ?_ F
    rintro r h' ⟨I4, rfl, rfl, F⟩
    refine e_12 (f_141 (pc := 23) (e := (23, 12, 0, 0, 0, 0, 0, 24)) rfl) rfl ?_
    refine e_90r zA (f_141 (pc := 24) (e := (24, 90, 10, 3, 3, 35, 1069, 27)) rfl) rfl (hT 0 rfl) rfl rfl (hR 0 3 rfl) ?_
    refine e_130 (f_141 (pc := 27) (e := (27, 130, 96, 0, 7, 203, 1092, 30)) rfl) zA (as := [yr (some 67)]) (rest := []) rfl rfl rfl rfl (Nat.le_of_ble_eq_true rfl) (Nat.le_of_ble_eq_true rfl) ⟨_, _, _, rfl, (hT 67 rfl)⟩ (mc := 0) (ms := 0) (Nat.zero_le _) (Nat.zero_le _) ?_
    refine e_K ?_ F
    rintro r h' ⟨I5, rfl, rfl, F⟩
    refine e_12 (f_141 (pc := 30) (e := (30, 12, 0, 0, 0, 0, 0, 31)) rfl) rfl ?_
    refine e_90r zA (f_141 (pc := 31) (e := (31, 90, 10, 3, 3, 35, 1069, 34)) rfl) rfl (hT 0 rfl) rfl rfl (hR 0 3 rfl) ?_
    refine e_2 (f_141 (pc := 34) (e := (34, 2, 500, 0, 0, 0, 0, 37)) rfl) (v := 500) rfl ?_
    refine e_130 (f_141 (pc := 37) (e := (37, 130, 89, 0, 7, 258, 1127, 40)) rfl) zA (as := [yr (some 67), yi 500]) (rest := []) rfl rfl rfl rfl (Nat.le_of_ble_eq_true rfl) (Nat.le_of_ble_eq_true rfl) ⟨_, _, _, rfl, (hT 67 rfl)⟩ (mc := 0) (ms := 0) (Nat.zero_le _) (Nat.zero_le _) ?_
    refine e_K ?_ F
    rintro r h' ⟨I6, rfl, rfl, F⟩
    refine e_12 (f_141 (pc := 40) (e := (40, 12, 0, 0, 0, 0, 0, 41)) rfl) rfl ?_
    refine e_90r zA (f_141 (pc := 41) (e := (41, 90, 10, 3, 3, 35, 1069, 44)) rfl) rfl (hT 0 rfl) rfl rfl (hR 0 3 rfl) ?_
    refine e_130 (f_141 (pc := 44) (e := (44, 130, 93, 0, 7, 261, 1128, 47)) rfl) zA (as := [yr (some 67)]) (rest := []) rfl rfl rfl rfl (Nat.le_of_ble_eq_true rfl) (Nat.le_of_ble_eq_true rfl) ⟨_, _, _, rfl, (hT 67 rfl)⟩ (mc := 0) (ms := 0) (Nat.zero_le _) (Nat.zero_le _) ?_
    refine e_K ?_ F
    rintro r h' ⟨r8, I7, rfl, rfl, F⟩
    refine e_20 (f_141 (pc := 47) (e := (47, 20, 1, 0, 0, 0, 0, 48)) rfl) ?_
    refine e_12 (f_141 (pc := 48) (e := (48, 12, 0, 0, 0, 0, 0, 49)) rfl) rfl ?_
    refine e_90r zA (f_141 (pc := 49) (e := (49, 90, 10, 3, 3, 35, 1069, 52)) rfl) rfl (hT 0 rfl) rfl rfl (hR 0 3 rfl) ?_
    refine e_130 (f_141 (pc := 52) (e := (52, 130, 105, 0, 7, 265, 1142, 55)) rfl) zA (as := [yr (some 67)]) (rest := []) rfl rfl rfl rfl (Nat.le_of_ble_eq_true rfl) (Nat.le_of_ble_eq_true rfl) ⟨_, _, _, rfl, (hT 67 rfl)⟩ (mc := 0) (ms := 0) (Nat.zero_le _) (Nat.zero_le _) ?_
    refine e_K ?_ F
    rintro r h' ⟨r10, I9, rfl, rfl, F⟩
    refine e_20 (f_141 (pc := 55) (e := (55, 20, 2, 0, 0, 0, 0, 56)) rfl) ?_
    refine e_0 (f_141 (pc := 56) (e := (56, 0, 4294967295, 0, 0, 0, 0, 57)) rfl) (v := (-1)) rfl ?_
    refine e_20 (f_141 (pc := 57) (e := (57, 20, 3, 0, 0, 0, 0, 58)) rfl) ?_
    refine e_0 (f_141 (pc := 58) (e := (58, 0, 0, 0, 0, 0, 0, 59)) rfl) (v := 0) rfl ?_
    refine e_21 (f_141 (pc := 59) (e := (59, 21, 4, 0, 0, 0, 0, 61)) rfl) ?_
    refine e_lo [0, 1, 2, 3, 4] rfl ?_
    exact F
  · replace F := F.2 c3
    refine e_0 (f_141 (pc := 7) (e := (7, 0, 4294967295, 0, 0, 0, 0, 8)) rfl) (v := (-1)) rfl ?_
    exact e_120 (f_141 (pc := 8) (e := (8, 120, 0, 0, 0, 0, 0, 9)) rfl) F
set_option maxRecDepth 20000 in
theorem B_141_61 (hT : yLT T) (hR : yLR R) {x1 x2 x3 x4 : Int} (F : (100 ≤ x4 → K (some (yi x3)) (N, T, R, I)) ∧ (¬ (100 ≤ x4) → yW l zSS D cy zFk z d 141 bc bs K 0 0 71 [(0, yr (some 0)), (1, yi x1), (2, yi x2), (3, yi x3), (4, yi x4), (5, yi 0)] [] (N, T, R, I))) :
    yW l zSS D cy zFk z d 141 bc bs K 0 0 61 [(0, yr (some 0)), (1, yi x1), (2, yi x2), (3, yi x3), (4, yi x4)] [] (N, T, R, I) := by
  refine e_11 (f_141 (pc := 61) (e := (61, 11, 4, 0, 0, 0, 0, 63)) rfl) rfl ?_
  refine e_1 (f_141 (pc := 63) (e := (63, 1, 100, 0, 0, 0, 0, 65)) rfl) (v := 100) rfl ?_
  refine e_73 (f_141 (pc := 65) (e := (65, 73, 195, 0, 0, 0, 0, 68)) rfl) (fun c1 => ?_) (fun c1 => ?_)
  · replace F := F.1 c1
    refine e_10 (f_141 (pc := 195) (e := (195, 10, 3, 0, 0, 0, 0, 196)) rfl) rfl ?_
    exact e_120 (f_141 (pc := 196) (e := (196, 120, 0, 0, 0, 0, 0, 0)) rfl) F
  · replace F := F.2 c1
    refine e_0 (f_141 (pc := 68) (e := (68, 0, 0, 0, 0, 0, 0, 69)) rfl) (v := 0) rfl ?_
    refine e_21 (f_141 (pc := 69) (e := (69, 21, 5, 0, 0, 0, 0, 71)) rfl) ?_
    refine e_lo [0, 1, 2, 3, 4, 5] rfl ?_
    exact F
set_option maxRecDepth 20000 in
theorem B_141_71 (hT : yLT T) (hR : yLR R) {x1 x2 x3 x4 x5 : Int} (F : (4 ≤ x5 → yW l zSS D cy zFk z (d + 1) 141 bc bs K 0 0 61 [(0, yr (some 0)), (1, yi x1), (2, yi x2), (3, yi x3), (4, yi (yadd x4 1))] [] (N, T, R, I)) ∧ (¬ (4 ≤ x5) → yW l zSS D cy zFk z d 135 0 0 (fun r h' => ∃ r3 I2, r = some (yi r3) ∧ h' = (N, T, R, I2) ∧ ((r3 = 0 → yW l zSS D cy zFk z (d + 1) 141 bc bs K 0 0 61 [(0, yr (some 0)), (1, yi x1), (2, yi x2), (3, yi x3), (4, yi (yadd x4 1))] [] (N, T, R, I2)) ∧ (¬ (r3 = 0) → yW l zSS D cy zFk z d 102 0 0 (fun r h' => ∃ I5, r = none ∧ h' = (N, T, R, I5) ∧ (0 ≤ x4 ∧ x4 < 100 ∧ (∀ I8, I8 = yU I5 69 x4.toNat (ynar 1 x5) → (yW l zSS D cy zFk z d 96 0 0 (fun r h' => ∃ I9, r = none ∧ h' = (N, T, R, I9) ∧ (yW l zSS D cy zFk z d 89 0 0 (fun r h' => ∃ I10, r = none ∧ h' = (N, T, R, I10) ∧ (yW l zSS D cy zFk z d 93 0 0 (fun r h' => ∃ r12 I11, r = some (yi r12) ∧ h' = (N, T, R, I11) ∧ (yW l zSS D cy zFk z d 105 0 0 (fun r h' => ∃ r14 I13, r = some (yi r14) ∧ h' = (N, T, R, I13) ∧ ((r12 < x1 → yW l zSS D cy zFk z (d + 1) 141 bc bs K 0 0 71 [(0, yr (some 0)), (1, yi r12), (2, yi r14), (3, yi (yadd (ymul 10 x4) x5)), (4, yi x4), (5, yi (yadd x5 1))] [] (N, T, R, I13)) ∧ (¬ (r12 < x1) → (r12 ≠ x1 → yW l zSS D cy zFk z (d + 1) 141 bc bs K 0 0 71 [(0, yr (some 0)), (1, yi x1), (2, yi x2), (3, yi x3), (4, yi x4), (5, yi (yadd x5 1))] [] (N, T, R, I13)) ∧ (¬ (r12 ≠ x1) → (x2 ≤ r14 → yW l zSS D cy zFk z (d + 1) 141 bc bs K 0 0 71 [(0, yr (some 0)), (1, yi x1), (2, yi x2), (3, yi x3), (4, yi x4), (5, yi (yadd x5 1))] [] (N, T, R, I13)) ∧ (¬ (x2 ≤ r14) → yW l zSS D cy zFk z (d + 1) 141 bc bs K 0 0 71 [(0, yr (some 0)), (1, yi r12), (2, yi r14), (3, yi (yadd (ymul 10 x4) x5)), (4, yi x4), (5, yi (yadd x5 1))] [] (N, T, R, I13)))))) 0 0 0 [(0, yr (some 67))] [] (N, T, R, I11))) 0 0 0 [(0, yr (some 67))] [] (N, T, R, I10))) 0 0 0 [(0, yr (some 67)), (1, yi (yadd x1 1))] [] (N, T, R, I9))) 0 0 0 [(0, yr (some 67))] [] (N, T, R, I8))))) 0 0 0 [(0, yr (some 67)), (1, yr (some 16))] [] (N, T, R, I2)))) 0 0 0 [(0, yr (some 0)), (1, yi x4)] [] (N, T, R, I))) :
    yW l zSS D cy zFk z (d + 1) 141 bc bs K 0 0 71 [(0, yr (some 0)), (1, yi x1), (2, yi x2), (3, yi x3), (4, yi x4), (5, yi x5)] [] (N, T, R, I) := by
  refine e_11 (f_141 (pc := 71) (e := (71, 11, 5, 0, 0, 0, 0, 73)) rfl) rfl ?_
  refine e_0 (f_141 (pc := 73) (e := (73, 0, 4, 0, 0, 0, 0, 74)) rfl) (v := 4) rfl ?_
  refine e_73 (f_141 (pc := 74) (e := (74, 73, 189, 0, 0, 0, 0, 77)) rfl) (fun c1 => ?_) (fun c1 => ?_)
  · replace F := F.1 c1
    refine e_26 (f_141 (pc := 189) (e := (189, 26, 4, 1, 0, 0, 0, 192)) rfl) (w := 1) rfl rfl ?_
    refine e_80 (f_141 (pc := 192) (e := (192, 80, 61, 0, 0, 0, 0, 195)) rfl) ?_
    refine e_lo [0, 1, 2, 3, 4] rfl ?_
    exact F
  · replace F := F.2 c1
    refine e_12 (f_141 (pc := 77) (e := (77, 12, 0, 0, 0, 0, 0, 78)) rfl) rfl ?_
    refine e_11 (f_141 (pc := 78) (e := (78, 11, 4, 0, 0, 0, 0, 80)) rfl) rfl ?_
    refine e_130 (f_141 (pc := 80) (e := (80, 130, 135, 0, 10, 268, 1143, 83)) rfl) zA (as := [yr (some 0), yi x4]) (rest := []) rfl rfl rfl rfl (Nat.le_of_ble_eq_true rfl) (Nat.le_of_ble_eq_true rfl) ⟨_, _, _, rfl, (hT 0 rfl)⟩ (mc := 0) (ms := 0) (Nat.zero_le _) (Nat.zero_le _) ?_
    refine e_K ?_ F
    rintro r h' ⟨r3, I2, rfl, rfl, F⟩
    refine e_60 (f_141 (pc := 83) (e := (83, 60, 189, 0, 0, 0, 0, 86)) rfl) (fun c4 => ?_) (fun c4 => ?_)
    · replace F := F.1 c4
      refine e_26 (f_141 (pc := 189) (e := (189, 26, 4, 1, 0, 0, 0, 192)) rfl) (w := 1) rfl rfl ?_
      refine e_80 (f_141 (pc := 192) (e := (192, 80, 61, 0, 0, 0, 0, 195)) rfl) ?_
      refine e_lo [0, 1, 2, 3, 4] rfl ?_
      exact F
    · replace F := F.2 c4
      refine e_12 (f_141 (pc := 86) (e := (86, 12, 0, 0, 0, 0, 0, 87)) rfl) rfl ?_
      refine e_90r zA (f_141 (pc := 87) (e := (87, 90, 10, 3, 3, 35, 1069, 90)) rfl) rfl (hT 0 rfl) rfl rfl (hR 0 3 rfl) ?_
      refine e_12 (f_141 (pc := 90) (e := (90, 12, 0, 0, 0, 0, 0, 91)) rfl) rfl ?_
      refine e_90r zA (f_141 (pc := 91) (e := (91, 90, 10, 1, 3, 19, 1064, 94)) rfl) rfl (hT 0 rfl) rfl rfl (hR 0 1 rfl) ?_
      refine e_90r zA (f_141 (pc := 94) (e := (94, 90, 9, 1, 3, 92, 1084, 97)) rfl) rfl (hT 3 rfl) rfl rfl (hR 3 1 rfl) ?_
      refine e_130 (f_141 (pc := 97) (e := (97, 130, 102, 0, 7, 193, 1122, 100)) rfl) zA (as := [yr (some 67), yr (some 16)]) (rest := []) rfl rfl rfl rfl (Nat.le_of_ble_eq_true rfl) (Nat.le_of_ble_eq_true rfl) ⟨_, _, _, rfl, (hT 67 rfl)⟩ (mc := 0) (ms := 0) (Nat.zero_le _) (Nat.zero_le _) ?_
      refine e_K ?_ F
      rintro r h' ⟨I5, rfl, rfl, F⟩
      refine e_12 (f_141 (pc := 100) (e := (100, 12, 0, 0, 0, 0, 0, 101)) rfl) rfl ?_
      refine e_90r zA (f_141 (pc := 101) (e := (101, 90, 10, 3, 3, 35, 1069, 104)) rfl) rfl (hT 0 rfl) rfl rfl (hR 0 3 rfl) ?_
      refine e_90r zA (f_141 (pc := 104) (e := (104, 90, 7, 2, 3, 206, 1094, 107)) rfl) rfl (hT 67 rfl) rfl rfl (hR 67 2 rfl) ?_
      refine e_90r zA (f_141 (pc := 107) (e := (107, 90, 5, 1, 3, 166, 1099, 110)) rfl) rfl (hT 68 rfl) rfl rfl (hR 68 1 rfl) ?_
      refine e_11 (f_141 (pc := 110) (e := (110, 11, 4, 0, 0, 0, 0, 112)) rfl) rfl ?_
      refine e_11 (f_141 (pc := 112) (e := (112, 11, 5, 0, 0, 0, 0, 114)) rfl) rfl ?_
      obtain ⟨b6, b7, F⟩ := F
      refine e_111 (f_141 (pc := 114) (e := (114, 111, 0, 0, 0, 0, 0, 115)) rfl) rfl (hT 69 rfl) b6 b7 ?_
      replace F := F _ rfl
      refine e_12 (f_141 (pc := 115) (e := (115, 12, 0, 0, 0, 0, 0, 116)) rfl) rfl ?_
      refine e_90r zA (f_141 (pc := 116) (e := (116, 90, 10, 3, 3, 35, 1069, 119)) rfl) rfl (hT 0 rfl) rfl rfl (hR 0 3 rfl) ?_
      refine e_130 (f_141 (pc := 119) (e := (119, 130, 96, 0, 7, 203, 1092, 122)) rfl) zA (as := [yr (some 67)]) (rest := []) rfl rfl rfl rfl (Nat.le_of_ble_eq_true rfl) (Nat.le_of_ble_eq_true rfl) ⟨_, _, _, rfl, (hT 67 rfl)⟩ (mc := 0) (ms := 0) (Nat.zero_le _) (Nat.zero_le _) ?_
      refine e_K ?_ F
      rintro r h' ⟨I9, rfl, rfl, F⟩
      refine e_12 (f_141 (pc := 122) (e := (122, 12, 0, 0, 0, 0, 0, 123)) rfl) rfl ?_
      refine e_90r zA (f_141 (pc := 123) (e := (123, 90, 10, 3, 3, 35, 1069, 126)) rfl) rfl (hT 0 rfl) rfl rfl (hR 0 3 rfl) ?_
      refine e_10 (f_141 (pc := 126) (e := (126, 10, 1, 0, 0, 0, 0, 127)) rfl) rfl ?_
      refine e_0 (f_141 (pc := 127) (e := (127, 0, 1, 0, 0, 0, 0, 128)) rfl) (v := 1) rfl ?_
      refine e_30 (f_141 (pc := 128) (e := (128, 30, 0, 0, 0, 0, 0, 129)) rfl) ?_
      refine e_130 (f_141 (pc := 129) (e := (129, 130, 89, 0, 7, 258, 1127, 132)) rfl) zA (as := [yr (some 67), yi _]) (rest := []) rfl rfl rfl rfl (Nat.le_of_ble_eq_true rfl) (Nat.le_of_ble_eq_true rfl) ⟨_, _, _, rfl, (hT 67 rfl)⟩ (mc := 0) (ms := 0) (Nat.zero_le _) (Nat.zero_le _) ?_
      refine e_K ?_ F
      rintro r h' ⟨I10, rfl, rfl, F⟩
      refine e_12 (f_141 (pc := 132) (e := (132, 12, 0, 0, 0, 0, 0, 133)) rfl) rfl ?_
      refine e_90r zA (f_141 (pc := 133) (e := (133, 90, 10, 3, 3, 35, 1069, 136)) rfl) rfl (hT 0 rfl) rfl rfl (hR 0 3 rfl) ?_
      refine e_130 (f_141 (pc := 136) (e := (136, 130, 93, 0, 7, 261, 1128, 139)) rfl) zA (as := [yr (some 67)]) (rest := []) rfl rfl rfl rfl (Nat.le_of_ble_eq_true rfl) (Nat.le_of_ble_eq_true rfl) ⟨_, _, _, rfl, (hT 67 rfl)⟩ (mc := 0) (ms := 0) (Nat.zero_le _) (Nat.zero_le _) ?_
      refine e_K ?_ F
      rintro r h' ⟨r12, I11, rfl, rfl, F⟩
      refine e_21 (f_141 (pc := 139) (e := (139, 21, 6, 0, 0, 0, 0, 141)) rfl) ?_
      refine e_12 (f_141 (pc := 141) (e := (141, 12, 0, 0, 0, 0, 0, 142)) rfl) rfl ?_
      refine e_90r zA (f_141 (pc := 142) (e := (142, 90, 10, 3, 3, 35, 1069, 145)) rfl) rfl (hT 0 rfl) rfl rfl (hR 0 3 rfl) ?_
      refine e_130 (f_141 (pc := 145) (e := (145, 130, 105, 0, 7, 265, 1142, 148)) rfl) zA (as := [yr (some 67)]) (rest := []) rfl rfl rfl rfl (Nat.le_of_ble_eq_true rfl) (Nat.le_of_ble_eq_true rfl) ⟨_, _, _, rfl, (hT 67 rfl)⟩ (mc := 0) (ms := 0) (Nat.zero_le _) (Nat.zero_le _) ?_
      refine e_K ?_ F
      rintro r h' ⟨r14, I13, rfl, rfl, F⟩
      refine e_21 (f_141 (pc := 148) (e := (148, 21, 7, 0, 0, 0, 0, 150)) rfl) ?_
      refine e_11 (f_141 (pc := 150) (e := (150, 11, 6, 0, 0, 0, 0, 152)) rfl) rfl ?_
      refine e_10 (f_141 (pc := 152) (e := (152, 10, 1, 0, 0, 0, 0, 153)) rfl) rfl ?_
      refine e_72 (f_141 (pc := 153) (e := (153, 72, 168, 0, 0, 0, 0, 156)) rfl) (fun c15 => ?_) (fun c15 => ?_)
      · replace F := F.1 c15
        refine e_11 (f_141 (pc := 168) (e := (168, 11, 6, 0, 0, 0, 0, 170)) rfl) rfl ?_
        refine e_20 (f_141 (pc := 170) (e := (170, 20, 1, 0, 0, 0, 0, 171)) rfl) ?_
        refine e_11 (f_141 (pc := 171) (e := (171, 11, 7, 0, 0, 0, 0, 173)) rfl) rfl ?_
        refine e_20 (f_141 (pc := 173) (e := (173, 20, 2, 0, 0, 0, 0, 174)) rfl) ?_
        refine e_1 (f_141 (pc := 174) (e := (174, 1, 10, 0, 0, 0, 0, 176)) rfl) (v := 10) rfl ?_
        refine e_11 (f_141 (pc := 176) (e := (176, 11, 4, 0, 0, 0, 0, 178)) rfl) rfl ?_
        refine e_32 (f_141 (pc := 178) (e := (178, 32, 0, 0, 0, 0, 0, 179)) rfl) ?_
        refine e_11 (f_141 (pc := 179) (e := (179, 11, 5, 0, 0, 0, 0, 181)) rfl) rfl ?_
        refine e_30 (f_141 (pc := 181) (e := (181, 30, 0, 0, 0, 0, 0, 182)) rfl) ?_
        refine e_20 (f_141 (pc := 182) (e := (182, 20, 3, 0, 0, 0, 0, 183)) rfl) ?_
        refine e_26 (f_141 (pc := 183) (e := (183, 26, 5, 1, 0, 0, 0, 186)) rfl) (w := 1) rfl rfl ?_
        refine e_80 (f_141 (pc := 186) (e := (186, 80, 71, 0, 0, 0, 0, 189)) rfl) ?_
        refine e_lo [0, 1, 2, 3, 4, 5] rfl ?_
        exact F
      · replace F := F.2 c15
        refine e_11 (f_141 (pc := 156) (e := (156, 11, 6, 0, 0, 0, 0, 158)) rfl) rfl ?_
        refine e_10 (f_141 (pc := 158) (e := (158, 10, 1, 0, 0, 0, 0, 159)) rfl) rfl ?_
        refine e_71 (f_141 (pc := 159) (e := (159, 71, 183, 0, 0, 0, 0, 162)) rfl) (fun c16 => ?_) (fun c16 => ?_)
        · replace F := F.1 c16
          refine e_26 (f_141 (pc := 183) (e := (183, 26, 5, 1, 0, 0, 0, 186)) rfl) (w := 1) rfl rfl ?_
          refine e_80 (f_141 (pc := 186) (e := (186, 80, 71, 0, 0, 0, 0, 189)) rfl) ?_
          refine e_lo [0, 1, 2, 3, 4, 5] rfl ?_
          exact F
        · replace F := F.2 c16
          refine e_11 (f_141 (pc := 162) (e := (162, 11, 7, 0, 0, 0, 0, 164)) rfl) rfl ?_
          refine e_10 (f_141 (pc := 164) (e := (164, 10, 2, 0, 0, 0, 0, 165)) rfl) rfl ?_
          refine e_73 (f_141 (pc := 165) (e := (165, 73, 183, 0, 0, 0, 0, 168)) rfl) (fun c17 => ?_) (fun c17 => ?_)
          · replace F := F.1 c17
            refine e_26 (f_141 (pc := 183) (e := (183, 26, 5, 1, 0, 0, 0, 186)) rfl) (w := 1) rfl rfl ?_
            refine e_80 (f_141 (pc := 186) (e := (186, 80, 71, 0, 0, 0, 0, 189)) rfl) ?_
            refine e_lo [0, 1, 2, 3, 4, 5] rfl ?_
            exact F
          · replace F := F.2 c17
            refine e_11 (f_141 (pc := 168) (e := (168, 11, 6, 0, 0, 0, 0, 170)) rfl) rfl ?_
            refine e_20 (f_141 (pc := 170) (e := (170, 20, 1, 0, 0, 0, 0, 171)) rfl) ?_
            refine e_11 (f_141 (pc := 171) (e := (171, 11, 7, 0, 0, 0, 0, 173)) rfl) rfl ?_
            refine e_20 (f_141 (pc := 173) (e := (173, 20, 2, 0, 0, 0, 0, 174)) rfl) ?_
            refine e_1 (f_141 (pc := 174) (e := (174, 1, 10, 0, 0, 0, 0, 176)) rfl) (v := 10) rfl ?_
            refine e_11 (f_141 (pc := 176) (e := (176, 11, 4, 0, 0, 0, 0, 178)) rfl) rfl ?_
            refine e_32 (f_141 (pc := 178) (e := (178, 32, 0, 0, 0, 0, 0, 179)) rfl) ?_
            refine e_11 (f_141 (pc := 179) (e := (179, 11, 5, 0, 0, 0, 0, 181)) rfl) rfl ?_
            refine e_30 (f_141 (pc := 181) (e := (181, 30, 0, 0, 0, 0, 0, 182)) rfl) ?_
            refine e_20 (f_141 (pc := 182) (e := (182, 20, 3, 0, 0, 0, 0, 183)) rfl) ?_
            refine e_26 (f_141 (pc := 183) (e := (183, 26, 5, 1, 0, 0, 0, 186)) rfl) (w := 1) rfl rfl ?_
            refine e_80 (f_141 (pc := 186) (e := (186, 80, 71, 0, 0, 0, 0, 189)) rfl) ?_
            refine e_lo [0, 1, 2, 3, 4, 5] rfl ?_
            exact F

/-! ChairAlley.order(I)I -/
set_option maxRecDepth 20000 in
theorem B_142_0 (hT : yLT T) (hR : yLR R) {x1 : Int} (F : yW l zSS D cy zFk z d 11 0 0 (fun r h' => ∃ r2 I1, r = some (yi r2) ∧ h' = (N, T, R, I1) ∧ ((r2 ≠ 0 → yW l zSS D cy zFk z d 102 0 0 (fun r h' => ∃ I4, r = none ∧ h' = (N, T, R, I4) ∧ (yW l zSS D cy zFk z d 100 0 0 (fun r h' => ∃ I5, r = none ∧ h' = (N, T, R, I5) ∧ (0 ≤ x1 ∧ x1 < 8 ∧ (K (some (yi (I5 81 x1.toNat))) (N, T, R, I5)))) 0 0 0 [(0, yr (some 67))] [] (N, T, R, I4))) 0 0 0 [(0, yr (some 67)), (1, yr (some 16))] [] (N, T, R, I1)) ∧ (¬ (r2 ≠ 0) → K (some (yi (-1))) (N, T, R, I1)))) 0 0 0 [(0, yr (some 4)), (1, yi x1)] [] (N, T, R, I)) :
    yW l zSS D cy zFk z (d + 1) 142 bc bs K 0 0 0 [(0, yr (some 0)), (1, yi x1)] [] (N, T, R, I) := by
  refine e_12 (f_142 (pc := 0) (e := (0, 12, 0, 0, 0, 0, 0, 1)) rfl) rfl ?_
  refine e_90r zA (f_142 (pc := 1) (e := (1, 90, 10, 1, 3, 19, 1064, 4)) rfl) rfl (hT 0 rfl) rfl rfl (hR 0 1 rfl) ?_
  refine e_90r zA (f_142 (pc := 4) (e := (4, 90, 9, 0, 3, 28, 1067, 7)) rfl) rfl (hT 3 rfl) rfl rfl (hR 3 0 rfl) ?_
  refine e_10 (f_142 (pc := 7) (e := (7, 10, 1, 0, 0, 0, 0, 8)) rfl) rfl ?_
  refine e_130 (f_142 (pc := 8) (e := (8, 130, 11, 0, 1, 120, 1101, 11)) rfl) zA (as := [yr (some 4), yi x1]) (rest := []) rfl rfl rfl rfl (Nat.le_of_ble_eq_true rfl) (Nat.le_of_ble_eq_true rfl) ⟨_, _, _, rfl, (hT 4 rfl)⟩ (mc := 0) (ms := 0) (Nat.zero_le _) (Nat.zero_le _) ?_
  refine e_K ?_ F
  rintro r h' ⟨r2, I1, rfl, rfl, F⟩
  refine e_61 (f_142 (pc := 11) (e := (11, 61, 16, 0, 0, 0, 0, 14)) rfl) (fun c3 => ?_) (fun c3 => ?_)
  · replace F := F.1 c3
    refine e_12 (f_142 (pc := 16) (e := (16, 12, 0, 0, 0, 0, 0, 17)) rfl) rfl ?_
    refine e_90r zA (f_142 (pc := 17) (e := (17, 90, 10, 3, 3, 35, 1069, 20)) rfl) rfl (hT 0 rfl) rfl rfl (hR 0 3 rfl) ?_
    refine e_12 (f_142 (pc := 20) (e := (20, 12, 0, 0, 0, 0, 0, 21)) rfl) rfl ?_
    refine e_90r zA (f_142 (pc := 21) (e := (21, 90, 10, 1, 3, 19, 1064, 24)) rfl) rfl (hT 0 rfl) rfl rfl (hR 0 1 rfl) ?_
    refine e_90r zA (f_142 (pc := 24) (e := (24, 90, 9, 1, 3, 92, 1084, 27)) rfl) rfl (hT 3 rfl) rfl rfl (hR 3 1 rfl) ?_
    refine e_130 (f_142 (pc := 27) (e := (27, 130, 102, 0, 7, 193, 1122, 30)) rfl) zA (as := [yr (some 67), yr (some 16)]) (rest := []) rfl rfl rfl rfl (Nat.le_of_ble_eq_true rfl) (Nat.le_of_ble_eq_true rfl) ⟨_, _, _, rfl, (hT 67 rfl)⟩ (mc := 0) (ms := 0) (Nat.zero_le _) (Nat.zero_le _) ?_
    refine e_K ?_ F
    rintro r h' ⟨I4, rfl, rfl, F⟩
    refine e_12 (f_142 (pc := 30) (e := (30, 12, 0, 0, 0, 0, 0, 31)) rfl) rfl ?_
    refine e_90r zA (f_142 (pc := 31) (e := (31, 90, 10, 3, 3, 35, 1069, 34)) rfl) rfl (hT 0 rfl) rfl rfl (hR 0 3 rfl) ?_
    refine e_130 (f_142 (pc := 34) (e := (34, 130, 100, 0, 7, 197, 1144, 37)) rfl) zA (as := [yr (some 67)]) (rest := []) rfl rfl rfl rfl (Nat.le_of_ble_eq_true rfl) (Nat.le_of_ble_eq_true rfl) ⟨_, _, _, rfl, (hT 67 rfl)⟩ (mc := 0) (ms := 0) (Nat.zero_le _) (Nat.zero_le _) ?_
    refine e_K ?_ F
    rintro r h' ⟨I5, rfl, rfl, F⟩
    refine e_12 (f_142 (pc := 37) (e := (37, 12, 0, 0, 0, 0, 0, 38)) rfl) rfl ?_
    refine e_90r zA (f_142 (pc := 38) (e := (38, 90, 10, 3, 3, 35, 1069, 41)) rfl) rfl (hT 0 rfl) rfl rfl (hR 0 3 rfl) ?_
    refine e_90r zA (f_142 (pc := 41) (e := (41, 90, 7, 3, 3, 200, 1145, 44)) rfl) rfl (hT 67 rfl) rfl rfl (hR 67 3 rfl) ?_
    refine e_10 (f_142 (pc := 44) (e := (44, 10, 1, 0, 0, 0, 0, 45)) rfl) rfl ?_
    obtain ⟨b6, b7, F⟩ := F
    refine e_110 (f_142 (pc := 45) (e := (45, 110, 0, 0, 0, 0, 0, 46)) rfl) rfl (hT 81 rfl) b6 b7 ?_
    exact e_120 (f_142 (pc := 46) (e := (46, 120, 0, 0, 0, 0, 0, 0)) rfl) F
  · replace F := F.2 c3
    refine e_0 (f_142 (pc := 14) (e := (14, 0, 4294967295, 0, 0, 0, 0, 15)) rfl) (v := (-1)) rfl ?_
    exact e_120 (f_142 (pc := 15) (e := (15, 120, 0, 0, 0, 0, 0, 16)) rfl) F

/-! ChairAlley.plan()I -/
set_option maxRecDepth 20000 in
theorem B_143_0 (hT : yLT T) (hR : yLR R) (F : yW l zSS D cy zFk z d 40 0 0 (fun r h' => ∃ I1, r = none ∧ h' = (N, T, R, I1) ∧ (yW l zSS D cy zFk z d 28 0 0 (fun r h' => ∃ r3 I2, r = some (yi r3) ∧ h' = (N, T, R, I2) ∧ (∀ I4, I4 = yU I2 1 1 0 → (((I4 1 10) = 0 → yW l zSS D cy zFk z d 27 0 0 (fun r h' => ∃ I6, r = none ∧ h' = (N, T, R, I6) ∧ (K (some (yi (I6 29 0))) (N, T, R, I6))) 0 0 0 [(0, yr (some 29)), (1, yr (some 61))] [] (N, T, R, I4)) ∧ (¬ ((I4 1 10) = 0) → K (some (yi (ysub (-1) (I4 1 11)))) (N, T, R, I4))))) 0 0 0 [(0, yr (some 61)), (1, yr (some 1)), (2, yr (some 4))] [] (N, T, R, I1))) 0 0 0 [(0, yr (some 1)), (1, yi 400)] [] (N, T, R, I)) :
    yW l zSS D cy zFk z (d + 1) 143 bc bs K 0 0 0 [(0, yr (some 0))] [] (N, T, R, I) := by
  refine e_12 (f_143 (pc := 0) (e := (0, 12, 0, 0, 0, 0, 0, 1)) rfl) rfl ?_
  refine e_90r zA (f_143 (pc := 1) (e := (1, 90, 10, 0, 3, 12, 1061, 4)) rfl) rfl (hT 0 rfl) rfl rfl (hR 0 0 rfl) ?_
  refine e_2 (f_143 (pc := 4) (e := (4, 2, 400, 0, 0, 0, 0, 7)) rfl) (v := 400) rfl ?_
  refine e_130 (f_143 (pc := 7) (e := (7, 130, 40, 0, 3, 74, 1078, 10)) rfl) zA (as := [yr (some 1), yi 400]) (rest := []) rfl rfl rfl rfl (Nat.le_of_ble_eq_true rfl) (Nat.le_of_ble_eq_true rfl) ⟨_, _, _, rfl, (hT 1 rfl)⟩ (mc := 0) (ms := 0) (Nat.zero_le _) (Nat.zero_le _) ?_
  refine e_K ?_ F
  rintro r h' ⟨I1, rfl, rfl, F⟩
  refine e_12 (f_143 (pc := 10) (e := (10, 12, 0, 0, 0, 0, 0, 11)) rfl) rfl ?_
  refine e_90r zA (f_143 (pc := 11) (e := (11, 90, 10, 2, 3, 23, 1065, 14)) rfl) rfl (hT 0 rfl) rfl rfl (hR 0 2 rfl) ?_
  refine e_90r zA (f_143 (pc := 14) (e := (14, 90, 9, 2, 3, 101, 1086, 17)) rfl) rfl (hT 35 rfl) rfl rfl (hR 35 2 rfl) ?_
  refine e_12 (f_143 (pc := 17) (e := (17, 12, 0, 0, 0, 0, 0, 18)) rfl) rfl ?_
  refine e_90r zA (f_143 (pc := 18) (e := (18, 90, 10, 0, 3, 12, 1061, 21)) rfl) rfl (hT 0 rfl) rfl rfl (hR 0 0 rfl) ?_
  refine e_12 (f_143 (pc := 21) (e := (21, 12, 0, 0, 0, 0, 0, 22)) rfl) rfl ?_
  refine e_90r zA (f_143 (pc := 22) (e := (22, 90, 10, 1, 3, 19, 1064, 25)) rfl) rfl (hT 0 rfl) rfl rfl (hR 0 1 rfl) ?_
  refine e_90r zA (f_143 (pc := 25) (e := (25, 90, 9, 0, 3, 28, 1067, 28)) rfl) rfl (hT 3 rfl) rfl rfl (hR 3 0 rfl) ?_
  refine e_130 (f_143 (pc := 28) (e := (28, 130, 28, 0, 2, 295, 1146, 31)) rfl) zA (as := [yr (some 61), yr (some 1), yr (some 4)]) (rest := []) rfl rfl rfl rfl (Nat.le_of_ble_eq_true rfl) (Nat.le_of_ble_eq_true rfl) ⟨_, _, _, rfl, (hT 61 rfl)⟩ (mc := 0) (ms := 0) (Nat.zero_le _) (Nat.zero_le _) ?_
  refine e_K ?_ F
  rintro r h' ⟨r3, I2, rfl, rfl, F⟩
  refine e_52 (f_143 (pc := 31) (e := (31, 52, 0, 0, 0, 0, 0, 32)) rfl) rfl ?_
  refine e_12 (f_143 (pc := 32) (e := (32, 12, 0, 0, 0, 0, 0, 33)) rfl) rfl ?_
  refine e_90r zA (f_143 (pc := 33) (e := (33, 90, 10, 0, 3, 12, 1061, 36)) rfl) rfl (hT 0 rfl) rfl rfl (hR 0 0 rfl) ?_
  refine e_0 (f_143 (pc := 36) (e := (36, 0, 0, 0, 0, 0, 0, 37)) rfl) (v := 0) rfl ?_
  refine e_91 zA (f_143 (pc := 37) (e := (37, 91, 3, 1, 0, 67, 1080, 40)) rfl) rfl (hT 1 rfl) rfl rfl trivial ?_
  replace F := F _ rfl
  refine e_12 (f_143 (pc := 40) (e := (40, 12, 0, 0, 0, 0, 0, 41)) rfl) rfl ?_
  refine e_90r zA (f_143 (pc := 41) (e := (41, 90, 10, 0, 3, 12, 1061, 44)) rfl) rfl (hT 0 rfl) rfl rfl (hR 0 0 rfl) ?_
  refine e_90 zA (f_143 (pc := 44) (e := (44, 90, 3, 10, 0, 83, 1081, 47)) rfl) rfl (hT 1 rfl) rfl rfl ?_
  refine e_60 (f_143 (pc := 47) (e := (47, 60, 60, 0, 0, 0, 0, 50)) rfl) (fun c5 => ?_) (fun c5 => ?_)
  · replace F := F.1 c5
    refine e_12 (f_143 (pc := 60) (e := (60, 12, 0, 0, 0, 0, 0, 61)) rfl) rfl ?_
    refine e_90r zA (f_143 (pc := 61) (e := (61, 90, 10, 1, 3, 19, 1064, 64)) rfl) rfl (hT 0 rfl) rfl rfl (hR 0 1 rfl) ?_
    refine e_90r zA (f_143 (pc := 64) (e := (64, 90, 9, 2, 3, 101, 1086, 67)) rfl) rfl (hT 3 rfl) rfl rfl (hR 3 2 rfl) ?_
    refine e_12 (f_143 (pc := 67) (e := (67, 12, 0, 0, 0, 0, 0, 68)) rfl) rfl ?_
    refine e_90r zA (f_143 (pc := 68) (e := (68, 90, 10, 2, 3, 23, 1065, 71)) rfl) rfl (hT 0 rfl) rfl rfl (hR 0 2 rfl) ?_
    refine e_90r zA (f_143 (pc := 71) (e := (71, 90, 9, 2, 3, 101, 1086, 74)) rfl) rfl (hT 35 rfl) rfl rfl (hR 35 2 rfl) ?_
    refine e_130 (f_143 (pc := 74) (e := (74, 130, 27, 0, 2, 298, 1147, 77)) rfl) zA (as := [yr (some 29), yr (some 61)]) (rest := []) rfl rfl rfl rfl (Nat.le_of_ble_eq_true rfl) (Nat.le_of_ble_eq_true rfl) ⟨_, _, _, rfl, (hT 29 rfl)⟩ (mc := 0) (ms := 0) (Nat.zero_le _) (Nat.zero_le _) ?_
    refine e_K ?_ F
    rintro r h' ⟨I6, rfl, rfl, F⟩
    refine e_12 (f_143 (pc := 77) (e := (77, 12, 0, 0, 0, 0, 0, 78)) rfl) rfl ?_
    refine e_90r zA (f_143 (pc := 78) (e := (78, 90, 10, 1, 3, 19, 1064, 81)) rfl) rfl (hT 0 rfl) rfl rfl (hR 0 1 rfl) ?_
    refine e_90r zA (f_143 (pc := 81) (e := (81, 90, 9, 2, 3, 101, 1086, 84)) rfl) rfl (hT 3 rfl) rfl rfl (hR 3 2 rfl) ?_
    refine e_90 zA (f_143 (pc := 84) (e := (84, 90, 2, 0, 0, 105, 1087, 87)) rfl) rfl (hT 29 rfl) rfl rfl ?_
    exact e_120 (f_143 (pc := 87) (e := (87, 120, 0, 0, 0, 0, 0, 0)) rfl) F
  · replace F := F.2 c5
    refine e_0 (f_143 (pc := 50) (e := (50, 0, 4294967295, 0, 0, 0, 0, 51)) rfl) (v := (-1)) rfl ?_
    refine e_12 (f_143 (pc := 51) (e := (51, 12, 0, 0, 0, 0, 0, 52)) rfl) rfl ?_
    refine e_90r zA (f_143 (pc := 52) (e := (52, 90, 10, 0, 3, 12, 1061, 55)) rfl) rfl (hT 0 rfl) rfl rfl (hR 0 0 rfl) ?_
    refine e_90 zA (f_143 (pc := 55) (e := (55, 90, 3, 11, 0, 86, 1082, 58)) rfl) rfl (hT 1 rfl) rfl rfl ?_
    refine e_31 (f_143 (pc := 58) (e := (58, 31, 0, 0, 0, 0, 0, 59)) rfl) ?_
    exact e_120 (f_143 (pc := 59) (e := (59, 120, 0, 0, 0, 0, 0, 60)) rfl) F

/-! ChairAlley.said(I)I -/
set_option maxRecDepth 20000 in
theorem B_145_0 (hT : yLT T) (hR : yLR R) {x1 : Int} (F : ((I 31 0) = 0 → K (some (yi (-1))) (N, T, R, I)) ∧ (¬ ((I 31 0) = 0) → ((-1) ≤ x1 → yW l zSS D cy zFk z d 145 bc bs K 0 0 24 [(0, yr (some 0)), (1, yi x1), (2, yi 0), (3, yi 0)] [] (N, T, R, I)) ∧ (¬ ((-1) ≤ x1) → K (some (yi (-1))) (N, T, R, I)))) :
    yW l zSS D cy zFk z d 145 bc bs K 0 0 0 [(0, yr (some 0)), (1, yi x1)] [] (N, T, R, I) := by
  refine e_12 (f_145 (pc := 0) (e := (0, 12, 0, 0, 0, 0, 0, 1)) rfl) rfl ?_
  refine e_90r zA (f_145 (pc := 1) (e := (1, 90, 10, 1, 3, 19, 1064, 4)) rfl) rfl (hT 0 rfl) rfl rfl (hR 0 1 rfl) ?_
  refine e_90r zA (f_145 (pc := 4) (e := (4, 90, 9, 3, 3, 110, 1088, 7)) rfl) rfl (hT 3 rfl) rfl rfl (hR 3 3 rfl) ?_
  refine e_90 zA (f_145 (pc := 7) (e := (7, 90, 4, 0, 0, 114, 1089, 10)) rfl) rfl (hT 31 rfl) rfl rfl ?_
  refine e_60 (f_145 (pc := 10) (e := (10, 60, 18, 0, 0, 0, 0, 13)) rfl) (fun c1 => ?_) (fun c1 => ?_)
  · replace F := F.1 c1
    refine e_0 (f_145 (pc := 18) (e := (18, 0, 4294967295, 0, 0, 0, 0, 19)) rfl) (v := (-1)) rfl ?_
    exact e_120 (f_145 (pc := 19) (e := (19, 120, 0, 0, 0, 0, 0, 20)) rfl) F
  · replace F := F.2 c1
    refine e_10 (f_145 (pc := 13) (e := (13, 10, 1, 0, 0, 0, 0, 14)) rfl) rfl ?_
    refine e_0 (f_145 (pc := 14) (e := (14, 0, 4294967295, 0, 0, 0, 0, 15)) rfl) (v := (-1)) rfl ?_
    refine e_73 (f_145 (pc := 15) (e := (15, 73, 20, 0, 0, 0, 0, 18)) rfl) (fun c2 => ?_) (fun c2 => ?_)
    · replace F := F.1 c2
      refine e_0 (f_145 (pc := 20) (e := (20, 0, 0, 0, 0, 0, 0, 21)) rfl) (v := 0) rfl ?_
      refine e_20 (f_145 (pc := 21) (e := (21, 20, 2, 0, 0, 0, 0, 22)) rfl) ?_
      refine e_0 (f_145 (pc := 22) (e := (22, 0, 0, 0, 0, 0, 0, 23)) rfl) (v := 0) rfl ?_
      refine e_20 (f_145 (pc := 23) (e := (23, 20, 3, 0, 0, 0, 0, 24)) rfl) ?_
      refine e_lo [0, 1, 2, 3] rfl ?_
      exact F
    · replace F := F.2 c2
      refine e_0 (f_145 (pc := 18) (e := (18, 0, 4294967295, 0, 0, 0, 0, 19)) rfl) (v := (-1)) rfl ?_
      exact e_120 (f_145 (pc := 19) (e := (19, 120, 0, 0, 0, 0, 0, 20)) rfl) F
set_option maxRecDepth 20000 in
theorem B_145_24 (hT : yLT T) (hR : yLR R) {x1 x2 x3 : Int} (F : ((I 4 5) ≤ x3 → (x1 ≠ (-1) → K (some (yi (-1))) (N, T, R, I)) ∧ (¬ (x1 ≠ (-1)) → K (some (yi x2)) (N, T, R, I))) ∧ (¬ ((I 4 5) ≤ x3) → (8 ≤ x3 → (x1 ≠ (-1) → K (some (yi (-1))) (N, T, R, I)) ∧ (¬ (x1 ≠ (-1)) → K (some (yi x2)) (N, T, R, I))) ∧ (¬ (8 ≤ x3) → yW l zSS D cy zFk z d 49 0 0 (fun r h' => ∃ r6 I5, r = some (yi r6) ∧ h' = (N, T, R, I5) ∧ ((r6 = 0 → yW l zSS D cy zFk z (d + 1) 145 bc bs K 0 0 24 [(0, yr (some 0)), (1, yi x1), (2, yi x2), (3, yi (yadd x3 1))] [] (N, T, R, I5)) ∧ (¬ (r6 = 0) → (x2 ≠ x1 → yW l zSS D cy zFk z (d + 1) 145 bc bs K 0 0 24 [(0, yr (some 0)), (1, yi x1), (2, yi (yadd x2 1)), (3, yi (yadd x3 1))] [] (N, T, R, I5)) ∧ (¬ (x2 ≠ x1) → K (some (yi x3)) (N, T, R, I5))))) 0 0 0 [(0, yr (some 31)), (1, yr (some 4)), (2, yr (some 16)), (3, yi x3)] [] (N, T, R, I)))) :
    yW l zSS D cy zFk z (d + 1) 145 bc bs K 0 0 24 [(0, yr (some 0)), (1, yi x1), (2, yi x2), (3, yi x3)] [] (N, T, R, I) := by
  refine e_10 (f_145 (pc := 24) (e := (24, 10, 3, 0, 0, 0, 0, 25)) rfl) rfl ?_
  refine e_12 (f_145 (pc := 25) (e := (25, 12, 0, 0, 0, 0, 0, 26)) rfl) rfl ?_
  refine e_90r zA (f_145 (pc := 26) (e := (26, 90, 10, 1, 3, 19, 1064, 29)) rfl) rfl (hT 0 rfl) rfl rfl (hR 0 1 rfl) ?_
  refine e_90r zA (f_145 (pc := 29) (e := (29, 90, 9, 0, 3, 28, 1067, 32)) rfl) rfl (hT 3 rfl) rfl rfl (hR 3 0 rfl) ?_
  refine e_90 zA (f_145 (pc := 32) (e := (32, 90, 1, 5, 0, 218, 1093, 35)) rfl) rfl (hT 4 rfl) rfl rfl ?_
  refine e_73 (f_145 (pc := 35) (e := (35, 73, 88, 0, 0, 0, 0, 38)) rfl) (fun c1 => ?_) (fun c1 => ?_)
  · replace F := F.1 c1
    refine e_10 (f_145 (pc := 88) (e := (88, 10, 1, 0, 0, 0, 0, 89)) rfl) rfl ?_
    refine e_0 (f_145 (pc := 89) (e := (89, 0, 4294967295, 0, 0, 0, 0, 90)) rfl) (v := (-1)) rfl ?_
    refine e_71 (f_145 (pc := 90) (e := (90, 71, 97, 0, 0, 0, 0, 93)) rfl) (fun c2 => ?_) (fun c2 => ?_)
    · replace F := F.1 c2
      refine e_0 (f_145 (pc := 97) (e := (97, 0, 4294967295, 0, 0, 0, 0, 98)) rfl) (v := (-1)) rfl ?_
      exact e_120 (f_145 (pc := 98) (e := (98, 120, 0, 0, 0, 0, 0, 0)) rfl) F
    · replace F := F.2 c2
      refine e_10 (f_145 (pc := 93) (e := (93, 10, 2, 0, 0, 0, 0, 94)) rfl) rfl ?_
      refine e_80 (f_145 (pc := 94) (e := (94, 80, 98, 0, 0, 0, 0, 97)) rfl) ?_
      exact e_120 (f_145 (pc := 98) (e := (98, 120, 0, 0, 0, 0, 0, 0)) rfl) F
  · replace F := F.2 c1
    refine e_10 (f_145 (pc := 38) (e := (38, 10, 3, 0, 0, 0, 0, 39)) rfl) rfl ?_
    refine e_1 (f_145 (pc := 39) (e := (39, 1, 8, 0, 0, 0, 0, 41)) rfl) (v := 8) rfl ?_
    refine e_73 (f_145 (pc := 41) (e := (41, 73, 88, 0, 0, 0, 0, 44)) rfl) (fun c3 => ?_) (fun c3 => ?_)
    · replace F := F.1 c3
      refine e_10 (f_145 (pc := 88) (e := (88, 10, 1, 0, 0, 0, 0, 89)) rfl) rfl ?_
      refine e_0 (f_145 (pc := 89) (e := (89, 0, 4294967295, 0, 0, 0, 0, 90)) rfl) (v := (-1)) rfl ?_
      refine e_71 (f_145 (pc := 90) (e := (90, 71, 97, 0, 0, 0, 0, 93)) rfl) (fun c4 => ?_) (fun c4 => ?_)
      · replace F := F.1 c4
        refine e_0 (f_145 (pc := 97) (e := (97, 0, 4294967295, 0, 0, 0, 0, 98)) rfl) (v := (-1)) rfl ?_
        exact e_120 (f_145 (pc := 98) (e := (98, 120, 0, 0, 0, 0, 0, 0)) rfl) F
      · replace F := F.2 c4
        refine e_10 (f_145 (pc := 93) (e := (93, 10, 2, 0, 0, 0, 0, 94)) rfl) rfl ?_
        refine e_80 (f_145 (pc := 94) (e := (94, 80, 98, 0, 0, 0, 0, 97)) rfl) ?_
        exact e_120 (f_145 (pc := 98) (e := (98, 120, 0, 0, 0, 0, 0, 0)) rfl) F
    · replace F := F.2 c3
      refine e_12 (f_145 (pc := 44) (e := (44, 12, 0, 0, 0, 0, 0, 45)) rfl) rfl ?_
      refine e_90r zA (f_145 (pc := 45) (e := (45, 90, 10, 1, 3, 19, 1064, 48)) rfl) rfl (hT 0 rfl) rfl rfl (hR 0 1 rfl) ?_
      refine e_90r zA (f_145 (pc := 48) (e := (48, 90, 9, 3, 3, 110, 1088, 51)) rfl) rfl (hT 3 rfl) rfl rfl (hR 3 3 rfl) ?_
      refine e_12 (f_145 (pc := 51) (e := (51, 12, 0, 0, 0, 0, 0, 52)) rfl) rfl ?_
      refine e_90r zA (f_145 (pc := 52) (e := (52, 90, 10, 1, 3, 19, 1064, 55)) rfl) rfl (hT 0 rfl) rfl rfl (hR 0 1 rfl) ?_
      refine e_90r zA (f_145 (pc := 55) (e := (55, 90, 9, 0, 3, 28, 1067, 58)) rfl) rfl (hT 3 rfl) rfl rfl (hR 3 0 rfl) ?_
      refine e_12 (f_145 (pc := 58) (e := (58, 12, 0, 0, 0, 0, 0, 59)) rfl) rfl ?_
      refine e_90r zA (f_145 (pc := 59) (e := (59, 90, 10, 1, 3, 19, 1064, 62)) rfl) rfl (hT 0 rfl) rfl rfl (hR 0 1 rfl) ?_
      refine e_90r zA (f_145 (pc := 62) (e := (62, 90, 9, 1, 3, 92, 1084, 65)) rfl) rfl (hT 3 rfl) rfl rfl (hR 3 1 rfl) ?_
      refine e_10 (f_145 (pc := 65) (e := (65, 10, 3, 0, 0, 0, 0, 66)) rfl) rfl ?_
      refine e_130 (f_145 (pc := 66) (e := (66, 130, 49, 0, 4, 311, 1148, 69)) rfl) zA (as := [yr (some 31), yr (some 4), yr (some 16), yi x3]) (rest := []) rfl rfl rfl rfl (Nat.le_of_ble_eq_true rfl) (Nat.le_of_ble_eq_true rfl) ⟨_, _, _, rfl, (hT 31 rfl)⟩ (mc := 0) (ms := 0) (Nat.zero_le _) (Nat.zero_le _) ?_
      refine e_K ?_ F
      rintro r h' ⟨r6, I5, rfl, rfl, F⟩
      refine e_60 (f_145 (pc := 69) (e := (69, 60, 82, 0, 0, 0, 0, 72)) rfl) (fun c7 => ?_) (fun c7 => ?_)
      · replace F := F.1 c7
        refine e_26 (f_145 (pc := 82) (e := (82, 26, 3, 1, 0, 0, 0, 85)) rfl) (w := 1) rfl rfl ?_
        refine e_80 (f_145 (pc := 85) (e := (85, 80, 24, 0, 0, 0, 0, 88)) rfl) ?_
        refine e_lo [0, 1, 2, 3] rfl ?_
        exact F
      · replace F := F.2 c7
        refine e_10 (f_145 (pc := 72) (e := (72, 10, 2, 0, 0, 0, 0, 73)) rfl) rfl ?_
        refine e_10 (f_145 (pc := 73) (e := (73, 10, 1, 0, 0, 0, 0, 74)) rfl) rfl ?_
        refine e_71 (f_145 (pc := 74) (e := (74, 71, 79, 0, 0, 0, 0, 77)) rfl) (fun c8 => ?_) (fun c8 => ?_)
        · replace F := F.1 c8
          refine e_26 (f_145 (pc := 79) (e := (79, 26, 2, 1, 0, 0, 0, 82)) rfl) (w := 1) rfl rfl ?_
          refine e_26 (f_145 (pc := 82) (e := (82, 26, 3, 1, 0, 0, 0, 85)) rfl) (w := 1) rfl rfl ?_
          refine e_80 (f_145 (pc := 85) (e := (85, 80, 24, 0, 0, 0, 0, 88)) rfl) ?_
          refine e_lo [0, 1, 2, 3] rfl ?_
          exact F
        · replace F := F.2 c8
          refine e_10 (f_145 (pc := 77) (e := (77, 10, 3, 0, 0, 0, 0, 78)) rfl) rfl ?_
          exact e_120 (f_145 (pc := 78) (e := (78, 120, 0, 0, 0, 0, 0, 79)) rfl) F

/-! ChairAlley.sentence()I -/
set_option maxRecDepth 20000 in
theorem B_146_0 (hT : yLT T) (hR : yLR R) (F : yW l zSS D cy zFk z d 40 0 0 (fun r h' => ∃ I1, r = none ∧ h' = (N, T, R, I1) ∧ (yW l zSS D cy zFk z d 50 0 0 (fun r h' => ∃ r3 I2, r = some (yi r3) ∧ h' = (N, T, R, I2) ∧ (∀ I4, I4 = yU I2 1 1 0 → (((I4 1 10) = 0 → yW l zSS D cy zFk z d 47 0 0 (fun r h' => ∃ I6, r = none ∧ h' = (N, T, R, I6) ∧ (K (some (yi r3)) (N, T, R, I6))) 0 0 0 [(0, yr (some 31)), (1, yr (some 63))] [] (N, T, R, I4)) ∧ (¬ ((I4 1 10) = 0) → K (some (yi (ysub (-1) (I4 1 11)))) (N, T, R, I4))))) 0 0 0 [(0, yr (some 63)), (1, yr (some 1)), (2, yr (some 4))] [] (N, T, R, I1))) 0 0 0 [(0, yr (some 1)), (1, yi 200)] [] (N, T, R, I)) :
    yW l zSS D cy zFk z (d + 1) 146 bc bs K 0 0 0 [(0, yr (some 0))] [] (N, T, R, I) := by
  refine e_12 (f_146 (pc := 0) (e := (0, 12, 0, 0, 0, 0, 0, 1)) rfl) rfl ?_
  refine e_90r zA (f_146 (pc := 1) (e := (1, 90, 10, 0, 3, 12, 1061, 4)) rfl) rfl (hT 0 rfl) rfl rfl (hR 0 0 rfl) ?_
  refine e_2 (f_146 (pc := 4) (e := (4, 2, 200, 0, 0, 0, 0, 7)) rfl) (v := 200) rfl ?_
  refine e_130 (f_146 (pc := 7) (e := (7, 130, 40, 0, 3, 74, 1078, 10)) rfl) zA (as := [yr (some 1), yi 200]) (rest := []) rfl rfl rfl rfl (Nat.le_of_ble_eq_true rfl) (Nat.le_of_ble_eq_true rfl) ⟨_, _, _, rfl, (hT 1 rfl)⟩ (mc := 0) (ms := 0) (Nat.zero_le _) (Nat.zero_le _) ?_
  refine e_K ?_ F
  rintro r h' ⟨I1, rfl, rfl, F⟩
  refine e_12 (f_146 (pc := 10) (e := (10, 12, 0, 0, 0, 0, 0, 11)) rfl) rfl ?_
  refine e_90r zA (f_146 (pc := 11) (e := (11, 90, 10, 2, 3, 23, 1065, 14)) rfl) rfl (hT 0 rfl) rfl rfl (hR 0 2 rfl) ?_
  refine e_90r zA (f_146 (pc := 14) (e := (14, 90, 9, 3, 3, 110, 1088, 17)) rfl) rfl (hT 35 rfl) rfl rfl (hR 35 3 rfl) ?_
  refine e_12 (f_146 (pc := 17) (e := (17, 12, 0, 0, 0, 0, 0, 18)) rfl) rfl ?_
  refine e_90r zA (f_146 (pc := 18) (e := (18, 90, 10, 0, 3, 12, 1061, 21)) rfl) rfl (hT 0 rfl) rfl rfl (hR 0 0 rfl) ?_
  refine e_12 (f_146 (pc := 21) (e := (21, 12, 0, 0, 0, 0, 0, 22)) rfl) rfl ?_
  refine e_90r zA (f_146 (pc := 22) (e := (22, 90, 10, 1, 3, 19, 1064, 25)) rfl) rfl (hT 0 rfl) rfl rfl (hR 0 1 rfl) ?_
  refine e_90r zA (f_146 (pc := 25) (e := (25, 90, 9, 0, 3, 28, 1067, 28)) rfl) rfl (hT 3 rfl) rfl rfl (hR 3 0 rfl) ?_
  refine e_130 (f_146 (pc := 28) (e := (28, 130, 50, 0, 4, 305, 1149, 31)) rfl) zA (as := [yr (some 63), yr (some 1), yr (some 4)]) (rest := []) rfl rfl rfl rfl (Nat.le_of_ble_eq_true rfl) (Nat.le_of_ble_eq_true rfl) ⟨_, _, _, rfl, (hT 63 rfl)⟩ (mc := 0) (ms := 0) (Nat.zero_le _) (Nat.zero_le _) ?_
  refine e_K ?_ F
  rintro r h' ⟨r3, I2, rfl, rfl, F⟩
  refine e_20 (f_146 (pc := 31) (e := (31, 20, 1, 0, 0, 0, 0, 32)) rfl) ?_
  refine e_12 (f_146 (pc := 32) (e := (32, 12, 0, 0, 0, 0, 0, 33)) rfl) rfl ?_
  refine e_90r zA (f_146 (pc := 33) (e := (33, 90, 10, 0, 3, 12, 1061, 36)) rfl) rfl (hT 0 rfl) rfl rfl (hR 0 0 rfl) ?_
  refine e_0 (f_146 (pc := 36) (e := (36, 0, 0, 0, 0, 0, 0, 37)) rfl) (v := 0) rfl ?_
  refine e_91 zA (f_146 (pc := 37) (e := (37, 91, 3, 1, 0, 67, 1080, 40)) rfl) rfl (hT 1 rfl) rfl rfl trivial ?_
  replace F := F _ rfl
  refine e_12 (f_146 (pc := 40) (e := (40, 12, 0, 0, 0, 0, 0, 41)) rfl) rfl ?_
  refine e_90r zA (f_146 (pc := 41) (e := (41, 90, 10, 0, 3, 12, 1061, 44)) rfl) rfl (hT 0 rfl) rfl rfl (hR 0 0 rfl) ?_
  refine e_90 zA (f_146 (pc := 44) (e := (44, 90, 3, 10, 0, 83, 1081, 47)) rfl) rfl (hT 1 rfl) rfl rfl ?_
  refine e_60 (f_146 (pc := 47) (e := (47, 60, 60, 0, 0, 0, 0, 50)) rfl) (fun c5 => ?_) (fun c5 => ?_)
  · replace F := F.1 c5
    refine e_12 (f_146 (pc := 60) (e := (60, 12, 0, 0, 0, 0, 0, 61)) rfl) rfl ?_
    refine e_90r zA (f_146 (pc := 61) (e := (61, 90, 10, 1, 3, 19, 1064, 64)) rfl) rfl (hT 0 rfl) rfl rfl (hR 0 1 rfl) ?_
    refine e_90r zA (f_146 (pc := 64) (e := (64, 90, 9, 3, 3, 110, 1088, 67)) rfl) rfl (hT 3 rfl) rfl rfl (hR 3 3 rfl) ?_
    refine e_12 (f_146 (pc := 67) (e := (67, 12, 0, 0, 0, 0, 0, 68)) rfl) rfl ?_
    refine e_90r zA (f_146 (pc := 68) (e := (68, 90, 10, 2, 3, 23, 1065, 71)) rfl) rfl (hT 0 rfl) rfl rfl (hR 0 2 rfl) ?_
    refine e_90r zA (f_146 (pc := 71) (e := (71, 90, 9, 3, 3, 110, 1088, 74)) rfl) rfl (hT 35 rfl) rfl rfl (hR 35 3 rfl) ?_
    refine e_130 (f_146 (pc := 74) (e := (74, 130, 47, 0, 4, 308, 1150, 77)) rfl) zA (as := [yr (some 31), yr (some 63)]) (rest := []) rfl rfl rfl rfl (Nat.le_of_ble_eq_true rfl) (Nat.le_of_ble_eq_true rfl) ⟨_, _, _, rfl, (hT 31 rfl)⟩ (mc := 0) (ms := 0) (Nat.zero_le _) (Nat.zero_le _) ?_
    refine e_K ?_ F
    rintro r h' ⟨I6, rfl, rfl, F⟩
    refine e_10 (f_146 (pc := 77) (e := (77, 10, 1, 0, 0, 0, 0, 78)) rfl) rfl ?_
    exact e_120 (f_146 (pc := 78) (e := (78, 120, 0, 0, 0, 0, 0, 0)) rfl) F
  · replace F := F.2 c5
    refine e_0 (f_146 (pc := 50) (e := (50, 0, 4294967295, 0, 0, 0, 0, 51)) rfl) (v := (-1)) rfl ?_
    refine e_12 (f_146 (pc := 51) (e := (51, 12, 0, 0, 0, 0, 0, 52)) rfl) rfl ?_
    refine e_90r zA (f_146 (pc := 52) (e := (52, 90, 10, 0, 3, 12, 1061, 55)) rfl) rfl (hT 0 rfl) rfl rfl (hR 0 0 rfl) ?_
    refine e_90 zA (f_146 (pc := 55) (e := (55, 90, 3, 11, 0, 86, 1082, 58)) rfl) rfl (hT 1 rfl) rfl rfl ?_
    refine e_31 (f_146 (pc := 58) (e := (58, 31, 0, 0, 0, 0, 0, 59)) rfl) ?_
    exact e_120 (f_146 (pc := 59) (e := (59, 120, 0, 0, 0, 0, 0, 60)) rfl) F

/-! ChairAlley.step(I)I -/
set_option maxRecDepth 20000 in
theorem B_147_0 (hT : yLT T) (hR : yLR R) {vs ns : Nat} (hvs : R 91 9 = some vs) (hTvs : T vs = (0, ns)) (hns : ns < 2147483648) {vq nq : Nat} (hvq : R 91 10 = some vq) (hTvq : T vq = (1, nq)) (hnq : nq < 2147483648) {vt nt : Nat} (hvt : R 91 12 = some vt) (hTvt : T vt = (1, nt)) (hnt : nt < 2147483648) {x1 : Int} (F : (x1 < 0 → K (some (yi (-1))) (N, T, R, I)) ∧ (¬ (x1 < 0) → ((I 91 13) ≤ x1 → K (some (yi (-1))) (N, T, R, I)) ∧ (¬ ((I 91 13) ≤ x1) → (x1 < (nt : Int) → 0 ≤ x1 ∧ x1 < (nt : Int) ∧ (K (some (yi (I vt x1.toNat))) (N, T, R, I))) ∧ (¬ (x1 < (nt : Int)) → K (some (yi (-1))) (N, T, R, I))))) :
    yW l zSS D cy zFk z d 147 bc bs K 0 0 0 [(0, yr (some 0)), (1, yi x1)] [] (N, T, R, I) := by
  refine e_10 (f_147 (pc := 0) (e := (0, 10, 1, 0, 0, 0, 0, 1)) rfl) rfl ?_
  refine e_62 (f_147 (pc := 1) (e := (1, 62, 27, 0, 0, 0, 0, 4)) rfl) (fun c1 => ?_) (fun c1 => ?_)
  · replace F := F.1 c1
    refine e_0 (f_147 (pc := 27) (e := (27, 0, 4294967295, 0, 0, 0, 0, 28)) rfl) (v := (-1)) rfl ?_
    exact e_120 (f_147 (pc := 28) (e := (28, 120, 0, 0, 0, 0, 0, 29)) rfl) F
  · replace F := F.2 c1
    refine e_10 (f_147 (pc := 4) (e := (4, 10, 1, 0, 0, 0, 0, 5)) rfl) rfl ?_
    refine e_12 (f_147 (pc := 5) (e := (5, 12, 0, 0, 0, 0, 0, 6)) rfl) rfl ?_
    refine e_90r zA (f_147 (pc := 6) (e := (6, 90, 10, 5, 3, 49, 1073, 9)) rfl) rfl (hT 0 rfl) rfl rfl (hR 0 5 rfl) ?_
    refine e_90 zA (f_147 (pc := 9) (e := (9, 90, 6, 13, 0, 248, 1151, 12)) rfl) rfl (hT 91 rfl) rfl rfl ?_
    refine e_73 (f_147 (pc := 12) (e := (12, 73, 27, 0, 0, 0, 0, 15)) rfl) (fun c2 => ?_) (fun c2 => ?_)
    · replace F := F.1 c2
      refine e_0 (f_147 (pc := 27) (e := (27, 0, 4294967295, 0, 0, 0, 0, 28)) rfl) (v := (-1)) rfl ?_
      exact e_120 (f_147 (pc := 28) (e := (28, 120, 0, 0, 0, 0, 0, 29)) rfl) F
    · replace F := F.2 c2
      refine e_10 (f_147 (pc := 15) (e := (15, 10, 1, 0, 0, 0, 0, 16)) rfl) rfl ?_
      refine e_12 (f_147 (pc := 16) (e := (16, 12, 0, 0, 0, 0, 0, 17)) rfl) rfl ?_
      refine e_90r zA (f_147 (pc := 17) (e := (17, 90, 10, 5, 3, 49, 1073, 20)) rfl) rfl (hT 0 rfl) rfl rfl (hR 0 5 rfl) ?_
      refine e_90r zA (f_147 (pc := 20) (e := (20, 90, 6, 12, 3, 251, 1152, 23)) rfl) rfl (hT 91 rfl) rfl rfl hvt ?_
      refine e_103 (f_147 (pc := 23) (e := (23, 103, 0, 0, 0, 0, 0, 24)) rfl) rfl hTvt (by decide) hnt ?_
      refine e_72 (f_147 (pc := 24) (e := (24, 72, 29, 0, 0, 0, 0, 27)) rfl) (fun c3 => ?_) (fun c3 => ?_)
      · replace F := F.1 c3
        refine e_12 (f_147 (pc := 29) (e := (29, 12, 0, 0, 0, 0, 0, 30)) rfl) rfl ?_
        refine e_90r zA (f_147 (pc := 30) (e := (30, 90, 10, 5, 3, 49, 1073, 33)) rfl) rfl (hT 0 rfl) rfl rfl (hR 0 5 rfl) ?_
        refine e_90r zA (f_147 (pc := 33) (e := (33, 90, 6, 12, 3, 251, 1152, 36)) rfl) rfl (hT 91 rfl) rfl rfl hvt ?_
        refine e_10 (f_147 (pc := 36) (e := (36, 10, 1, 0, 0, 0, 0, 37)) rfl) rfl ?_
        obtain ⟨b4, b5, F⟩ := F
        refine e_110 (f_147 (pc := 37) (e := (37, 110, 0, 0, 0, 0, 0, 38)) rfl) rfl hTvt b4 b5 ?_
        exact e_120 (f_147 (pc := 38) (e := (38, 120, 0, 0, 0, 0, 0, 0)) rfl) F
      · replace F := F.2 c3
        refine e_0 (f_147 (pc := 27) (e := (27, 0, 4294967295, 0, 0, 0, 0, 28)) rfl) (v := (-1)) rfl ?_
        exact e_120 (f_147 (pc := 28) (e := (28, 120, 0, 0, 0, 0, 0, 29)) rfl) F

/-! ChairAlley.undo()I -/
set_option maxRecDepth 20000 in
theorem B_149_0 (hT : yLT T) (hR : yLR R) (F : yW l zSS D cy zFk z d 3 0 0 (fun r h' => ∃ r2 I1, r = some (yi r2) ∧ h' = (N, T, R, I1) ∧ (K (some (yi r2)) (N, T, R, I1))) 0 0 0 [(0, yr (some 89)), (1, yr (some 16))] [] (N, T, R, I)) :
    yW l zSS D cy zFk z (d + 1) 149 bc bs K 0 0 0 [(0, yr (some 0))] [] (N, T, R, I) := by
  refine e_12 (f_149 (pc := 0) (e := (0, 12, 0, 0, 0, 0, 0, 1)) rfl) rfl ?_
  refine e_90r zA (f_149 (pc := 1) (e := (1, 90, 10, 4, 3, 42, 1071, 4)) rfl) rfl (hT 0 rfl) rfl rfl (hR 0 4 rfl) ?_
  refine e_12 (f_149 (pc := 4) (e := (4, 12, 0, 0, 0, 0, 0, 5)) rfl) rfl ?_
  refine e_90r zA (f_149 (pc := 5) (e := (5, 90, 10, 1, 3, 19, 1064, 8)) rfl) rfl (hT 0 rfl) rfl rfl (hR 0 1 rfl) ?_
  refine e_90r zA (f_149 (pc := 8) (e := (8, 90, 9, 1, 3, 92, 1084, 11)) rfl) rfl (hT 3 rfl) rfl rfl (hR 3 1 rfl) ?_
  refine e_130 (f_149 (pc := 11) (e := (11, 130, 3, 0, 0, 237, 1154, 14)) rfl) zA (as := [yr (some 89), yr (some 16)]) (rest := []) rfl rfl rfl rfl (Nat.le_of_ble_eq_true rfl) (Nat.le_of_ble_eq_true rfl) ⟨_, _, _, rfl, (hT 89 rfl)⟩ (mc := 0) (ms := 0) (Nat.zero_le _) (Nat.zero_le _) ?_
  refine e_K ?_ F
  rintro r h' ⟨r2, I1, rfl, rfl, F⟩
  exact e_120 (f_149 (pc := 14) (e := (14, 120, 0, 0, 0, 0, 0, 0)) rfl) F

/-! ChairAlley.untied()I -/
set_option maxRecDepth 20000 in
theorem B_150_0 (hT : yLT T) (hR : yLR R) (F : yW l zSS D cy zFk z d 78 0 0 (fun r h' => ∃ r2 I1, r = some (yi r2) ∧ h' = (N, T, R, I1) ∧ (K (some (yi r2)) (N, T, R, I1))) 0 0 0 [(0, yr (some 91)), (1, yr (some 4)), (2, yr (some 16))] [] (N, T, R, I)) :
    yW l zSS D cy zFk z (d + 1) 150 bc bs K 0 0 0 [(0, yr (some 0))] [] (N, T, R, I) := by
  refine e_12 (f_150 (pc := 0) (e := (0, 12, 0, 0, 0, 0, 0, 1)) rfl) rfl ?_
  refine e_90r zA (f_150 (pc := 1) (e := (1, 90, 10, 5, 3, 49, 1073, 4)) rfl) rfl (hT 0 rfl) rfl rfl (hR 0 5 rfl) ?_
  refine e_12 (f_150 (pc := 4) (e := (4, 12, 0, 0, 0, 0, 0, 5)) rfl) rfl ?_
  refine e_90r zA (f_150 (pc := 5) (e := (5, 90, 10, 1, 3, 19, 1064, 8)) rfl) rfl (hT 0 rfl) rfl rfl (hR 0 1 rfl) ?_
  refine e_90r zA (f_150 (pc := 8) (e := (8, 90, 9, 0, 3, 28, 1067, 11)) rfl) rfl (hT 3 rfl) rfl rfl (hR 3 0 rfl) ?_
  refine e_12 (f_150 (pc := 11) (e := (11, 12, 0, 0, 0, 0, 0, 12)) rfl) rfl ?_
  refine e_90r zA (f_150 (pc := 12) (e := (12, 90, 10, 1, 3, 19, 1064, 15)) rfl) rfl (hT 0 rfl) rfl rfl (hR 0 1 rfl) ?_
  refine e_90r zA (f_150 (pc := 15) (e := (15, 90, 9, 1, 3, 92, 1084, 18)) rfl) rfl (hT 3 rfl) rfl rfl (hR 3 1 rfl) ?_
  refine e_130 (f_150 (pc := 18) (e := (18, 130, 78, 0, 6, 244, 1155, 21)) rfl) zA (as := [yr (some 91), yr (some 4), yr (some 16)]) (rest := []) rfl rfl rfl rfl (Nat.le_of_ble_eq_true rfl) (Nat.le_of_ble_eq_true rfl) ⟨_, _, _, rfl, (hT 91 rfl)⟩ (mc := 0) (ms := 0) (Nat.zero_le _) (Nat.zero_le _) ?_
  refine e_K ?_ F
  rintro r h' ⟨r2, I1, rfl, rfl, F⟩
  exact e_120 (f_150 (pc := 21) (e := (21, 120, 0, 0, 0, 0, 0, 0)) rfl) F

/-! ChairAlley.way(II)I -/
set_option maxRecDepth 20000 in
theorem B_152_0 (hT : yLT T) (hR : yLR R) {x1 x2 : Int} (F : yW l zSS D cy zFk z d 10 0 0 (fun r h' => ∃ r2 I1, r = some (yi r2) ∧ h' = (N, T, R, I1) ∧ ((r2 = 0 → K (some (yi (-1))) (N, T, R, I1)) ∧ (¬ (r2 = 0) → yW l zSS D cy zFk z d 10 0 0 (fun r h' => ∃ r5 I4, r = some (yi r5) ∧ h' = (N, T, R, I4) ∧ ((r5 ≠ 0 → yW l zSS D cy zFk z d 109 0 0 (fun r h' => ∃ I7, r = none ∧ h' = (N, T, R, I7) ∧ (0 ≤ x1 ∧ x1 < 800 ∧ (K (some (yi (I7 86 x1.toNat))) (N, T, R, I7)))) 0 0 0 [(0, yr (some 85)), (1, yr (some 17)), (2, yi x2), (3, yi 0)] [] (N, T, R, I4)) ∧ (¬ (r5 ≠ 0) → K (some (yi (-1))) (N, T, R, I4)))) 0 0 0 [(0, yr (some 4)), (1, yi x2)] [] (N, T, R, I1)))) 0 0 0 [(0, yr (some 4)), (1, yi x1)] [] (N, T, R, I)) :
    yW l zSS D cy zFk z (d + 1) 152 bc bs K 0 0 0 [(0, yr (some 0)), (1, yi x1), (2, yi x2)] [] (N, T, R, I) := by
  refine e_12 (f_152 (pc := 0) (e := (0, 12, 0, 0, 0, 0, 0, 1)) rfl) rfl ?_
  refine e_90r zA (f_152 (pc := 1) (e := (1, 90, 10, 1, 3, 19, 1064, 4)) rfl) rfl (hT 0 rfl) rfl rfl (hR 0 1 rfl) ?_
  refine e_90r zA (f_152 (pc := 4) (e := (4, 90, 9, 0, 3, 28, 1067, 7)) rfl) rfl (hT 3 rfl) rfl rfl (hR 3 0 rfl) ?_
  refine e_10 (f_152 (pc := 7) (e := (7, 10, 1, 0, 0, 0, 0, 8)) rfl) rfl ?_
  refine e_130 (f_152 (pc := 8) (e := (8, 130, 10, 0, 1, 159, 1097, 11)) rfl) zA (as := [yr (some 4), yi x1]) (rest := []) rfl rfl rfl rfl (Nat.le_of_ble_eq_true rfl) (Nat.le_of_ble_eq_true rfl) ⟨_, _, _, rfl, (hT 4 rfl)⟩ (mc := 0) (ms := 0) (Nat.zero_le _) (Nat.zero_le _) ?_
  refine e_K ?_ F
  rintro r h' ⟨r2, I1, rfl, rfl, F⟩
  refine e_60 (f_152 (pc := 11) (e := (11, 60, 28, 0, 0, 0, 0, 14)) rfl) (fun c3 => ?_) (fun c3 => ?_)
  · replace F := F.1 c3
    refine e_0 (f_152 (pc := 28) (e := (28, 0, 4294967295, 0, 0, 0, 0, 29)) rfl) (v := (-1)) rfl ?_
    exact e_120 (f_152 (pc := 29) (e := (29, 120, 0, 0, 0, 0, 0, 30)) rfl) F
  · replace F := F.2 c3
    refine e_12 (f_152 (pc := 14) (e := (14, 12, 0, 0, 0, 0, 0, 15)) rfl) rfl ?_
    refine e_90r zA (f_152 (pc := 15) (e := (15, 90, 10, 1, 3, 19, 1064, 18)) rfl) rfl (hT 0 rfl) rfl rfl (hR 0 1 rfl) ?_
    refine e_90r zA (f_152 (pc := 18) (e := (18, 90, 9, 0, 3, 28, 1067, 21)) rfl) rfl (hT 3 rfl) rfl rfl (hR 3 0 rfl) ?_
    refine e_10 (f_152 (pc := 21) (e := (21, 10, 2, 0, 0, 0, 0, 22)) rfl) rfl ?_
    refine e_130 (f_152 (pc := 22) (e := (22, 130, 10, 0, 1, 159, 1097, 25)) rfl) zA (as := [yr (some 4), yi x2]) (rest := []) rfl rfl rfl rfl (Nat.le_of_ble_eq_true rfl) (Nat.le_of_ble_eq_true rfl) ⟨_, _, _, rfl, (hT 4 rfl)⟩ (mc := 0) (ms := 0) (Nat.zero_le _) (Nat.zero_le _) ?_
    refine e_K ?_ F
    rintro r h' ⟨r5, I4, rfl, rfl, F⟩
    refine e_61 (f_152 (pc := 25) (e := (25, 61, 30, 0, 0, 0, 0, 28)) rfl) (fun c6 => ?_) (fun c6 => ?_)
    · replace F := F.1 c6
      refine e_12 (f_152 (pc := 30) (e := (30, 12, 0, 0, 0, 0, 0, 31)) rfl) rfl ?_
      refine e_90r zA (f_152 (pc := 31) (e := (31, 90, 10, 3, 3, 35, 1069, 34)) rfl) rfl (hT 0 rfl) rfl rfl (hR 0 3 rfl) ?_
      refine e_90r zA (f_152 (pc := 34) (e := (34, 90, 7, 1, 3, 173, 1135, 37)) rfl) rfl (hT 67 rfl) rfl rfl (hR 67 1 rfl) ?_
      refine e_12 (f_152 (pc := 37) (e := (37, 12, 0, 0, 0, 0, 0, 38)) rfl) rfl ?_
      refine e_90r zA (f_152 (pc := 38) (e := (38, 90, 10, 1, 3, 19, 1064, 41)) rfl) rfl (hT 0 rfl) rfl rfl (hR 0 1 rfl) ?_
      refine e_90r zA (f_152 (pc := 41) (e := (41, 90, 9, 1, 3, 92, 1084, 44)) rfl) rfl (hT 3 rfl) rfl rfl (hR 3 1 rfl) ?_
      refine e_90r zA (f_152 (pc := 44) (e := (44, 90, 5, 1, 3, 166, 1099, 47)) rfl) rfl (hT 16 rfl) rfl rfl (hR 16 1 rfl) ?_
      refine e_10 (f_152 (pc := 47) (e := (47, 10, 2, 0, 0, 0, 0, 48)) rfl) rfl ?_
      refine e_0 (f_152 (pc := 48) (e := (48, 0, 0, 0, 0, 0, 0, 49)) rfl) (v := 0) rfl ?_
      refine e_130 (f_152 (pc := 49) (e := (49, 130, 109, 0, 8, 177, 1136, 52)) rfl) zA (as := [yr (some 85), yr (some 17), yi x2, yi 0]) (rest := []) rfl rfl rfl rfl (Nat.le_of_ble_eq_true rfl) (Nat.le_of_ble_eq_true rfl) ⟨_, _, _, rfl, (hT 85 rfl)⟩ (mc := 0) (ms := 0) (Nat.zero_le _) (Nat.zero_le _) ?_
      refine e_K ?_ F
      rintro r h' ⟨I7, rfl, rfl, F⟩
      refine e_12 (f_152 (pc := 52) (e := (52, 12, 0, 0, 0, 0, 0, 53)) rfl) rfl ?_
      refine e_90r zA (f_152 (pc := 53) (e := (53, 90, 10, 3, 3, 35, 1069, 56)) rfl) rfl (hT 0 rfl) rfl rfl (hR 0 3 rfl) ?_
      refine e_90r zA (f_152 (pc := 56) (e := (56, 90, 7, 1, 3, 173, 1135, 59)) rfl) rfl (hT 67 rfl) rfl rfl (hR 67 1 rfl) ?_
      refine e_90r zA (f_152 (pc := 59) (e := (59, 90, 8, 1, 3, 183, 1156, 62)) rfl) rfl (hT 85 rfl) rfl rfl (hR 85 1 rfl) ?_
      refine e_10 (f_152 (pc := 62) (e := (62, 10, 1, 0, 0, 0, 0, 63)) rfl) rfl ?_
      obtain ⟨b8, b9, F⟩ := F
      refine e_110 (f_152 (pc := 63) (e := (63, 110, 0, 0, 0, 0, 0, 64)) rfl) rfl (hT 86 rfl) b8 b9 ?_
      exact e_120 (f_152 (pc := 64) (e := (64, 120, 0, 0, 0, 0, 0, 0)) rfl) F
    · replace F := F.2 c6
      refine e_0 (f_152 (pc := 28) (e := (28, 0, 4294967295, 0, 0, 0, 0, 29)) rfl) (v := (-1)) rfl ?_
      exact e_120 (f_152 (pc := 29) (e := (29, 120, 0, 0, 0, 0, 0, 30)) rfl) F

/-! ChairAlley.when(I)I -/
set_option maxRecDepth 20000 in
theorem B_153_0 (hT : yLT T) (hR : yLR R) {x1 : Int} (F : yW l zSS D cy zFk z d 127 0 0 (fun r h' => ∃ r2 I1, r = some (yi r2) ∧ h' = (N, T, R, I1) ∧ ((r2 ≠ 0 → yW l zSS D cy zFk z d 102 0 0 (fun r h' => ∃ I4, r = none ∧ h' = (N, T, R, I4) ∧ (yW l zSS D cy zFk z d 96 0 0 (fun r h' => ∃ I5, r = none ∧ h' = (N, T, R, I5) ∧ (yW l zSS D cy zFk z d 89 0 0 (fun r h' => ∃ I6, r = none ∧ h' = (N, T, R, I6) ∧ (yW l zSS D cy zFk z d 106 0 0 (fun r h' => ∃ r8 I7, r = some (yi r8) ∧ h' = (N, T, R, I7) ∧ (K (some (yi r8)) (N, T, R, I7))) 0 0 0 [(0, yr (some 67)), (1, yi x1)] [] (N, T, R, I6))) 0 0 0 [(0, yr (some 67)), (1, yi 500)] [] (N, T, R, I5))) 0 0 0 [(0, yr (some 67))] [] (N, T, R, I4))) 0 0 0 [(0, yr (some 67)), (1, yr (some 16))] [] (N, T, R, I1)) ∧ (¬ (r2 ≠ 0) → K (some (yi (-1))) (N, T, R, I1)))) 0 0 0 [(0, yr (some 0)), (1, yi x1)] [] (N, T, R, I)) :
    yW l zSS D cy zFk z (d + 1) 153 bc bs K 0 0 0 [(0, yr (some 0)), (1, yi x1)] [] (N, T, R, I) := by
  refine e_12 (f_153 (pc := 0) (e := (0, 12, 0, 0, 0, 0, 0, 1)) rfl) rfl ?_
  refine e_10 (f_153 (pc := 1) (e := (1, 10, 1, 0, 0, 0, 0, 2)) rfl) rfl ?_
  refine e_130 (f_153 (pc := 2) (e := (2, 130, 127, 0, 10, 280, 1129, 5)) rfl) zA (as := [yr (some 0), yi x1]) (rest := []) rfl rfl rfl rfl (Nat.le_of_ble_eq_true rfl) (Nat.le_of_ble_eq_true rfl) ⟨_, _, _, rfl, (hT 0 rfl)⟩ (mc := 0) (ms := 0) (Nat.zero_le _) (Nat.zero_le _) ?_
  refine e_K ?_ F
  rintro r h' ⟨r2, I1, rfl, rfl, F⟩
  refine e_61 (f_153 (pc := 5) (e := (5, 61, 10, 0, 0, 0, 0, 8)) rfl) (fun c3 => ?_) (fun c3 => ?_)
  · replace F := F.1 c3
    refine e_12 (f_153 (pc := 10) (e := (10, 12, 0, 0, 0, 0, 0, 11)) rfl) rfl ?_
    refine e_90r zA (f_153 (pc := 11) (e := (11, 90, 10, 3, 3, 35, 1069, 14)) rfl) rfl (hT 0 rfl) rfl rfl (hR 0 3 rfl) ?_
    refine e_12 (f_153 (pc := 14) (e := (14, 12, 0, 0, 0, 0, 0, 15)) rfl) rfl ?_
    refine e_90r zA (f_153 (pc := 15) (e := (15, 90, 10, 1, 3, 19, 1064, 18)) rfl) rfl (hT 0 rfl) rfl rfl (hR 0 1 rfl) ?_
    refine e_90r zA (f_153 (pc := 18) (e := (18, 90, 9, 1, 3, 92, 1084, 21)) rfl) rfl (hT 3 rfl) rfl rfl (hR 3 1 rfl) ?_
    refine e_130 (f_153 (pc := 21) (e := (21, 130, 102, 0, 7, 193, 1122, 24)) rfl) zA (as := [yr (some 67), yr (some 16)]) (rest := []) rfl rfl rfl rfl (Nat.le_of_ble_eq_true rfl) (Nat.le_of_ble_eq_true rfl) ⟨_, _, _, rfl, (hT 67 rfl)⟩ (mc := 0) (ms := 0) (Nat.zero_le _) (Nat.zero_le _) ?_
    refine e_K ?_ F
    rintro r h' ⟨I4, rfl, rfl, F⟩
    refine e_12 (f_153 (pc := 24) (e := (24, 12, 0, 0, 0, 0, 0, 25)) rfl) rfl ?_
    refine e_90r zA (f_153 (pc := 25) (e := (25, 90, 10, 3, 3, 35, 1069, 28)) rfl) rfl (hT 0 rfl) rfl rfl (hR 0 3 rfl) ?_
    refine e_130 (f_153 (pc := 28) (e := (28, 130, 96, 0, 7, 203, 1092, 31)) rfl) zA (as := [yr (some 67)]) (rest := []) rfl rfl rfl rfl (Nat.le_of_ble_eq_true rfl) (Nat.le_of_ble_eq_true rfl) ⟨_, _, _, rfl, (hT 67 rfl)⟩ (mc := 0) (ms := 0) (Nat.zero_le _) (Nat.zero_le _) ?_
    refine e_K ?_ F
    rintro r h' ⟨I5, rfl, rfl, F⟩
    refine e_12 (f_153 (pc := 31) (e := (31, 12, 0, 0, 0, 0, 0, 32)) rfl) rfl ?_
    refine e_90r zA (f_153 (pc := 32) (e := (32, 90, 10, 3, 3, 35, 1069, 35)) rfl) rfl (hT 0 rfl) rfl rfl (hR 0 3 rfl) ?_
    refine e_2 (f_153 (pc := 35) (e := (35, 2, 500, 0, 0, 0, 0, 38)) rfl) (v := 500) rfl ?_
    refine e_130 (f_153 (pc := 38) (e := (38, 130, 89, 0, 7, 258, 1127, 41)) rfl) zA (as := [yr (some 67), yi 500]) (rest := []) rfl rfl rfl rfl (Nat.le_of_ble_eq_true rfl) (Nat.le_of_ble_eq_true rfl) ⟨_, _, _, rfl, (hT 67 rfl)⟩ (mc := 0) (ms := 0) (Nat.zero_le _) (Nat.zero_le _) ?_
    refine e_K ?_ F
    rintro r h' ⟨I6, rfl, rfl, F⟩
    refine e_12 (f_153 (pc := 41) (e := (41, 12, 0, 0, 0, 0, 0, 42)) rfl) rfl ?_
    refine e_90r zA (f_153 (pc := 42) (e := (42, 90, 10, 3, 3, 35, 1069, 45)) rfl) rfl (hT 0 rfl) rfl rfl (hR 0 3 rfl) ?_
    refine e_10 (f_153 (pc := 45) (e := (45, 10, 1, 0, 0, 0, 0, 46)) rfl) rfl ?_
    refine e_130 (f_153 (pc := 46) (e := (46, 130, 106, 0, 7, 283, 1130, 49)) rfl) zA (as := [yr (some 67), yi x1]) (rest := []) rfl rfl rfl rfl (Nat.le_of_ble_eq_true rfl) (Nat.le_of_ble_eq_true rfl) ⟨_, _, _, rfl, (hT 67 rfl)⟩ (mc := 0) (ms := 0) (Nat.zero_le _) (Nat.zero_le _) ?_
    refine e_K ?_ F
    rintro r h' ⟨r8, I7, rfl, rfl, F⟩
    exact e_120 (f_153 (pc := 49) (e := (49, 120, 0, 0, 0, 0, 0, 0)) rfl) F
  · replace F := F.2 c3
    refine e_0 (f_153 (pc := 8) (e := (8, 0, 4294967295, 0, 0, 0, 0, 9)) rfl) (v := (-1)) rfl ?_
    exact e_120 (f_153 (pc := 9) (e := (9, 120, 0, 0, 0, 0, 0, 10)) rfl) F
end Sy
