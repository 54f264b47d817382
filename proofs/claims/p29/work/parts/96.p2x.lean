/-! BLOCKS anew, cut at more places, printed by wip/whole/y/ct.py -/
section Sy
variable {l : Launch} {D : va_G} {cy : Nat → ClassId} {z d bc bs N : Nat} {T : Nat → Nat × Nat} {R : Nat → Nat → Option Nat} {I : Nat → Nat → Int} {K : yKo}
set_option maxRecDepth 20000 in
theorem Bx_211_0 (hT : yLT T) (hR : yLR R) (F : yW l zSS D cy zFk z d 199 0 0 (fun r h' => ∃ r2 I1, r = some (yi r2) ∧ h' = (N, T, R, I1) ∧ ((r2 = 0 → yW l zSS D cy zFk z (d + 1) 211 bc bs K 0 0 71 [(0, yr (some 102))] [] (N, T, R, I1)) ∧ (¬ (r2 = 0) → ((I1 102 22) = 0 → ∀ I5, I5 = yU I1 102 22 1 → (yW l zSS D cy zFk z d 182 0 0 (fun r h' => ∃ I6, r = none ∧ h' = (N, T, R, I6) ∧ (yW l zSS D cy zFk z (d + 1) 211 bc bs K 0 0 34 [(0, yr (some 102)), (1, yi 0)] [] (N, T, R, I6))) 0 0 0 [(0, yr (some 102))] [] (N, T, R, I5))) ∧ (¬ ((I1 102 22) = 0) → yW l zSS D cy zFk z d 159 0 0 (fun r h' => ∃ r8 I7, r = some (yi r8) ∧ h' = (N, T, R, I7) ∧ ((r8 = 0 ∨ r8 = 1) ∧ K (some (yi r8)) (N, T, R, I7))) 0 0 0 [(0, yr (some 102)), (1, yi 3)] [] (N, T, R, I1))))) 0 0 0 [(0, yr (some 102)), (1, yj 1818324580)] [] (N, T, R, I)) :
    yW l zSS D cy zFk z (d + 1) 211 bc bs K 0 0 0 [(0, yr (some 102))] [] (N, T, R, I) := by
  refine e_12 (f_211 (pc := 0) (e := (0, 12, 0, 0, 0, 0, 0, 1)) rfl) rfl ?_
  refine e_5 (f_211 (pc := 1) (e := (1, 5, 1818324580, 0, 0, 103, 1182, 4)) rfl) (v := 1818324580) rfl ?_
  refine e_130 (f_211 (pc := 4) (e := (4, 130, 199, 0, 11, 204, 1238, 7)) rfl) zA (as := [yr (some 102), yj 1818324580]) (rest := []) rfl rfl rfl rfl (Nat.le_of_ble_eq_true rfl) (Nat.le_of_ble_eq_true rfl) ⟨_, _, _, rfl, (hT 102 rfl)⟩ (mc := 0) (ms := 0) (Nat.zero_le _) (Nat.zero_le _) ?_
  refine e_K ?_ F
  rintro r h' ⟨r2, I1, rfl, rfl, F⟩
  refine e_60 (f_211 (pc := 7) (e := (7, 60, 71, 0, 0, 0, 0, 10)) rfl) (fun c3 => ?_) (fun c3 => ?_)
  · replace F := F.1 c3
    refine e_lo [0] rfl ?_
    exact F
  · replace F := F.2 c3
    refine e_12 (f_211 (pc := 10) (e := (10, 12, 0, 0, 0, 0, 0, 11)) rfl) rfl ?_
    refine e_90 zA (f_211 (pc := 11) (e := (11, 90, 11, 22, 2, 212, 1222, 14)) rfl) rfl (hT 102 rfl) rfl rfl ?_
    refine e_60 (f_211 (pc := 14) (e := (14, 60, 23, 0, 0, 0, 0, 17)) rfl) (fun c4 => ?_) (fun c4 => ?_)
    · replace F := F.1 c4
      refine e_12 (f_211 (pc := 23) (e := (23, 12, 0, 0, 0, 0, 0, 24)) rfl) rfl ?_
      refine e_0 (f_211 (pc := 24) (e := (24, 0, 1, 0, 0, 0, 0, 25)) rfl) (v := 1) rfl ?_
      refine e_91 zA (f_211 (pc := 25) (e := (25, 91, 11, 22, 2, 212, 1222, 28)) rfl) rfl (hT 102 rfl) rfl rfl (.inr rfl) ?_
      replace F := F _ rfl
      refine e_12 (f_211 (pc := 28) (e := (28, 12, 0, 0, 0, 0, 0, 29)) rfl) rfl ?_
      refine e_130 (f_211 (pc := 29) (e := (29, 130, 182, 0, 11, 190, 1224, 32)) rfl) zA (as := [yr (some 102)]) (rest := []) rfl rfl rfl rfl (Nat.le_of_ble_eq_true rfl) (Nat.le_of_ble_eq_true rfl) ⟨_, _, _, rfl, (hT 102 rfl)⟩ (mc := 0) (ms := 0) (Nat.zero_le _) (Nat.zero_le _) ?_
      refine e_K ?_ F
      rintro r h' ⟨I6, rfl, rfl, F⟩
      refine e_0 (f_211 (pc := 32) (e := (32, 0, 0, 0, 0, 0, 0, 33)) rfl) (v := 0) rfl ?_
      refine e_20 (f_211 (pc := 33) (e := (33, 20, 1, 0, 0, 0, 0, 34)) rfl) ?_
      refine e_lo [0, 1] rfl ?_
      exact F
    · replace F := F.2 c4
      refine e_12 (f_211 (pc := 17) (e := (17, 12, 0, 0, 0, 0, 0, 18)) rfl) rfl ?_
      refine e_0 (f_211 (pc := 18) (e := (18, 0, 3, 0, 0, 0, 0, 19)) rfl) (v := 3) rfl ?_
      refine e_130 (f_211 (pc := 19) (e := (19, 130, 159, 0, 11, 187, 1243, 22)) rfl) zA (as := [yr (some 102), yi 3]) (rest := []) rfl rfl rfl rfl (Nat.le_of_ble_eq_true rfl) (Nat.le_of_ble_eq_true rfl) ⟨_, _, _, rfl, (hT 102 rfl)⟩ (mc := 0) (ms := 0) (Nat.zero_le _) (Nat.zero_le _) ?_
      refine e_K ?_ F
      rintro r h' ⟨r8, I7, rfl, rfl, F⟩
      exact e_121 (f_211 (pc := 22) (e := (22, 121, 0, 0, 0, 0, 0, 23)) rfl) F.1 F.2
set_option maxRecDepth 20000 in
theorem Bx_211_34 (hT : yLT T) (hR : yLR R) {x1 : Int} (F : (2 ≤ x1 → K (some (yi 1)) (N, T, R, I)) ∧ (¬ (2 ≤ x1) → yW l zSS D cy zFk z d 245 0 0 (fun r h' => ∃ r3 I2, r = some (yi r3) ∧ h' = (N, T, R, I2) ∧ ((r3 ≠ 0 → 0 ≤ (yadd 0 x1) ∧ (yadd 0 x1) < 458 ∧ (∀ I7, I7 = yU I2 105 ((yadd 0 x1).toNat) (ynar 1 (I2 102 18)) → (yW l zSS D cy zFk z (d + 1) 211 bc bs K 0 0 34 [(0, yr (some 102)), (1, yi (yadd x1 1))] [] (N, T, R, I7)))) ∧ (¬ (r3 ≠ 0) → K (some (yi 0)) (N, T, R, I2)))) 0 0 0 [(0, yr (some 102)), (1, yi 2), (2, yi 10)] [] (N, T, R, I))) :
    yW l zSS D cy zFk z (d + 1) 211 bc bs K 0 0 34 [(0, yr (some 102)), (1, yi x1)] [] (N, T, R, I) := by
  refine e_10 (f_211 (pc := 34) (e := (34, 10, 1, 0, 0, 0, 0, 35)) rfl) rfl ?_
  refine e_0 (f_211 (pc := 35) (e := (35, 0, 2, 0, 0, 0, 0, 36)) rfl) (v := 2) rfl ?_
  refine e_73 (f_211 (pc := 36) (e := (36, 73, 69, 0, 0, 0, 0, 39)) rfl) (fun c1 => ?_) (fun c1 => ?_)
  · replace F := F.1 c1
    refine e_0 (f_211 (pc := 69) (e := (69, 0, 1, 0, 0, 0, 0, 70)) rfl) (v := 1) rfl ?_
    exact e_121 (f_211 (pc := 70) (e := (70, 121, 0, 0, 0, 0, 0, 71)) rfl) (.inr rfl) F
  · replace F := F.2 c1
    refine e_12 (f_211 (pc := 39) (e := (39, 12, 0, 0, 0, 0, 0, 40)) rfl) rfl ?_
    refine e_0 (f_211 (pc := 40) (e := (40, 0, 2, 0, 0, 0, 0, 41)) rfl) (v := 2) rfl ?_
    refine e_1 (f_211 (pc := 41) (e := (41, 1, 10, 0, 0, 0, 0, 43)) rfl) (v := 10) rfl ?_
    refine e_130 (f_211 (pc := 43) (e := (43, 130, 245, 0, 11, 200, 1280, 46)) rfl) zA (as := [yr (some 102), yi 2, yi 10]) (rest := []) rfl rfl rfl rfl (Nat.le_of_ble_eq_true rfl) (Nat.le_of_ble_eq_true rfl) ⟨_, _, _, rfl, (hT 102 rfl)⟩ (mc := 0) (ms := 0) (Nat.zero_le _) (Nat.zero_le _) ?_
    refine e_K ?_ F
    rintro r h' ⟨r3, I2, rfl, rfl, F⟩
    refine e_61 (f_211 (pc := 46) (e := (46, 61, 51, 0, 0, 0, 0, 49)) rfl) (fun c4 => ?_) (fun c4 => ?_)
    · replace F := F.1 c4
      refine e_12 (f_211 (pc := 51) (e := (51, 12, 0, 0, 0, 0, 0, 52)) rfl) rfl ?_
      refine e_90r zA (f_211 (pc := 52) (e := (52, 90, 11, 7, 3, 37, 1160, 55)) rfl) rfl (hT 102 rfl) rfl rfl (hR 102 7 rfl) ?_
      refine e_0 (f_211 (pc := 55) (e := (55, 0, 0, 0, 0, 0, 0, 56)) rfl) (v := 0) rfl ?_
      refine e_10 (f_211 (pc := 56) (e := (56, 10, 1, 0, 0, 0, 0, 57)) rfl) rfl ?_
      refine e_30 (f_211 (pc := 57) (e := (57, 30, 0, 0, 0, 0, 0, 58)) rfl) ?_
      refine e_12 (f_211 (pc := 58) (e := (58, 12, 0, 0, 0, 0, 0, 59)) rfl) rfl ?_
      refine e_90 zA (f_211 (pc := 59) (e := (59, 90, 11, 18, 0, 197, 1281, 62)) rfl) rfl (hT 102 rfl) rfl rfl ?_
      obtain ⟨b5, b6, F⟩ := F
      refine e_111 (f_211 (pc := 62) (e := (62, 111, 0, 0, 0, 0, 0, 63)) rfl) rfl (hT 105 rfl) b5 b6 ?_
      replace F := F _ rfl
      refine e_26 (f_211 (pc := 63) (e := (63, 26, 1, 1, 0, 0, 0, 66)) rfl) (w := 1) rfl rfl ?_
      refine e_80 (f_211 (pc := 66) (e := (66, 80, 34, 0, 0, 0, 0, 69)) rfl) ?_
      refine e_lo [0, 1] rfl ?_
      exact F
    · replace F := F.2 c4
      refine e_0 (f_211 (pc := 49) (e := (49, 0, 0, 0, 0, 0, 0, 50)) rfl) (v := 0) rfl ?_
      exact e_121 (f_211 (pc := 50) (e := (50, 121, 0, 0, 0, 0, 0, 51)) rfl) (.inl rfl) F
set_option maxRecDepth 20000 in
theorem Bx_211_71 (hT : yLT T) (hR : yLR R) (F : yW l zSS D cy zFk z d 199 0 0 (fun r h' => ∃ r2 I1, r = some (yi r2) ∧ h' = (N, T, R, I1) ∧ ((r2 = 0 → yW l zSS D cy zFk z (d + 1) 211 bc bs K 0 0 91 [(0, yr (some 102))] [] (N, T, R, I1)) ∧ (¬ (r2 = 0) → yW l zSS D cy zFk z d 230 0 0 (fun r h' => ∃ r5 I4, r = some (yi r5) ∧ h' = (N, T, R, I4) ∧ ((r5 = 0 ∨ r5 = 1) ∧ K (some (yi r5)) (N, T, R, I4))) 0 0 0 [(0, yr (some 102)), (1, yi 10), (2, yi 3), (3, yi 40)] [] (N, T, R, I1)))) 0 0 0 [(0, yr (some 102)), (1, yj 2002873452)] [] (N, T, R, I)) :
    yW l zSS D cy zFk z (d + 1) 211 bc bs K 0 0 71 [(0, yr (some 102))] [] (N, T, R, I) := by
  refine e_12 (f_211 (pc := 71) (e := (71, 12, 0, 0, 0, 0, 0, 72)) rfl) rfl ?_
  refine e_5 (f_211 (pc := 72) (e := (72, 5, 2002873452, 0, 0, 105, 1183, 75)) rfl) (v := 2002873452) rfl ?_
  refine e_130 (f_211 (pc := 75) (e := (75, 130, 199, 0, 11, 204, 1238, 78)) rfl) zA (as := [yr (some 102), yj 2002873452]) (rest := []) rfl rfl rfl rfl (Nat.le_of_ble_eq_true rfl) (Nat.le_of_ble_eq_true rfl) ⟨_, _, _, rfl, (hT 102 rfl)⟩ (mc := 0) (ms := 0) (Nat.zero_le _) (Nat.zero_le _) ?_
  refine e_K ?_ F
  rintro r h' ⟨r2, I1, rfl, rfl, F⟩
  refine e_60 (f_211 (pc := 78) (e := (78, 60, 91, 0, 0, 0, 0, 81)) rfl) (fun c3 => ?_) (fun c3 => ?_)
  · replace F := F.1 c3
    refine e_lo [0] rfl ?_
    exact F
  · replace F := F.2 c3
    refine e_12 (f_211 (pc := 81) (e := (81, 12, 0, 0, 0, 0, 0, 82)) rfl) rfl ?_
    refine e_1 (f_211 (pc := 82) (e := (82, 1, 10, 0, 0, 0, 0, 84)) rfl) (v := 10) rfl ?_
    refine e_0 (f_211 (pc := 84) (e := (84, 0, 3, 0, 0, 0, 0, 85)) rfl) (v := 3) rfl ?_
    refine e_1 (f_211 (pc := 85) (e := (85, 1, 40, 0, 0, 0, 0, 87)) rfl) (v := 40) rfl ?_
    refine e_130 (f_211 (pc := 87) (e := (87, 130, 230, 0, 11, 216, 1282, 90)) rfl) zA (as := [yr (some 102), yi 10, yi 3, yi 40]) (rest := []) rfl rfl rfl rfl (Nat.le_of_ble_eq_true rfl) (Nat.le_of_ble_eq_true rfl) ⟨_, _, _, rfl, (hT 102 rfl)⟩ (mc := 0) (ms := 0) (Nat.zero_le _) (Nat.zero_le _) ?_
    refine e_K ?_ F
    rintro r h' ⟨r5, I4, rfl, rfl, F⟩
    exact e_121 (f_211 (pc := 90) (e := (90, 121, 0, 0, 0, 0, 0, 91)) rfl) F.1 F.2
set_option maxRecDepth 20000 in
theorem Bx_211_91 (hT : yLT T) (hR : yLR R) (F : yW l zSS D cy zFk z d 199 0 0 (fun r h' => ∃ r2 I1, r = some (yi r2) ∧ h' = (N, T, R, I1) ∧ ((r2 = 0 → yW l zSS D cy zFk z (d + 1) 211 bc bs K 0 0 111 [(0, yr (some 102))] [] (N, T, R, I1)) ∧ (¬ (r2 = 0) → yW l zSS D cy zFk z d 230 0 0 (fun r h' => ∃ r5 I4, r = some (yi r5) ∧ h' = (N, T, R, I4) ∧ ((r5 = 0 ∨ r5 = 1) ∧ K (some (yi r5)) (N, T, R, I4))) 0 0 0 [(0, yr (some 102)), (1, yi 110), (2, yi 4), (3, yi 12)] [] (N, T, R, I1)))) 0 0 0 [(0, yr (some 102)), (1, yj 126943687701107)] [] (N, T, R, I)) :
    yW l zSS D cy zFk z (d + 1) 211 bc bs K 0 0 91 [(0, yr (some 102))] [] (N, T, R, I) := by
  refine e_12 (f_211 (pc := 91) (e := (91, 12, 0, 0, 0, 0, 0, 92)) rfl) rfl ?_
  refine e_5 (f_211 (pc := 92) (e := (92, 5, 126943687701107, 0, 0, 107, 1184, 95)) rfl) (v := 126943687701107) rfl ?_
  refine e_130 (f_211 (pc := 95) (e := (95, 130, 199, 0, 11, 204, 1238, 98)) rfl) zA (as := [yr (some 102), yj 126943687701107]) (rest := []) rfl rfl rfl rfl (Nat.le_of_ble_eq_true rfl) (Nat.le_of_ble_eq_true rfl) ⟨_, _, _, rfl, (hT 102 rfl)⟩ (mc := 0) (ms := 0) (Nat.zero_le _) (Nat.zero_le _) ?_
  refine e_K ?_ F
  rintro r h' ⟨r2, I1, rfl, rfl, F⟩
  refine e_60 (f_211 (pc := 98) (e := (98, 60, 111, 0, 0, 0, 0, 101)) rfl) (fun c3 => ?_) (fun c3 => ?_)
  · replace F := F.1 c3
    refine e_lo [0] rfl ?_
    exact F
  · replace F := F.2 c3
    refine e_12 (f_211 (pc := 101) (e := (101, 12, 0, 0, 0, 0, 0, 102)) rfl) rfl ?_
    refine e_1 (f_211 (pc := 102) (e := (102, 1, 110, 0, 0, 0, 0, 104)) rfl) (v := 110) rfl ?_
    refine e_0 (f_211 (pc := 104) (e := (104, 0, 4, 0, 0, 0, 0, 105)) rfl) (v := 4) rfl ?_
    refine e_1 (f_211 (pc := 105) (e := (105, 1, 12, 0, 0, 0, 0, 107)) rfl) (v := 12) rfl ?_
    refine e_130 (f_211 (pc := 107) (e := (107, 130, 230, 0, 11, 216, 1282, 110)) rfl) zA (as := [yr (some 102), yi 110, yi 4, yi 12]) (rest := []) rfl rfl rfl rfl (Nat.le_of_ble_eq_true rfl) (Nat.le_of_ble_eq_true rfl) ⟨_, _, _, rfl, (hT 102 rfl)⟩ (mc := 0) (ms := 0) (Nat.zero_le _) (Nat.zero_le _) ?_
    refine e_K ?_ F
    rintro r h' ⟨r5, I4, rfl, rfl, F⟩
    exact e_121 (f_211 (pc := 110) (e := (110, 121, 0, 0, 0, 0, 0, 111)) rfl) F.1 F.2
set_option maxRecDepth 20000 in
theorem Bx_211_111 (hT : yLT T) (hR : yLR R) (F : yW l zSS D cy zFk z d 199 0 0 (fun r h' => ∃ r2 I1, r = some (yi r2) ∧ h' = (N, T, R, I1) ∧ ((r2 = 0 → yW l zSS D cy zFk z (d + 1) 211 bc bs K 0 0 132 [(0, yr (some 102))] [] (N, T, R, I1)) ∧ (¬ (r2 = 0) → yW l zSS D cy zFk z d 230 0 0 (fun r h' => ∃ r5 I4, r = some (yi r5) ∧ h' = (N, T, R, I4) ∧ ((r5 = 0 ∨ r5 = 1) ∧ K (some (yi r5)) (N, T, R, I4))) 0 0 0 [(0, yr (some 102)), (1, yi 210), (2, yi 5), (3, yi 12)] [] (N, T, R, I1)))) 0 0 0 [(0, yr (some 102)), (1, yj 2003395685)] [] (N, T, R, I)) :
    yW l zSS D cy zFk z (d + 1) 211 bc bs K 0 0 111 [(0, yr (some 102))] [] (N, T, R, I) := by
  refine e_12 (f_211 (pc := 111) (e := (111, 12, 0, 0, 0, 0, 0, 112)) rfl) rfl ?_
  refine e_5 (f_211 (pc := 112) (e := (112, 5, 2003395685, 0, 0, 109, 1185, 115)) rfl) (v := 2003395685) rfl ?_
  refine e_130 (f_211 (pc := 115) (e := (115, 130, 199, 0, 11, 204, 1238, 118)) rfl) zA (as := [yr (some 102), yj 2003395685]) (rest := []) rfl rfl rfl rfl (Nat.le_of_ble_eq_true rfl) (Nat.le_of_ble_eq_true rfl) ⟨_, _, _, rfl, (hT 102 rfl)⟩ (mc := 0) (ms := 0) (Nat.zero_le _) (Nat.zero_le _) ?_
  refine e_K ?_ F
  rintro r h' ⟨r2, I1, rfl, rfl, F⟩
  refine e_60 (f_211 (pc := 118) (e := (118, 60, 132, 0, 0, 0, 0, 121)) rfl) (fun c3 => ?_) (fun c3 => ?_)
  · replace F := F.1 c3
    refine e_lo [0] rfl ?_
    exact F
  · replace F := F.2 c3
    refine e_12 (f_211 (pc := 121) (e := (121, 12, 0, 0, 0, 0, 0, 122)) rfl) rfl ?_
    refine e_2 (f_211 (pc := 122) (e := (122, 2, 210, 0, 0, 0, 0, 125)) rfl) (v := 210) rfl ?_
    refine e_0 (f_211 (pc := 125) (e := (125, 0, 5, 0, 0, 0, 0, 126)) rfl) (v := 5) rfl ?_
    refine e_1 (f_211 (pc := 126) (e := (126, 1, 12, 0, 0, 0, 0, 128)) rfl) (v := 12) rfl ?_
    refine e_130 (f_211 (pc := 128) (e := (128, 130, 230, 0, 11, 216, 1282, 131)) rfl) zA (as := [yr (some 102), yi 210, yi 5, yi 12]) (rest := []) rfl rfl rfl rfl (Nat.le_of_ble_eq_true rfl) (Nat.le_of_ble_eq_true rfl) ⟨_, _, _, rfl, (hT 102 rfl)⟩ (mc := 0) (ms := 0) (Nat.zero_le _) (Nat.zero_le _) ?_
    refine e_K ?_ F
    rintro r h' ⟨r5, I4, rfl, rfl, F⟩
    exact e_121 (f_211 (pc := 131) (e := (131, 121, 0, 0, 0, 0, 0, 132)) rfl) F.1 F.2
set_option maxRecDepth 20000 in
theorem Bx_211_132 (hT : yLT T) (hR : yLR R) (F : yW l zSS D cy zFk z d 199 0 0 (fun r h' => ∃ r2 I1, r = some (yi r2) ∧ h' = (N, T, R, I1) ∧ ((r2 = 0 → yW l zSS D cy zFk z (d + 1) 211 bc bs K 0 0 242 [(0, yr (some 102))] [] (N, T, R, I1)) ∧ (¬ (r2 = 0) → ((I1 102 20) ≠ 20 → yW l zSS D cy zFk z (d + 1) 211 bc bs K 0 0 157 [(0, yr (some 102))] [] (N, T, R, I1)) ∧ (¬ ((I1 102 20) ≠ 20) → yW l zSS D cy zFk z d 159 0 0 (fun r h' => ∃ r6 I5, r = some (yi r6) ∧ h' = (N, T, R, I5) ∧ ((r6 = 0 ∨ r6 = 1) ∧ K (some (yi r6)) (N, T, R, I5))) 0 0 0 [(0, yr (some 102)), (1, yi 4)] [] (N, T, R, I1))))) 0 0 0 [(0, yr (some 102)), (1, yj 1818324581)] [] (N, T, R, I)) :
    yW l zSS D cy zFk z (d + 1) 211 bc bs K 0 0 132 [(0, yr (some 102))] [] (N, T, R, I) := by
  refine e_12 (f_211 (pc := 132) (e := (132, 12, 0, 0, 0, 0, 0, 133)) rfl) rfl ?_
  refine e_5 (f_211 (pc := 133) (e := (133, 5, 1818324581, 0, 0, 111, 1186, 136)) rfl) (v := 1818324581) rfl ?_
  refine e_130 (f_211 (pc := 136) (e := (136, 130, 199, 0, 11, 204, 1238, 139)) rfl) zA (as := [yr (some 102), yj 1818324581]) (rest := []) rfl rfl rfl rfl (Nat.le_of_ble_eq_true rfl) (Nat.le_of_ble_eq_true rfl) ⟨_, _, _, rfl, (hT 102 rfl)⟩ (mc := 0) (ms := 0) (Nat.zero_le _) (Nat.zero_le _) ?_
  refine e_K ?_ F
  rintro r h' ⟨r2, I1, rfl, rfl, F⟩
  refine e_60 (f_211 (pc := 139) (e := (139, 60, 242, 0, 0, 0, 0, 142)) rfl) (fun c3 => ?_) (fun c3 => ?_)
  · replace F := F.1 c3
    refine e_lo [0] rfl ?_
    exact F
  · replace F := F.2 c3
    refine e_12 (f_211 (pc := 142) (e := (142, 12, 0, 0, 0, 0, 0, 143)) rfl) rfl ?_
    refine e_90 zA (f_211 (pc := 143) (e := (143, 90, 11, 20, 0, 219, 1220, 146)) rfl) rfl (hT 102 rfl) rfl rfl ?_
    refine e_1 (f_211 (pc := 146) (e := (146, 1, 20, 0, 0, 0, 0, 148)) rfl) (v := 20) rfl ?_
    refine e_71 (f_211 (pc := 148) (e := (148, 71, 157, 0, 0, 0, 0, 151)) rfl) (fun c4 => ?_) (fun c4 => ?_)
    · replace F := F.1 c4
      refine e_lo [0] rfl ?_
      exact F
    · replace F := F.2 c4
      refine e_12 (f_211 (pc := 151) (e := (151, 12, 0, 0, 0, 0, 0, 152)) rfl) rfl ?_
      refine e_0 (f_211 (pc := 152) (e := (152, 0, 4, 0, 0, 0, 0, 153)) rfl) (v := 4) rfl ?_
      refine e_130 (f_211 (pc := 153) (e := (153, 130, 159, 0, 11, 187, 1243, 156)) rfl) zA (as := [yr (some 102), yi 4]) (rest := []) rfl rfl rfl rfl (Nat.le_of_ble_eq_true rfl) (Nat.le_of_ble_eq_true rfl) ⟨_, _, _, rfl, (hT 102 rfl)⟩ (mc := 0) (ms := 0) (Nat.zero_le _) (Nat.zero_le _) ?_
      refine e_K ?_ F
      rintro r h' ⟨r6, I5, rfl, rfl, F⟩
      exact e_121 (f_211 (pc := 156) (e := (156, 121, 0, 0, 0, 0, 0, 157)) rfl) F.1 F.2
set_option maxRecDepth 20000 in
theorem Bx_211_157 (hT : yLT T) (hR : yLR R) (F : yW l zSS D cy zFk z d 182 0 0 (fun r h' => ∃ I1, r = none ∧ h' = (N, T, R, I1) ∧ (yW l zSS D cy zFk z d 212 0 0 (fun r h' => ∃ r3 I2, r = some (yi r3) ∧ h' = (N, T, R, I2) ∧ ((r3 ≠ 0 → yW l zSS D cy zFk z (d + 1) 211 bc bs K 0 0 170 [(0, yr (some 102))] [] (N, T, R, I2)) ∧ (¬ (r3 ≠ 0) → K (some (yi 0)) (N, T, R, I2)))) 0 0 0 [(0, yr (some 102))] [] (N, T, R, I1))) 0 0 0 [(0, yr (some 102))] [] (N, T, R, I)) :
    yW l zSS D cy zFk z (d + 1) 211 bc bs K 0 0 157 [(0, yr (some 102))] [] (N, T, R, I) := by
  refine e_12 (f_211 (pc := 157) (e := (157, 12, 0, 0, 0, 0, 0, 158)) rfl) rfl ?_
  refine e_130 (f_211 (pc := 158) (e := (158, 130, 182, 0, 11, 190, 1224, 161)) rfl) zA (as := [yr (some 102)]) (rest := []) rfl rfl rfl rfl (Nat.le_of_ble_eq_true rfl) (Nat.le_of_ble_eq_true rfl) ⟨_, _, _, rfl, (hT 102 rfl)⟩ (mc := 0) (ms := 0) (Nat.zero_le _) (Nat.zero_le _) ?_
  refine e_K ?_ F
  rintro r h' ⟨I1, rfl, rfl, F⟩
  refine e_12 (f_211 (pc := 161) (e := (161, 12, 0, 0, 0, 0, 0, 162)) rfl) rfl ?_
  refine e_130 (f_211 (pc := 162) (e := (162, 130, 212, 0, 11, 208, 1283, 165)) rfl) zA (as := [yr (some 102)]) (rest := []) rfl rfl rfl rfl (Nat.le_of_ble_eq_true rfl) (Nat.le_of_ble_eq_true rfl) ⟨_, _, _, rfl, (hT 102 rfl)⟩ (mc := 0) (ms := 0) (Nat.zero_le _) (Nat.zero_le _) ?_
  refine e_K ?_ F
  rintro r h' ⟨r3, I2, rfl, rfl, F⟩
  refine e_61 (f_211 (pc := 165) (e := (165, 61, 170, 0, 0, 0, 0, 168)) rfl) (fun c4 => ?_) (fun c4 => ?_)
  · replace F := F.1 c4
    refine e_lo [0] rfl ?_
    exact F
  · replace F := F.2 c4
    refine e_0 (f_211 (pc := 168) (e := (168, 0, 0, 0, 0, 0, 0, 169)) rfl) (v := 0) rfl ?_
    exact e_121 (f_211 (pc := 169) (e := (169, 121, 0, 0, 0, 0, 0, 170)) rfl) (.inl rfl) F
set_option maxRecDepth 20000 in
theorem Bx_211_170 (hT : yLT T) (hR : yLR R) (F : 0 ≤ (yadd 358 (I 102 18)) ∧ (yadd 358 (I 102 18)) < 458 ∧ (((I 105 (yadd 358 (I 102 18)).toNat) ≤ 0 → yW l zSS D cy zFk z (d + 1) 211 bc bs K 0 0 194 [(0, yr (some 102)), (1, yi (I 102 18))] [] (N, T, R, I)) ∧ (¬ ((I 105 (yadd 358 (I 102 18)).toNat) ≤ 0) → yW l zSS D cy zFk z d 159 0 0 (fun r h' => ∃ r5 I4, r = some (yi r5) ∧ h' = (N, T, R, I4) ∧ ((r5 = 0 ∨ r5 = 1) ∧ K (some (yi r5)) (N, T, R, I4))) 0 0 0 [(0, yr (some 102)), (1, yi 3)] [] (N, T, R, I)))) :
    yW l zSS D cy zFk z (d + 1) 211 bc bs K 0 0 170 [(0, yr (some 102))] [] (N, T, R, I) := by
  refine e_12 (f_211 (pc := 170) (e := (170, 12, 0, 0, 0, 0, 0, 171)) rfl) rfl ?_
  refine e_90 zA (f_211 (pc := 171) (e := (171, 90, 11, 18, 0, 197, 1281, 174)) rfl) rfl (hT 102 rfl) rfl rfl ?_
  refine e_20 (f_211 (pc := 174) (e := (174, 20, 1, 0, 0, 0, 0, 175)) rfl) ?_
  refine e_12 (f_211 (pc := 175) (e := (175, 12, 0, 0, 0, 0, 0, 176)) rfl) rfl ?_
  refine e_90r zA (f_211 (pc := 176) (e := (176, 90, 11, 7, 3, 37, 1160, 179)) rfl) rfl (hT 102 rfl) rfl rfl (hR 102 7 rfl) ?_
  refine e_2 (f_211 (pc := 179) (e := (179, 2, 358, 0, 0, 0, 0, 182)) rfl) (v := 358) rfl ?_
  refine e_10 (f_211 (pc := 182) (e := (182, 10, 1, 0, 0, 0, 0, 183)) rfl) rfl ?_
  refine e_30 (f_211 (pc := 183) (e := (183, 30, 0, 0, 0, 0, 0, 184)) rfl) ?_
  obtain ⟨b1, b2, F⟩ := F
  refine e_110 (f_211 (pc := 184) (e := (184, 110, 0, 0, 0, 0, 0, 185)) rfl) rfl (hT 105 rfl) b1 b2 ?_
  refine e_65 (f_211 (pc := 185) (e := (185, 65, 194, 0, 0, 0, 0, 188)) rfl) (fun c3 => ?_) (fun c3 => ?_)
  · replace F := F.1 c3
    refine e_lo [0, 1] rfl ?_
    exact F
  · replace F := F.2 c3
    refine e_12 (f_211 (pc := 188) (e := (188, 12, 0, 0, 0, 0, 0, 189)) rfl) rfl ?_
    refine e_0 (f_211 (pc := 189) (e := (189, 0, 3, 0, 0, 0, 0, 190)) rfl) (v := 3) rfl ?_
    refine e_130 (f_211 (pc := 190) (e := (190, 130, 159, 0, 11, 187, 1243, 193)) rfl) zA (as := [yr (some 102), yi 3]) (rest := []) rfl rfl rfl rfl (Nat.le_of_ble_eq_true rfl) (Nat.le_of_ble_eq_true rfl) ⟨_, _, _, rfl, (hT 102 rfl)⟩ (mc := 0) (ms := 0) (Nat.zero_le _) (Nat.zero_le _) ?_
    refine e_K ?_ F
    rintro r h' ⟨r5, I4, rfl, rfl, F⟩
    exact e_121 (f_211 (pc := 193) (e := (193, 121, 0, 0, 0, 0, 0, 194)) rfl) F.1 F.2
set_option maxRecDepth 20000 in
theorem Bx_211_194 (hT : yLT T) (hR : yLR R) {x1 : Int} (F : yW l zSS D cy zFk z d 182 0 0 (fun r h' => ∃ I1, r = none ∧ h' = (N, T, R, I1) ∧ (yW l zSS D cy zFk z d 172 0 0 (fun r h' => ∃ r3 I2, r = some (yi r3) ∧ h' = (N, T, R, I2) ∧ ((0 ≤ r3 → yW l zSS D cy zFk z (d + 1) 211 bc bs K 0 0 213 [(0, yr (some 102)), (1, yi x1), (2, yi r3)] [] (N, T, R, I2)) ∧ (¬ (0 ≤ r3) → yW l zSS D cy zFk z d 159 0 0 (fun r h' => ∃ r6 I5, r = some (yi r6) ∧ h' = (N, T, R, I5) ∧ ((r6 = 0 ∨ r6 = 1) ∧ K (some (yi r6)) (N, T, R, I5))) 0 0 0 [(0, yr (some 102)), (1, yi 1)] [] (N, T, R, I2)))) 0 0 0 [(0, yr (some 102))] [] (N, T, R, I1))) 0 0 0 [(0, yr (some 102))] [] (N, T, R, I)) :
    yW l zSS D cy zFk z (d + 1) 211 bc bs K 0 0 194 [(0, yr (some 102)), (1, yi x1)] [] (N, T, R, I) := by
  refine e_12 (f_211 (pc := 194) (e := (194, 12, 0, 0, 0, 0, 0, 195)) rfl) rfl ?_
  refine e_130 (f_211 (pc := 195) (e := (195, 130, 182, 0, 11, 190, 1224, 198)) rfl) zA (as := [yr (some 102)]) (rest := []) rfl rfl rfl rfl (Nat.le_of_ble_eq_true rfl) (Nat.le_of_ble_eq_true rfl) ⟨_, _, _, rfl, (hT 102 rfl)⟩ (mc := 0) (ms := 0) (Nat.zero_le _) (Nat.zero_le _) ?_
  refine e_K ?_ F
  rintro r h' ⟨I1, rfl, rfl, F⟩
  refine e_12 (f_211 (pc := 198) (e := (198, 12, 0, 0, 0, 0, 0, 199)) rfl) rfl ?_
  refine e_130 (f_211 (pc := 199) (e := (199, 130, 172, 0, 11, 222, 1284, 202)) rfl) zA (as := [yr (some 102)]) (rest := []) rfl rfl rfl rfl (Nat.le_of_ble_eq_true rfl) (Nat.le_of_ble_eq_true rfl) ⟨_, _, _, rfl, (hT 102 rfl)⟩ (mc := 0) (ms := 0) (Nat.zero_le _) (Nat.zero_le _) ?_
  refine e_K ?_ F
  rintro r h' ⟨r3, I2, rfl, rfl, F⟩
  refine e_20 (f_211 (pc := 202) (e := (202, 20, 2, 0, 0, 0, 0, 203)) rfl) ?_
  refine e_10 (f_211 (pc := 203) (e := (203, 10, 2, 0, 0, 0, 0, 204)) rfl) rfl ?_
  refine e_63 (f_211 (pc := 204) (e := (204, 63, 213, 0, 0, 0, 0, 207)) rfl) (fun c4 => ?_) (fun c4 => ?_)
  · replace F := F.1 c4
    refine e_lo [0, 1, 2] rfl ?_
    exact F
  · replace F := F.2 c4
    refine e_12 (f_211 (pc := 207) (e := (207, 12, 0, 0, 0, 0, 0, 208)) rfl) rfl ?_
    refine e_0 (f_211 (pc := 208) (e := (208, 0, 1, 0, 0, 0, 0, 209)) rfl) (v := 1) rfl ?_
    refine e_130 (f_211 (pc := 209) (e := (209, 130, 159, 0, 11, 187, 1243, 212)) rfl) zA (as := [yr (some 102), yi 1]) (rest := []) rfl rfl rfl rfl (Nat.le_of_ble_eq_true rfl) (Nat.le_of_ble_eq_true rfl) ⟨_, _, _, rfl, (hT 102 rfl)⟩ (mc := 0) (ms := 0) (Nat.zero_le _) (Nat.zero_le _) ?_
    refine e_K ?_ F
    rintro r h' ⟨r6, I5, rfl, rfl, F⟩
    exact e_121 (f_211 (pc := 212) (e := (212, 121, 0, 0, 0, 0, 0, 213)) rfl) F.1 F.2
set_option maxRecDepth 20000 in
theorem Bx_211_213 (hT : yLT T) (hR : yLR R) {x1 x2 : Int} (F : 0 ≤ (yadd 358 x1) ∧ (yadd 358 x1) < 458 ∧ (∀ I3, I3 = yU I 105 ((yadd 358 x1).toNat) (ynar 1 (yadd x2 1)) → (∀ I4, I4 = yU I3 102 20 (yadd (I3 102 20) 1) → (yW l zSS D cy zFk z d 182 0 0 (fun r h' => ∃ I5, r = none ∧ h' = (N, T, R, I5) ∧ (K (some (yi 1)) (N, T, R, I5))) 0 0 0 [(0, yr (some 102))] [] (N, T, R, I4))))) :
    yW l zSS D cy zFk z (d + 1) 211 bc bs K 0 0 213 [(0, yr (some 102)), (1, yi x1), (2, yi x2)] [] (N, T, R, I) := by
  refine e_12 (f_211 (pc := 213) (e := (213, 12, 0, 0, 0, 0, 0, 214)) rfl) rfl ?_
  refine e_90r zA (f_211 (pc := 214) (e := (214, 90, 11, 7, 3, 37, 1160, 217)) rfl) rfl (hT 102 rfl) rfl rfl (hR 102 7 rfl) ?_
  refine e_2 (f_211 (pc := 217) (e := (217, 2, 358, 0, 0, 0, 0, 220)) rfl) (v := 358) rfl ?_
  refine e_10 (f_211 (pc := 220) (e := (220, 10, 1, 0, 0, 0, 0, 221)) rfl) rfl ?_
  refine e_30 (f_211 (pc := 221) (e := (221, 30, 0, 0, 0, 0, 0, 222)) rfl) ?_
  refine e_10 (f_211 (pc := 222) (e := (222, 10, 2, 0, 0, 0, 0, 223)) rfl) rfl ?_
  refine e_0 (f_211 (pc := 223) (e := (223, 0, 1, 0, 0, 0, 0, 224)) rfl) (v := 1) rfl ?_
  refine e_30 (f_211 (pc := 224) (e := (224, 30, 0, 0, 0, 0, 0, 225)) rfl) ?_
  obtain ⟨b1, b2, F⟩ := F
  refine e_111 (f_211 (pc := 225) (e := (225, 111, 0, 0, 0, 0, 0, 226)) rfl) rfl (hT 105 rfl) b1 b2 ?_
  replace F := F _ rfl
  refine e_12 (f_211 (pc := 226) (e := (226, 12, 0, 0, 0, 0, 0, 227)) rfl) rfl ?_
  refine e_50 (f_211 (pc := 227) (e := (227, 50, 0, 0, 0, 0, 0, 228)) rfl) rfl ?_
  refine e_90 zA (f_211 (pc := 228) (e := (228, 90, 11, 20, 0, 219, 1220, 231)) rfl) rfl (hT 102 rfl) rfl rfl ?_
  refine e_0 (f_211 (pc := 231) (e := (231, 0, 1, 0, 0, 0, 0, 232)) rfl) (v := 1) rfl ?_
  refine e_30 (f_211 (pc := 232) (e := (232, 30, 0, 0, 0, 0, 0, 233)) rfl) ?_
  refine e_91 zA (f_211 (pc := 233) (e := (233, 91, 11, 20, 0, 219, 1220, 236)) rfl) rfl (hT 102 rfl) rfl rfl trivial ?_
  replace F := F _ rfl
  refine e_12 (f_211 (pc := 236) (e := (236, 12, 0, 0, 0, 0, 0, 237)) rfl) rfl ?_
  refine e_130 (f_211 (pc := 237) (e := (237, 130, 182, 0, 11, 190, 1224, 240)) rfl) zA (as := [yr (some 102)]) (rest := []) rfl rfl rfl rfl (Nat.le_of_ble_eq_true rfl) (Nat.le_of_ble_eq_true rfl) ⟨_, _, _, rfl, (hT 102 rfl)⟩ (mc := 0) (ms := 0) (Nat.zero_le _) (Nat.zero_le _) ?_
  refine e_K ?_ F
  rintro r h' ⟨I5, rfl, rfl, F⟩
  refine e_0 (f_211 (pc := 240) (e := (240, 0, 1, 0, 0, 0, 0, 241)) rfl) (v := 1) rfl ?_
  exact e_121 (f_211 (pc := 241) (e := (241, 121, 0, 0, 0, 0, 0, 242)) rfl) (.inr rfl) F
set_option maxRecDepth 20000 in
theorem Bx_211_242 (hT : yLT T) (hR : yLR R) (F : yW l zSS D cy zFk z d 199 0 0 (fun r h' => ∃ r2 I1, r = some (yi r2) ∧ h' = (N, T, R, I1) ∧ ((r2 = 0 → yW l zSS D cy zFk z (d + 1) 211 bc bs K 0 0 257 [(0, yr (some 102))] [] (N, T, R, I1)) ∧ (¬ (r2 = 0) → yW l zSS D cy zFk z d 229 0 0 (fun r h' => ∃ r5 I4, r = some (yi r5) ∧ h' = (N, T, R, I4) ∧ ((r5 = 0 ∨ r5 = 1) ∧ K (some (yi r5)) (N, T, R, I4))) 0 0 0 [(0, yr (some 102))] [] (N, T, R, I1)))) 0 0 0 [(0, yr (some 102)), (1, yj 426952976754)] [] (N, T, R, I)) :
    yW l zSS D cy zFk z (d + 1) 211 bc bs K 0 0 242 [(0, yr (some 102))] [] (N, T, R, I) := by
  refine e_12 (f_211 (pc := 242) (e := (242, 12, 0, 0, 0, 0, 0, 243)) rfl) rfl ?_
  refine e_5 (f_211 (pc := 243) (e := (243, 5, 426952976754, 0, 0, 113, 1187, 246)) rfl) (v := 426952976754) rfl ?_
  refine e_130 (f_211 (pc := 246) (e := (246, 130, 199, 0, 11, 204, 1238, 249)) rfl) zA (as := [yr (some 102), yj 426952976754]) (rest := []) rfl rfl rfl rfl (Nat.le_of_ble_eq_true rfl) (Nat.le_of_ble_eq_true rfl) ⟨_, _, _, rfl, (hT 102 rfl)⟩ (mc := 0) (ms := 0) (Nat.zero_le _) (Nat.zero_le _) ?_
  refine e_K ?_ F
  rintro r h' ⟨r2, I1, rfl, rfl, F⟩
  refine e_60 (f_211 (pc := 249) (e := (249, 60, 257, 0, 0, 0, 0, 252)) rfl) (fun c3 => ?_) (fun c3 => ?_)
  · replace F := F.1 c3
    refine e_lo [0] rfl ?_
    exact F
  · replace F := F.2 c3
    refine e_12 (f_211 (pc := 252) (e := (252, 12, 0, 0, 0, 0, 0, 253)) rfl) rfl ?_
    refine e_130 (f_211 (pc := 253) (e := (253, 130, 229, 0, 11, 225, 1285, 256)) rfl) zA (as := [yr (some 102)]) (rest := []) rfl rfl rfl rfl (Nat.le_of_ble_eq_true rfl) (Nat.le_of_ble_eq_true rfl) ⟨_, _, _, rfl, (hT 102 rfl)⟩ (mc := 0) (ms := 0) (Nat.zero_le _) (Nat.zero_le _) ?_
    refine e_K ?_ F
    rintro r h' ⟨r5, I4, rfl, rfl, F⟩
    exact e_121 (f_211 (pc := 256) (e := (256, 121, 0, 0, 0, 0, 0, 257)) rfl) F.1 F.2
set_option maxRecDepth 20000 in
theorem Bx_211_257 (hT : yLT T) (hR : yLR R) (F : yW l zSS D cy zFk z d 199 0 0 (fun r h' => ∃ r2 I1, r = some (yi r2) ∧ h' = (N, T, R, I1) ∧ ((r2 ≠ 0 → yW l zSS D cy zFk z (d + 1) 211 bc bs K 0 0 277 [(0, yr (some 102))] [] (N, T, R, I1)) ∧ (¬ (r2 ≠ 0) → yW l zSS D cy zFk z d 199 0 0 (fun r h' => ∃ r5 I4, r = some (yi r5) ∧ h' = (N, T, R, I4) ∧ ((r5 = 0 → yW l zSS D cy zFk z (d + 1) 211 bc bs K 0 0 418 [(0, yr (some 102))] [] (N, T, R, I4)) ∧ (¬ (r5 = 0) → yW l zSS D cy zFk z (d + 1) 211 bc bs K 0 0 277 [(0, yr (some 102))] [] (N, T, R, I4)))) 0 0 0 [(0, yr (some 102)), (1, yj 1936286571)] [] (N, T, R, I1)))) 0 0 0 [(0, yr (some 102)), (1, yj 495873782388)] [] (N, T, R, I)) :
    yW l zSS D cy zFk z (d + 1) 211 bc bs K 0 0 257 [(0, yr (some 102))] [] (N, T, R, I) := by
  refine e_12 (f_211 (pc := 257) (e := (257, 12, 0, 0, 0, 0, 0, 258)) rfl) rfl ?_
  refine e_5 (f_211 (pc := 258) (e := (258, 5, 495873782388, 0, 0, 115, 1188, 261)) rfl) (v := 495873782388) rfl ?_
  refine e_130 (f_211 (pc := 261) (e := (261, 130, 199, 0, 11, 204, 1238, 264)) rfl) zA (as := [yr (some 102), yj 495873782388]) (rest := []) rfl rfl rfl rfl (Nat.le_of_ble_eq_true rfl) (Nat.le_of_ble_eq_true rfl) ⟨_, _, _, rfl, (hT 102 rfl)⟩ (mc := 0) (ms := 0) (Nat.zero_le _) (Nat.zero_le _) ?_
  refine e_K ?_ F
  rintro r h' ⟨r2, I1, rfl, rfl, F⟩
  refine e_61 (f_211 (pc := 264) (e := (264, 61, 277, 0, 0, 0, 0, 267)) rfl) (fun c3 => ?_) (fun c3 => ?_)
  · replace F := F.1 c3
    refine e_lo [0] rfl ?_
    exact F
  · replace F := F.2 c3
    refine e_12 (f_211 (pc := 267) (e := (267, 12, 0, 0, 0, 0, 0, 268)) rfl) rfl ?_
    refine e_5 (f_211 (pc := 268) (e := (268, 5, 1936286571, 0, 0, 117, 1189, 271)) rfl) (v := 1936286571) rfl ?_
    refine e_130 (f_211 (pc := 271) (e := (271, 130, 199, 0, 11, 204, 1238, 274)) rfl) zA (as := [yr (some 102), yj 1936286571]) (rest := []) rfl rfl rfl rfl (Nat.le_of_ble_eq_true rfl) (Nat.le_of_ble_eq_true rfl) ⟨_, _, _, rfl, (hT 102 rfl)⟩ (mc := 0) (ms := 0) (Nat.zero_le _) (Nat.zero_le _) ?_
    refine e_K ?_ F
    rintro r h' ⟨r5, I4, rfl, rfl, F⟩
    refine e_60 (f_211 (pc := 274) (e := (274, 60, 418, 0, 0, 0, 0, 277)) rfl) (fun c6 => ?_) (fun c6 => ?_)
    · replace F := F.1 c6
      refine e_lo [0] rfl ?_
      exact F
    · replace F := F.2 c6
      refine e_lo [0] rfl ?_
      exact F
set_option maxRecDepth 20000 in
theorem Bx_211_277 (hT : yLT T) (hR : yLR R) (F : yW l zSS D cy zFk z d 199 0 0 (fun r h' => ∃ r2 I1, r = some (yi r2) ∧ h' = (N, T, R, I1) ∧ (yW l zSS D cy zFk z d 182 0 0 (fun r h' => ∃ I3, r = none ∧ h' = (N, T, R, I3) ∧ (yW l zSS D cy zFk z d 194 0 0 (fun r h' => ∃ r5 I4, r = some (yi r5) ∧ h' = (N, T, R, I4) ∧ ((r5 ≠ 0 → yW l zSS D cy zFk z (d + 1) 211 bc bs K 0 0 302 [(0, yr (some 102)), (1, yi r2)] [] (N, T, R, I4)) ∧ (¬ (r5 ≠ 0) → yW l zSS D cy zFk z d 159 0 0 (fun r h' => ∃ r8 I7, r = some (yi r8) ∧ h' = (N, T, R, I7) ∧ ((r8 = 0 ∨ r8 = 1) ∧ K (some (yi r8)) (N, T, R, I7))) 0 0 0 [(0, yr (some 102)), (1, yi 1)] [] (N, T, R, I4)))) 0 0 0 [(0, yr (some 102))] [] (N, T, R, I3))) 0 0 0 [(0, yr (some 102))] [] (N, T, R, I1))) 0 0 0 [(0, yr (some 102)), (1, yj 1936286571)] [] (N, T, R, I)) :
    yW l zSS D cy zFk z (d + 1) 211 bc bs K 0 0 277 [(0, yr (some 102))] [] (N, T, R, I) := by
  refine e_12 (f_211 (pc := 277) (e := (277, 12, 0, 0, 0, 0, 0, 278)) rfl) rfl ?_
  refine e_5 (f_211 (pc := 278) (e := (278, 5, 1936286571, 0, 0, 117, 1189, 281)) rfl) (v := 1936286571) rfl ?_
  refine e_130 (f_211 (pc := 281) (e := (281, 130, 199, 0, 11, 204, 1238, 284)) rfl) zA (as := [yr (some 102), yj 1936286571]) (rest := []) rfl rfl rfl rfl (Nat.le_of_ble_eq_true rfl) (Nat.le_of_ble_eq_true rfl) ⟨_, _, _, rfl, (hT 102 rfl)⟩ (mc := 0) (ms := 0) (Nat.zero_le _) (Nat.zero_le _) ?_
  refine e_K ?_ F
  rintro r h' ⟨r2, I1, rfl, rfl, F⟩
  refine e_20 (f_211 (pc := 284) (e := (284, 20, 1, 0, 0, 0, 0, 285)) rfl) ?_
  refine e_12 (f_211 (pc := 285) (e := (285, 12, 0, 0, 0, 0, 0, 286)) rfl) rfl ?_
  refine e_130 (f_211 (pc := 286) (e := (286, 130, 182, 0, 11, 190, 1224, 289)) rfl) zA (as := [yr (some 102)]) (rest := []) rfl rfl rfl rfl (Nat.le_of_ble_eq_true rfl) (Nat.le_of_ble_eq_true rfl) ⟨_, _, _, rfl, (hT 102 rfl)⟩ (mc := 0) (ms := 0) (Nat.zero_le _) (Nat.zero_le _) ?_
  refine e_K ?_ F
  rintro r h' ⟨I3, rfl, rfl, F⟩
  refine e_12 (f_211 (pc := 289) (e := (289, 12, 0, 0, 0, 0, 0, 290)) rfl) rfl ?_
  refine e_130 (f_211 (pc := 290) (e := (290, 130, 194, 0, 11, 228, 1286, 293)) rfl) zA (as := [yr (some 102)]) (rest := []) rfl rfl rfl rfl (Nat.le_of_ble_eq_true rfl) (Nat.le_of_ble_eq_true rfl) ⟨_, _, _, rfl, (hT 102 rfl)⟩ (mc := 0) (ms := 0) (Nat.zero_le _) (Nat.zero_le _) ?_
  refine e_K ?_ F
  rintro r h' ⟨r5, I4, rfl, rfl, F⟩
  refine e_61 (f_211 (pc := 293) (e := (293, 61, 302, 0, 0, 0, 0, 296)) rfl) (fun c6 => ?_) (fun c6 => ?_)
  · replace F := F.1 c6
    refine e_lo [0, 1] rfl ?_
    exact F
  · replace F := F.2 c6
    refine e_12 (f_211 (pc := 296) (e := (296, 12, 0, 0, 0, 0, 0, 297)) rfl) rfl ?_
    refine e_0 (f_211 (pc := 297) (e := (297, 0, 1, 0, 0, 0, 0, 298)) rfl) (v := 1) rfl ?_
    refine e_130 (f_211 (pc := 298) (e := (298, 130, 159, 0, 11, 187, 1243, 301)) rfl) zA (as := [yr (some 102), yi 1]) (rest := []) rfl rfl rfl rfl (Nat.le_of_ble_eq_true rfl) (Nat.le_of_ble_eq_true rfl) ⟨_, _, _, rfl, (hT 102 rfl)⟩ (mc := 0) (ms := 0) (Nat.zero_le _) (Nat.zero_le _) ?_
    refine e_K ?_ F
    rintro r h' ⟨r8, I7, rfl, rfl, F⟩
    exact e_121 (f_211 (pc := 301) (e := (301, 121, 0, 0, 0, 0, 0, 302)) rfl) F.1 F.2
set_option maxRecDepth 20000 in
theorem Bx_211_302 (hT : yLT T) (hR : yLR R) {x1 : Int} (F : yW l zSS D cy zFk z d 180 0 0 (fun r h' => ∃ r2 I1, r = some (yi r2) ∧ h' = (N, T, R, I1) ∧ ((r2 < 0 → yW l zSS D cy zFk z (d + 1) 211 bc bs K 0 0 351 [(0, yr (some 102))] [] (N, T, R, I1)) ∧ (¬ (r2 < 0) → (x1 = 0 → yW l zSS D cy zFk z (d + 1) 211 bc bs K 0 0 340 [(0, yr (some 102)), (1, yi x1), (2, yi r2)] [] (N, T, R, I1)) ∧ (¬ (x1 = 0) → 0 ≤ (yadd 342 r2) ∧ (yadd 342 r2) < 458 ∧ (((I1 105 (yadd 342 r2).toNat) ≠ 1 → yW l zSS D cy zFk z (d + 1) 211 bc bs K 0 0 357 [(0, yr (some 102)), (1, yi x1), (2, yi r2)] [] (N, T, R, I1)) ∧ (¬ ((I1 105 (yadd 342 r2).toNat) ≠ 1) → yW l zSS D cy zFk z (d + 1) 211 bc bs K 0 0 351 [(0, yr (some 102))] [] (N, T, R, I1))))))) 0 0 0 [(0, yr (some 102)), (1, yi 8), (2, yi (I 105 2))] [] (N, T, R, I)) :
    yW l zSS D cy zFk z (d + 1) 211 bc bs K 0 0 302 [(0, yr (some 102)), (1, yi x1)] [] (N, T, R, I) := by
  refine e_12 (f_211 (pc := 302) (e := (302, 12, 0, 0, 0, 0, 0, 303)) rfl) rfl ?_
  refine e_1 (f_211 (pc := 303) (e := (303, 1, 8, 0, 0, 0, 0, 305)) rfl) (v := 8) rfl ?_
  refine e_12 (f_211 (pc := 305) (e := (305, 12, 0, 0, 0, 0, 0, 306)) rfl) rfl ?_
  refine e_90r zA (f_211 (pc := 306) (e := (306, 90, 11, 7, 3, 37, 1160, 309)) rfl) rfl (hT 102 rfl) rfl rfl (hR 102 7 rfl) ?_
  refine e_0 (f_211 (pc := 309) (e := (309, 0, 2, 0, 0, 0, 0, 310)) rfl) (v := 2) rfl ?_
  refine e_110 (f_211 (pc := 310) (e := (310, 110, 0, 0, 0, 0, 0, 311)) rfl) rfl (hT 105 rfl) (by decide) (by decide) ?_
  refine e_130 (f_211 (pc := 311) (e := (311, 130, 180, 0, 11, 231, 1287, 314)) rfl) zA (as := [yr (some 102), yi 8, yi _]) (rest := []) rfl rfl rfl rfl (Nat.le_of_ble_eq_true rfl) (Nat.le_of_ble_eq_true rfl) ⟨_, _, _, rfl, (hT 102 rfl)⟩ (mc := 0) (ms := 0) (Nat.zero_le _) (Nat.zero_le _) ?_
  refine e_K ?_ F
  rintro r h' ⟨r2, I1, rfl, rfl, F⟩
  refine e_20 (f_211 (pc := 314) (e := (314, 20, 2, 0, 0, 0, 0, 315)) rfl) ?_
  refine e_10 (f_211 (pc := 315) (e := (315, 10, 2, 0, 0, 0, 0, 316)) rfl) rfl ?_
  refine e_62 (f_211 (pc := 316) (e := (316, 62, 351, 0, 0, 0, 0, 319)) rfl) (fun c3 => ?_) (fun c3 => ?_)
  · replace F := F.1 c3
    refine e_lo [0] rfl ?_
    exact F
  · replace F := F.2 c3
    refine e_10 (f_211 (pc := 319) (e := (319, 10, 1, 0, 0, 0, 0, 320)) rfl) rfl ?_
    refine e_60 (f_211 (pc := 320) (e := (320, 60, 340, 0, 0, 0, 0, 323)) rfl) (fun c4 => ?_) (fun c4 => ?_)
    · replace F := F.1 c4
      refine e_lo [0, 1, 2] rfl ?_
      exact F
    · replace F := F.2 c4
      refine e_12 (f_211 (pc := 323) (e := (323, 12, 0, 0, 0, 0, 0, 324)) rfl) rfl ?_
      refine e_90r zA (f_211 (pc := 324) (e := (324, 90, 11, 7, 3, 37, 1160, 327)) rfl) rfl (hT 102 rfl) rfl rfl (hR 102 7 rfl) ?_
      refine e_2 (f_211 (pc := 327) (e := (327, 2, 342, 0, 0, 0, 0, 330)) rfl) (v := 342) rfl ?_
      refine e_10 (f_211 (pc := 330) (e := (330, 10, 2, 0, 0, 0, 0, 331)) rfl) rfl ?_
      refine e_30 (f_211 (pc := 331) (e := (331, 30, 0, 0, 0, 0, 0, 332)) rfl) ?_
      obtain ⟨b5, b6, F⟩ := F
      refine e_110 (f_211 (pc := 332) (e := (332, 110, 0, 0, 0, 0, 0, 333)) rfl) rfl (hT 105 rfl) b5 b6 ?_
      refine e_0 (f_211 (pc := 333) (e := (333, 0, 1, 0, 0, 0, 0, 334)) rfl) (v := 1) rfl ?_
      refine e_71 (f_211 (pc := 334) (e := (334, 71, 357, 0, 0, 0, 0, 337)) rfl) (fun c7 => ?_) (fun c7 => ?_)
      · replace F := F.1 c7
        refine e_lo [0, 1, 2] rfl ?_
        exact F
      · replace F := F.2 c7
        refine e_80 (f_211 (pc := 337) (e := (337, 80, 351, 0, 0, 0, 0, 340)) rfl) ?_
        refine e_lo [0] rfl ?_
        exact F
set_option maxRecDepth 20000 in
theorem Bx_211_340 (hT : yLT T) (hR : yLR R) {x1 x2 : Int} (F : yW l zSS D cy zFk z d 164 0 0 (fun r h' => ∃ r2 I1, r = some (yi r2) ∧ h' = (N, T, R, I1) ∧ ((r2 = 0 → yW l zSS D cy zFk z (d + 1) 211 bc bs K 0 0 357 [(0, yr (some 102)), (1, yi x1), (2, yi x2)] [] (N, T, R, I1)) ∧ (¬ (r2 = 0) → yW l zSS D cy zFk z (d + 1) 211 bc bs K 0 0 351 [(0, yr (some 102))] [] (N, T, R, I1)))) 0 0 0 [(0, yi (I 102 21)), (1, yi x2)] [] (N, T, R, I)) :
    yW l zSS D cy zFk z (d + 1) 211 bc bs K 0 0 340 [(0, yr (some 102)), (1, yi x1), (2, yi x2)] [] (N, T, R, I) := by
  refine e_12 (f_211 (pc := 340) (e := (340, 12, 0, 0, 0, 0, 0, 341)) rfl) rfl ?_
  refine e_90 zA (f_211 (pc := 341) (e := (341, 90, 11, 21, 0, 235, 1221, 344)) rfl) rfl (hT 102 rfl) rfl rfl ?_
  refine e_10 (f_211 (pc := 344) (e := (344, 10, 2, 0, 0, 0, 0, 345)) rfl) rfl ?_
  refine e_132 (f_211 (pc := 345) (e := (345, 132, 164, 2, 11, 238, 1207, 348)) rfl) zA (as := [yi _, yi x2]) (rest := []) rfl rfl rfl rfl (Nat.le_of_ble_eq_true rfl) (Nat.le_of_ble_eq_true rfl) (mc := 0) (ms := 0) (Nat.zero_le _) (Nat.zero_le _) ?_
  refine e_K ?_ F
  rintro r h' ⟨r2, I1, rfl, rfl, F⟩
  refine e_60 (f_211 (pc := 348) (e := (348, 60, 357, 0, 0, 0, 0, 351)) rfl) (fun c3 => ?_) (fun c3 => ?_)
  · replace F := F.1 c3
    refine e_lo [0, 1, 2] rfl ?_
    exact F
  · replace F := F.2 c3
    refine e_lo [0] rfl ?_
    exact F
set_option maxRecDepth 20000 in
theorem Bx_211_351 (hT : yLT T) (hR : yLR R) (F : yW l zSS D cy zFk z d 159 0 0 (fun r h' => ∃ r2 I1, r = some (yi r2) ∧ h' = (N, T, R, I1) ∧ ((r2 = 0 ∨ r2 = 1) ∧ K (some (yi r2)) (N, T, R, I1))) 0 0 0 [(0, yr (some 102)), (1, yi 3)] [] (N, T, R, I)) :
    yW l zSS D cy zFk z (d + 1) 211 bc bs K 0 0 351 [(0, yr (some 102))] [] (N, T, R, I) := by
  refine e_12 (f_211 (pc := 351) (e := (351, 12, 0, 0, 0, 0, 0, 352)) rfl) rfl ?_
  refine e_0 (f_211 (pc := 352) (e := (352, 0, 3, 0, 0, 0, 0, 353)) rfl) (v := 3) rfl ?_
  refine e_130 (f_211 (pc := 353) (e := (353, 130, 159, 0, 11, 187, 1243, 356)) rfl) zA (as := [yr (some 102), yi 3]) (rest := []) rfl rfl rfl rfl (Nat.le_of_ble_eq_true rfl) (Nat.le_of_ble_eq_true rfl) ⟨_, _, _, rfl, (hT 102 rfl)⟩ (mc := 0) (ms := 0) (Nat.zero_le _) (Nat.zero_le _) ?_
  refine e_K ?_ F
  rintro r h' ⟨r2, I1, rfl, rfl, F⟩
  exact e_121 (f_211 (pc := 356) (e := (356, 121, 0, 0, 0, 0, 0, 357)) rfl) F.1 F.2
set_option maxRecDepth 20000 in
theorem Bx_211_357 (hT : yLT T) (hR : yLR R) {x1 x2 : Int} (F : yW l zSS D cy zFk z d 182 0 0 (fun r h' => ∃ I1, r = none ∧ h' = (N, T, R, I1) ∧ ((x1 = 0 → ∀ I3, I3 = yU I1 102 21 (yor (I1 102 21) (yshl 1 x2)) → (yW l zSS D cy zFk z d 245 0 0 (fun r h' => ∃ r5 I4, r = some (yi r5) ∧ h' = (N, T, R, I4) ∧ ((r5 ≠ 0 → 0 ≤ (yadd 350 x2) ∧ (yadd 350 x2) < 458 ∧ (∀ I9, I9 = yU I4 105 ((yadd 350 x2).toNat) (ynar 1 (I4 102 18)) → (K (some (yi 1)) (N, T, R, I9)))) ∧ (¬ (r5 ≠ 0) → K (some (yi 0)) (N, T, R, I4)))) 0 0 0 [(0, yr (some 102)), (1, yi 0), (2, yi 99)] [] (N, T, R, I3))) ∧ (¬ (x1 = 0) → 0 ≤ (yadd 342 x2) ∧ (yadd 342 x2) < 458 ∧ (∀ I12, I12 = yU I1 105 ((yadd 342 x2).toNat) (ynar 1 1) → (K (some (yi 1)) (N, T, R, I12)))))) 0 0 0 [(0, yr (some 102))] [] (N, T, R, I)) :
    yW l zSS D cy zFk z (d + 1) 211 bc bs K 0 0 357 [(0, yr (some 102)), (1, yi x1), (2, yi x2)] [] (N, T, R, I) := by
  refine e_12 (f_211 (pc := 357) (e := (357, 12, 0, 0, 0, 0, 0, 358)) rfl) rfl ?_
  refine e_130 (f_211 (pc := 358) (e := (358, 130, 182, 0, 11, 190, 1224, 361)) rfl) zA (as := [yr (some 102)]) (rest := []) rfl rfl rfl rfl (Nat.le_of_ble_eq_true rfl) (Nat.le_of_ble_eq_true rfl) ⟨_, _, _, rfl, (hT 102 rfl)⟩ (mc := 0) (ms := 0) (Nat.zero_le _) (Nat.zero_le _) ?_
  refine e_K ?_ F
  rintro r h' ⟨I1, rfl, rfl, F⟩
  refine e_10 (f_211 (pc := 361) (e := (361, 10, 1, 0, 0, 0, 0, 362)) rfl) rfl ?_
  refine e_60 (f_211 (pc := 362) (e := (362, 60, 378, 0, 0, 0, 0, 365)) rfl) (fun c2 => ?_) (fun c2 => ?_)
  · replace F := F.1 c2
    refine e_12 (f_211 (pc := 378) (e := (378, 12, 0, 0, 0, 0, 0, 379)) rfl) rfl ?_
    refine e_50 (f_211 (pc := 379) (e := (379, 50, 0, 0, 0, 0, 0, 380)) rfl) rfl ?_
    refine e_90 zA (f_211 (pc := 380) (e := (380, 90, 11, 21, 0, 235, 1221, 383)) rfl) rfl (hT 102 rfl) rfl rfl ?_
    refine e_0 (f_211 (pc := 383) (e := (383, 0, 1, 0, 0, 0, 0, 384)) rfl) (v := 1) rfl ?_
    refine e_10 (f_211 (pc := 384) (e := (384, 10, 2, 0, 0, 0, 0, 385)) rfl) rfl ?_
    refine e_38 (f_211 (pc := 385) (e := (385, 38, 0, 0, 0, 0, 0, 386)) rfl) ?_
    refine e_36 (f_211 (pc := 386) (e := (386, 36, 0, 0, 0, 0, 0, 387)) rfl) ?_
    refine e_91 zA (f_211 (pc := 387) (e := (387, 91, 11, 21, 0, 235, 1221, 390)) rfl) rfl (hT 102 rfl) rfl rfl trivial ?_
    replace F := F _ rfl
    refine e_12 (f_211 (pc := 390) (e := (390, 12, 0, 0, 0, 0, 0, 391)) rfl) rfl ?_
    refine e_0 (f_211 (pc := 391) (e := (391, 0, 0, 0, 0, 0, 0, 392)) rfl) (v := 0) rfl ?_
    refine e_1 (f_211 (pc := 392) (e := (392, 1, 99, 0, 0, 0, 0, 394)) rfl) (v := 99) rfl ?_
    refine e_130 (f_211 (pc := 394) (e := (394, 130, 245, 0, 11, 200, 1280, 397)) rfl) zA (as := [yr (some 102), yi 0, yi 99]) (rest := []) rfl rfl rfl rfl (Nat.le_of_ble_eq_true rfl) (Nat.le_of_ble_eq_true rfl) ⟨_, _, _, rfl, (hT 102 rfl)⟩ (mc := 0) (ms := 0) (Nat.zero_le _) (Nat.zero_le _) ?_
    refine e_K ?_ F
    rintro r h' ⟨r5, I4, rfl, rfl, F⟩
    refine e_61 (f_211 (pc := 397) (e := (397, 61, 402, 0, 0, 0, 0, 400)) rfl) (fun c6 => ?_) (fun c6 => ?_)
    · replace F := F.1 c6
      refine e_12 (f_211 (pc := 402) (e := (402, 12, 0, 0, 0, 0, 0, 403)) rfl) rfl ?_
      refine e_90r zA (f_211 (pc := 403) (e := (403, 90, 11, 7, 3, 37, 1160, 406)) rfl) rfl (hT 102 rfl) rfl rfl (hR 102 7 rfl) ?_
      refine e_2 (f_211 (pc := 406) (e := (406, 2, 350, 0, 0, 0, 0, 409)) rfl) (v := 350) rfl ?_
      refine e_10 (f_211 (pc := 409) (e := (409, 10, 2, 0, 0, 0, 0, 410)) rfl) rfl ?_
      refine e_30 (f_211 (pc := 410) (e := (410, 30, 0, 0, 0, 0, 0, 411)) rfl) ?_
      refine e_12 (f_211 (pc := 411) (e := (411, 12, 0, 0, 0, 0, 0, 412)) rfl) rfl ?_
      refine e_90 zA (f_211 (pc := 412) (e := (412, 90, 11, 18, 0, 197, 1281, 415)) rfl) rfl (hT 102 rfl) rfl rfl ?_
      obtain ⟨b7, b8, F⟩ := F
      refine e_111 (f_211 (pc := 415) (e := (415, 111, 0, 0, 0, 0, 0, 416)) rfl) rfl (hT 105 rfl) b7 b8 ?_
      replace F := F _ rfl
      refine e_0 (f_211 (pc := 416) (e := (416, 0, 1, 0, 0, 0, 0, 417)) rfl) (v := 1) rfl ?_
      exact e_121 (f_211 (pc := 417) (e := (417, 121, 0, 0, 0, 0, 0, 418)) rfl) (.inr rfl) F
    · replace F := F.2 c6
      refine e_0 (f_211 (pc := 400) (e := (400, 0, 0, 0, 0, 0, 0, 401)) rfl) (v := 0) rfl ?_
      exact e_121 (f_211 (pc := 401) (e := (401, 121, 0, 0, 0, 0, 0, 402)) rfl) (.inl rfl) F
  · replace F := F.2 c2
    refine e_12 (f_211 (pc := 365) (e := (365, 12, 0, 0, 0, 0, 0, 366)) rfl) rfl ?_
    refine e_90r zA (f_211 (pc := 366) (e := (366, 90, 11, 7, 3, 37, 1160, 369)) rfl) rfl (hT 102 rfl) rfl rfl (hR 102 7 rfl) ?_
    refine e_2 (f_211 (pc := 369) (e := (369, 2, 342, 0, 0, 0, 0, 372)) rfl) (v := 342) rfl ?_
    refine e_10 (f_211 (pc := 372) (e := (372, 10, 2, 0, 0, 0, 0, 373)) rfl) rfl ?_
    refine e_30 (f_211 (pc := 373) (e := (373, 30, 0, 0, 0, 0, 0, 374)) rfl) ?_
    refine e_0 (f_211 (pc := 374) (e := (374, 0, 1, 0, 0, 0, 0, 375)) rfl) (v := 1) rfl ?_
    obtain ⟨b10, b11, F⟩ := F
    refine e_111 (f_211 (pc := 375) (e := (375, 111, 0, 0, 0, 0, 0, 376)) rfl) rfl (hT 105 rfl) b10 b11 ?_
    replace F := F _ rfl
    refine e_0 (f_211 (pc := 376) (e := (376, 0, 1, 0, 0, 0, 0, 377)) rfl) (v := 1) rfl ?_
    exact e_121 (f_211 (pc := 377) (e := (377, 121, 0, 0, 0, 0, 0, 378)) rfl) (.inr rfl) F
set_option maxRecDepth 20000 in
theorem Bx_211_418 (hT : yLT T) (hR : yLR R) (F : yW l zSS D cy zFk z d 199 0 0 (fun r h' => ∃ r2 I1, r = some (yi r2) ∧ h' = (N, T, R, I1) ∧ ((r2 ≠ 0 → ((I1 102 23) = 0 → ∀ I5, I5 = yU I1 102 23 1 → (yW l zSS D cy zFk z d 182 0 0 (fun r h' => ∃ I6, r = none ∧ h' = (N, T, R, I6) ∧ (yW l zSS D cy zFk z (d + 1) 211 bc bs K 0 0 458 [(0, yr (some 102)), (1, yi 0)] [] (N, T, R, I6))) 0 0 0 [(0, yr (some 102))] [] (N, T, R, I5))) ∧ (¬ ((I1 102 23) = 0) → yW l zSS D cy zFk z d 159 0 0 (fun r h' => ∃ r8 I7, r = some (yi r8) ∧ h' = (N, T, R, I7) ∧ ((r8 = 0 ∨ r8 = 1) ∧ K (some (yi r8)) (N, T, R, I7))) 0 0 0 [(0, yr (some 102)), (1, yi 3)] [] (N, T, R, I1))) ∧ (¬ (r2 ≠ 0) → yW l zSS D cy zFk z d 159 0 0 (fun r h' => ∃ r10 I9, r = some (yi r10) ∧ h' = (N, T, R, I9) ∧ ((r10 = 0 ∨ r10 = 1) ∧ K (some (yi r10)) (N, T, R, I9))) 0 0 0 [(0, yr (some 102)), (1, yi 1)] [] (N, T, R, I1)))) 0 0 0 [(0, yr (some 102)), (1, yj 7102839)] [] (N, T, R, I)) :
    yW l zSS D cy zFk z (d + 1) 211 bc bs K 0 0 418 [(0, yr (some 102))] [] (N, T, R, I) := by
  refine e_12 (f_211 (pc := 418) (e := (418, 12, 0, 0, 0, 0, 0, 419)) rfl) rfl ?_
  refine e_5 (f_211 (pc := 419) (e := (419, 5, 7102839, 0, 0, 119, 1190, 422)) rfl) (v := 7102839) rfl ?_
  refine e_130 (f_211 (pc := 422) (e := (422, 130, 199, 0, 11, 204, 1238, 425)) rfl) zA (as := [yr (some 102), yj 7102839]) (rest := []) rfl rfl rfl rfl (Nat.le_of_ble_eq_true rfl) (Nat.le_of_ble_eq_true rfl) ⟨_, _, _, rfl, (hT 102 rfl)⟩ (mc := 0) (ms := 0) (Nat.zero_le _) (Nat.zero_le _) ?_
  refine e_K ?_ F
  rintro r h' ⟨r2, I1, rfl, rfl, F⟩
  refine e_61 (f_211 (pc := 425) (e := (425, 61, 434, 0, 0, 0, 0, 428)) rfl) (fun c3 => ?_) (fun c3 => ?_)
  · replace F := F.1 c3
    refine e_12 (f_211 (pc := 434) (e := (434, 12, 0, 0, 0, 0, 0, 435)) rfl) rfl ?_
    refine e_90 zA (f_211 (pc := 435) (e := (435, 90, 11, 23, 2, 241, 1223, 438)) rfl) rfl (hT 102 rfl) rfl rfl ?_
    refine e_60 (f_211 (pc := 438) (e := (438, 60, 447, 0, 0, 0, 0, 441)) rfl) (fun c4 => ?_) (fun c4 => ?_)
    · replace F := F.1 c4
      refine e_12 (f_211 (pc := 447) (e := (447, 12, 0, 0, 0, 0, 0, 448)) rfl) rfl ?_
      refine e_0 (f_211 (pc := 448) (e := (448, 0, 1, 0, 0, 0, 0, 449)) rfl) (v := 1) rfl ?_
      refine e_91 zA (f_211 (pc := 449) (e := (449, 91, 11, 23, 2, 241, 1223, 452)) rfl) rfl (hT 102 rfl) rfl rfl (.inr rfl) ?_
      replace F := F _ rfl
      refine e_12 (f_211 (pc := 452) (e := (452, 12, 0, 0, 0, 0, 0, 453)) rfl) rfl ?_
      refine e_130 (f_211 (pc := 453) (e := (453, 130, 182, 0, 11, 190, 1224, 456)) rfl) zA (as := [yr (some 102)]) (rest := []) rfl rfl rfl rfl (Nat.le_of_ble_eq_true rfl) (Nat.le_of_ble_eq_true rfl) ⟨_, _, _, rfl, (hT 102 rfl)⟩ (mc := 0) (ms := 0) (Nat.zero_le _) (Nat.zero_le _) ?_
      refine e_K ?_ F
      rintro r h' ⟨I6, rfl, rfl, F⟩
      refine e_0 (f_211 (pc := 456) (e := (456, 0, 0, 0, 0, 0, 0, 457)) rfl) (v := 0) rfl ?_
      refine e_20 (f_211 (pc := 457) (e := (457, 20, 1, 0, 0, 0, 0, 458)) rfl) ?_
      refine e_lo [0, 1] rfl ?_
      exact F
    · replace F := F.2 c4
      refine e_12 (f_211 (pc := 441) (e := (441, 12, 0, 0, 0, 0, 0, 442)) rfl) rfl ?_
      refine e_0 (f_211 (pc := 442) (e := (442, 0, 3, 0, 0, 0, 0, 443)) rfl) (v := 3) rfl ?_
      refine e_130 (f_211 (pc := 443) (e := (443, 130, 159, 0, 11, 187, 1243, 446)) rfl) zA (as := [yr (some 102), yi 3]) (rest := []) rfl rfl rfl rfl (Nat.le_of_ble_eq_true rfl) (Nat.le_of_ble_eq_true rfl) ⟨_, _, _, rfl, (hT 102 rfl)⟩ (mc := 0) (ms := 0) (Nat.zero_le _) (Nat.zero_le _) ?_
      refine e_K ?_ F
      rintro r h' ⟨r8, I7, rfl, rfl, F⟩
      exact e_121 (f_211 (pc := 446) (e := (446, 121, 0, 0, 0, 0, 0, 447)) rfl) F.1 F.2
  · replace F := F.2 c3
    refine e_12 (f_211 (pc := 428) (e := (428, 12, 0, 0, 0, 0, 0, 429)) rfl) rfl ?_
    refine e_0 (f_211 (pc := 429) (e := (429, 0, 1, 0, 0, 0, 0, 430)) rfl) (v := 1) rfl ?_
    refine e_130 (f_211 (pc := 430) (e := (430, 130, 159, 0, 11, 187, 1243, 433)) rfl) zA (as := [yr (some 102), yi 1]) (rest := []) rfl rfl rfl rfl (Nat.le_of_ble_eq_true rfl) (Nat.le_of_ble_eq_true rfl) ⟨_, _, _, rfl, (hT 102 rfl)⟩ (mc := 0) (ms := 0) (Nat.zero_le _) (Nat.zero_le _) ?_
    refine e_K ?_ F
    rintro r h' ⟨r10, I9, rfl, rfl, F⟩
    exact e_121 (f_211 (pc := 433) (e := (433, 121, 0, 0, 0, 0, 0, 434)) rfl) F.1 F.2
set_option maxRecDepth 20000 in
theorem Bx_211_458 (hT : yLT T) (hR : yLR R) {x1 : Int} (F : (x1 = 0 → yW l zSS D cy zFk z (d + 1) 211 bc bs K 0 0 471 [(0, yr (some 102)), (1, yi x1)] [] (N, T, R, I)) ∧ (¬ (x1 = 0) → yW l zSS D cy zFk z d 196 0 0 (fun r h' => ∃ r3 I2, r = some (yi r3) ∧ h' = (N, T, R, I2) ∧ ((r3 ≠ 0 → K (some (yi 1)) (N, T, R, I2)) ∧ (¬ (r3 ≠ 0) → yW l zSS D cy zFk z (d + 1) 211 bc bs K 0 0 471 [(0, yr (some 102)), (1, yi x1)] [] (N, T, R, I2)))) 0 0 0 [(0, yr (some 102)), (1, yi 59)] [] (N, T, R, I))) :
    yW l zSS D cy zFk z (d + 1) 211 bc bs K 0 0 458 [(0, yr (some 102)), (1, yi x1)] [] (N, T, R, I) := by
  refine e_10 (f_211 (pc := 458) (e := (458, 10, 1, 0, 0, 0, 0, 459)) rfl) rfl ?_
  refine e_60 (f_211 (pc := 459) (e := (459, 60, 471, 0, 0, 0, 0, 462)) rfl) (fun c1 => ?_) (fun c1 => ?_)
  · replace F := F.1 c1
    refine e_lo [0, 1] rfl ?_
    exact F
  · replace F := F.2 c1
    refine e_12 (f_211 (pc := 462) (e := (462, 12, 0, 0, 0, 0, 0, 463)) rfl) rfl ?_
    refine e_1 (f_211 (pc := 463) (e := (463, 1, 59, 0, 0, 0, 0, 465)) rfl) (v := 59) rfl ?_
    refine e_130 (f_211 (pc := 465) (e := (465, 130, 196, 0, 11, 184, 1242, 468)) rfl) zA (as := [yr (some 102), yi 59]) (rest := []) rfl rfl rfl rfl (Nat.le_of_ble_eq_true rfl) (Nat.le_of_ble_eq_true rfl) ⟨_, _, _, rfl, (hT 102 rfl)⟩ (mc := 0) (ms := 0) (Nat.zero_le _) (Nat.zero_le _) ?_
    refine e_K ?_ F
    rintro r h' ⟨r3, I2, rfl, rfl, F⟩
    refine e_61 (f_211 (pc := 468) (e := (468, 61, 579, 0, 0, 0, 0, 471)) rfl) (fun c4 => ?_) (fun c4 => ?_)
    · replace F := F.1 c4
      refine e_0 (f_211 (pc := 579) (e := (579, 0, 1, 0, 0, 0, 0, 580)) rfl) (v := 1) rfl ?_
      exact e_121 (f_211 (pc := 580) (e := (580, 121, 0, 0, 0, 0, 0, 0)) rfl) (.inr rfl) F
    · replace F := F.2 c4
      refine e_lo [0, 1] rfl ?_
      exact F
set_option maxRecDepth 20000 in
theorem Bx_211_471 (hT : yLT T) (hR : yLR R) {x1 : Int} (F : yW l zSS D cy zFk z d 199 0 0 (fun r h' => ∃ r2 I1, r = some (yi r2) ∧ h' = (N, T, R, I1) ∧ ((r2 = 0 → yW l zSS D cy zFk z d 199 0 0 (fun r h' => ∃ r5 I4, r = some (yi r5) ∧ h' = (N, T, R, I4) ∧ ((r5 = 0 → yW l zSS D cy zFk z d 199 0 0 (fun r h' => ∃ r8 I7, r = some (yi r8) ∧ h' = (N, T, R, I7) ∧ ((r8 = 0 → yW l zSS D cy zFk z d 159 0 0 (fun r h' => ∃ r11 I10, r = some (yi r11) ∧ h' = (N, T, R, I10) ∧ ((r11 = 0 ∨ r11 = 1) ∧ K (some (yi r11)) (N, T, R, I10))) 0 0 0 [(0, yr (some 102)), (1, yi 1)] [] (N, T, R, I7)) ∧ (¬ (r8 = 0) → yW l zSS D cy zFk z d 164 0 0 (fun r h' => ∃ r13 I12, r = some (yi r13) ∧ h' = (N, T, R, I12) ∧ ((r13 = 0 → 0 ≤ (yadd 7 (I12 105 6)) ∧ (yadd 7 (I12 105 6)) < 458 ∧ (∀ I17, I17 = yU I12 105 ((yadd 7 (I12 105 6)).toNat) (ynar 1 2) → (∀ I18, I18 = yU I17 105 6 (ynar 1 (yadd (I17 105 6) 1)) → (yW l zSS D cy zFk z d 182 0 0 (fun r h' => ∃ I19, r = none ∧ h' = (N, T, R, I19) ∧ (yW l zSS D cy zFk z (d + 1) 211 bc bs K 0 0 458 [(0, yr (some 102)), (1, yi (yor x1 (yshl 1 2)))] [] (N, T, R, I19))) 0 0 0 [(0, yr (some 102))] [] (N, T, R, I18))))) ∧ (¬ (r13 = 0) → yW l zSS D cy zFk z d 159 0 0 (fun r h' => ∃ r21 I20, r = some (yi r21) ∧ h' = (N, T, R, I20) ∧ ((r21 = 0 ∨ r21 = 1) ∧ K (some (yi r21)) (N, T, R, I20))) 0 0 0 [(0, yr (some 102)), (1, yi 3)] [] (N, T, R, I12)))) 0 0 0 [(0, yi x1), (1, yi 2)] [] (N, T, R, I7)))) 0 0 0 [(0, yr (some 102)), (1, yj 1668246885)] [] (N, T, R, I4)) ∧ (¬ (r5 = 0) → yW l zSS D cy zFk z d 164 0 0 (fun r h' => ∃ r23 I22, r = some (yi r23) ∧ h' = (N, T, R, I22) ∧ ((r23 = 0 → 0 ≤ (yadd 7 (I22 105 6)) ∧ (yadd 7 (I22 105 6)) < 458 ∧ (∀ I27, I27 = yU I22 105 ((yadd 7 (I22 105 6)).toNat) (ynar 1 1) → (∀ I28, I28 = yU I27 105 6 (ynar 1 (yadd (I27 105 6) 1)) → (yW l zSS D cy zFk z d 182 0 0 (fun r h' => ∃ I29, r = none ∧ h' = (N, T, R, I29) ∧ (yW l zSS D cy zFk z (d + 1) 211 bc bs K 0 0 458 [(0, yr (some 102)), (1, yi (yor x1 (yshl 1 1)))] [] (N, T, R, I29))) 0 0 0 [(0, yr (some 102))] [] (N, T, R, I28))))) ∧ (¬ (r23 = 0) → yW l zSS D cy zFk z d 159 0 0 (fun r h' => ∃ r31 I30, r = some (yi r31) ∧ h' = (N, T, R, I30) ∧ ((r31 = 0 ∨ r31 = 1) ∧ K (some (yi r31)) (N, T, R, I30))) 0 0 0 [(0, yr (some 102)), (1, yi 3)] [] (N, T, R, I22)))) 0 0 0 [(0, yi x1), (1, yi 1)] [] (N, T, R, I4)))) 0 0 0 [(0, yr (some 102)), (1, yj 1819238756)] [] (N, T, R, I1)) ∧ (¬ (r2 = 0) → yW l zSS D cy zFk z d 164 0 0 (fun r h' => ∃ r33 I32, r = some (yi r33) ∧ h' = (N, T, R, I32) ∧ ((r33 = 0 → 0 ≤ (yadd 7 (I32 105 6)) ∧ (yadd 7 (I32 105 6)) < 458 ∧ (∀ I37, I37 = yU I32 105 ((yadd 7 (I32 105 6)).toNat) (ynar 1 0) → (∀ I38, I38 = yU I37 105 6 (ynar 1 (yadd (I37 105 6) 1)) → (yW l zSS D cy zFk z d 182 0 0 (fun r h' => ∃ I39, r = none ∧ h' = (N, T, R, I39) ∧ (yW l zSS D cy zFk z (d + 1) 211 bc bs K 0 0 458 [(0, yr (some 102)), (1, yi (yor x1 (yshl 1 0)))] [] (N, T, R, I39))) 0 0 0 [(0, yr (some 102))] [] (N, T, R, I38))))) ∧ (¬ (r33 = 0) → yW l zSS D cy zFk z d 159 0 0 (fun r h' => ∃ r41 I40, r = some (yi r41) ∧ h' = (N, T, R, I40) ∧ ((r41 = 0 ∨ r41 = 1) ∧ K (some (yi r41)) (N, T, R, I40))) 0 0 0 [(0, yr (some 102)), (1, yi 3)] [] (N, T, R, I32)))) 0 0 0 [(0, yi x1), (1, yi 0)] [] (N, T, R, I1)))) 0 0 0 [(0, yr (some 102)), (1, yj 1918987883)] [] (N, T, R, I)) :
    yW l zSS D cy zFk z (d + 1) 211 bc bs K 0 0 471 [(0, yr (some 102)), (1, yi x1)] [] (N, T, R, I) := by
  refine e_12 (f_211 (pc := 471) (e := (471, 12, 0, 0, 0, 0, 0, 472)) rfl) rfl ?_
  refine e_5 (f_211 (pc := 472) (e := (472, 5, 1918987883, 0, 0, 121, 1191, 475)) rfl) (v := 1918987883) rfl ?_
  refine e_130 (f_211 (pc := 475) (e := (475, 130, 199, 0, 11, 204, 1238, 478)) rfl) zA (as := [yr (some 102), yj 1918987883]) (rest := []) rfl rfl rfl rfl (Nat.le_of_ble_eq_true rfl) (Nat.le_of_ble_eq_true rfl) ⟨_, _, _, rfl, (hT 102 rfl)⟩ (mc := 0) (ms := 0) (Nat.zero_le _) (Nat.zero_le _) ?_
  refine e_K ?_ F
  rintro r h' ⟨r2, I1, rfl, rfl, F⟩
  refine e_60 (f_211 (pc := 478) (e := (478, 60, 485, 0, 0, 0, 0, 481)) rfl) (fun c3 => ?_) (fun c3 => ?_)
  · replace F := F.1 c3
    refine e_12 (f_211 (pc := 485) (e := (485, 12, 0, 0, 0, 0, 0, 486)) rfl) rfl ?_
    refine e_5 (f_211 (pc := 486) (e := (486, 5, 1819238756, 0, 0, 123, 1192, 489)) rfl) (v := 1819238756) rfl ?_
    refine e_130 (f_211 (pc := 489) (e := (489, 130, 199, 0, 11, 204, 1238, 492)) rfl) zA (as := [yr (some 102), yj 1819238756]) (rest := []) rfl rfl rfl rfl (Nat.le_of_ble_eq_true rfl) (Nat.le_of_ble_eq_true rfl) ⟨_, _, _, rfl, (hT 102 rfl)⟩ (mc := 0) (ms := 0) (Nat.zero_le _) (Nat.zero_le _) ?_
    refine e_K ?_ F
    rintro r h' ⟨r5, I4, rfl, rfl, F⟩
    refine e_60 (f_211 (pc := 492) (e := (492, 60, 499, 0, 0, 0, 0, 495)) rfl) (fun c6 => ?_) (fun c6 => ?_)
    · replace F := F.1 c6
      refine e_12 (f_211 (pc := 499) (e := (499, 12, 0, 0, 0, 0, 0, 500)) rfl) rfl ?_
      refine e_5 (f_211 (pc := 500) (e := (500, 5, 1668246885, 0, 0, 125, 1193, 503)) rfl) (v := 1668246885) rfl ?_
      refine e_130 (f_211 (pc := 503) (e := (503, 130, 199, 0, 11, 204, 1238, 506)) rfl) zA (as := [yr (some 102), yj 1668246885]) (rest := []) rfl rfl rfl rfl (Nat.le_of_ble_eq_true rfl) (Nat.le_of_ble_eq_true rfl) ⟨_, _, _, rfl, (hT 102 rfl)⟩ (mc := 0) (ms := 0) (Nat.zero_le _) (Nat.zero_le _) ?_
      refine e_K ?_ F
      rintro r h' ⟨r8, I7, rfl, rfl, F⟩
      refine e_60 (f_211 (pc := 506) (e := (506, 60, 513, 0, 0, 0, 0, 509)) rfl) (fun c9 => ?_) (fun c9 => ?_)
      · replace F := F.1 c9
        refine e_0 (f_211 (pc := 513) (e := (513, 0, 4294967295, 0, 0, 0, 0, 514)) rfl) (v := (-1)) rfl ?_
        refine e_20 (f_211 (pc := 514) (e := (514, 20, 2, 0, 0, 0, 0, 515)) rfl) ?_
        refine e_10 (f_211 (pc := 515) (e := (515, 10, 2, 0, 0, 0, 0, 516)) rfl) rfl ?_
        refine e_63 (f_211 (pc := 516) (e := (516, 63, 525, 0, 0, 0, 0, 519)) rfl) (fun g => absurd g (by decide)) (fun _ => ?_)
        refine e_12 (f_211 (pc := 519) (e := (519, 12, 0, 0, 0, 0, 0, 520)) rfl) rfl ?_
        refine e_0 (f_211 (pc := 520) (e := (520, 0, 1, 0, 0, 0, 0, 521)) rfl) (v := 1) rfl ?_
        refine e_130 (f_211 (pc := 521) (e := (521, 130, 159, 0, 11, 187, 1243, 524)) rfl) zA (as := [yr (some 102), yi 1]) (rest := []) rfl rfl rfl rfl (Nat.le_of_ble_eq_true rfl) (Nat.le_of_ble_eq_true rfl) ⟨_, _, _, rfl, (hT 102 rfl)⟩ (mc := 0) (ms := 0) (Nat.zero_le _) (Nat.zero_le _) ?_
        refine e_K ?_ F
        rintro r h' ⟨r11, I10, rfl, rfl, F⟩
        exact e_121 (f_211 (pc := 524) (e := (524, 121, 0, 0, 0, 0, 0, 525)) rfl) F.1 F.2
      · replace F := F.2 c9
        refine e_0 (f_211 (pc := 509) (e := (509, 0, 2, 0, 0, 0, 0, 510)) rfl) (v := 2) rfl ?_
        refine e_80 (f_211 (pc := 510) (e := (510, 80, 514, 0, 0, 0, 0, 513)) rfl) ?_
        refine e_20 (f_211 (pc := 514) (e := (514, 20, 2, 0, 0, 0, 0, 515)) rfl) ?_
        refine e_10 (f_211 (pc := 515) (e := (515, 10, 2, 0, 0, 0, 0, 516)) rfl) rfl ?_
        refine e_63 (f_211 (pc := 516) (e := (516, 63, 525, 0, 0, 0, 0, 519)) rfl) (fun _ => ?_) (fun g => absurd (by decide) g)
        refine e_10 (f_211 (pc := 525) (e := (525, 10, 1, 0, 0, 0, 0, 526)) rfl) rfl ?_
        refine e_10 (f_211 (pc := 526) (e := (526, 10, 2, 0, 0, 0, 0, 527)) rfl) rfl ?_
        refine e_132 (f_211 (pc := 527) (e := (527, 132, 164, 2, 11, 238, 1207, 530)) rfl) zA (as := [yi x1, yi 2]) (rest := []) rfl rfl rfl rfl (Nat.le_of_ble_eq_true rfl) (Nat.le_of_ble_eq_true rfl) (mc := 0) (ms := 0) (Nat.zero_le _) (Nat.zero_le _) ?_
        refine e_K ?_ F
        rintro r h' ⟨r13, I12, rfl, rfl, F⟩
        refine e_60 (f_211 (pc := 530) (e := (530, 60, 539, 0, 0, 0, 0, 533)) rfl) (fun c14 => ?_) (fun c14 => ?_)
        · replace F := F.1 c14
          refine e_10 (f_211 (pc := 539) (e := (539, 10, 1, 0, 0, 0, 0, 540)) rfl) rfl ?_
          refine e_0 (f_211 (pc := 540) (e := (540, 0, 1, 0, 0, 0, 0, 541)) rfl) (v := 1) rfl ?_
          refine e_10 (f_211 (pc := 541) (e := (541, 10, 2, 0, 0, 0, 0, 542)) rfl) rfl ?_
          refine e_38 (f_211 (pc := 542) (e := (542, 38, 0, 0, 0, 0, 0, 543)) rfl) ?_
          refine e_36 (f_211 (pc := 543) (e := (543, 36, 0, 0, 0, 0, 0, 544)) rfl) ?_
          refine e_20 (f_211 (pc := 544) (e := (544, 20, 1, 0, 0, 0, 0, 545)) rfl) ?_
          refine e_12 (f_211 (pc := 545) (e := (545, 12, 0, 0, 0, 0, 0, 546)) rfl) rfl ?_
          refine e_90r zA (f_211 (pc := 546) (e := (546, 90, 11, 7, 3, 37, 1160, 549)) rfl) rfl (hT 102 rfl) rfl rfl (hR 102 7 rfl) ?_
          refine e_1 (f_211 (pc := 549) (e := (549, 1, 7, 0, 0, 0, 0, 551)) rfl) (v := 7) rfl ?_
          refine e_12 (f_211 (pc := 551) (e := (551, 12, 0, 0, 0, 0, 0, 552)) rfl) rfl ?_
          refine e_90r zA (f_211 (pc := 552) (e := (552, 90, 11, 7, 3, 37, 1160, 555)) rfl) rfl (hT 102 rfl) rfl rfl (hR 102 7 rfl) ?_
          refine e_1 (f_211 (pc := 555) (e := (555, 1, 6, 0, 0, 0, 0, 557)) rfl) (v := 6) rfl ?_
          refine e_110 (f_211 (pc := 557) (e := (557, 110, 0, 0, 0, 0, 0, 558)) rfl) rfl (hT 105 rfl) (by decide) (by decide) ?_
          refine e_30 (f_211 (pc := 558) (e := (558, 30, 0, 0, 0, 0, 0, 559)) rfl) ?_
          refine e_10 (f_211 (pc := 559) (e := (559, 10, 2, 0, 0, 0, 0, 560)) rfl) rfl ?_
          obtain ⟨b15, b16, F⟩ := F
          refine e_111 (f_211 (pc := 560) (e := (560, 111, 0, 0, 0, 0, 0, 561)) rfl) rfl (hT 105 rfl) b15 b16 ?_
          replace F := F _ rfl
          refine e_12 (f_211 (pc := 561) (e := (561, 12, 0, 0, 0, 0, 0, 562)) rfl) rfl ?_
          refine e_90r zA (f_211 (pc := 562) (e := (562, 90, 11, 7, 3, 37, 1160, 565)) rfl) rfl (hT 102 rfl) rfl rfl (hR 102 7 rfl) ?_
          refine e_1 (f_211 (pc := 565) (e := (565, 1, 6, 0, 0, 0, 0, 567)) rfl) (v := 6) rfl ?_
          refine e_51 (f_211 (pc := 567) (e := (567, 51, 0, 0, 0, 0, 0, 568)) rfl) rfl rfl ?_
          refine e_110 (f_211 (pc := 568) (e := (568, 110, 0, 0, 0, 0, 0, 569)) rfl) rfl (hT 105 rfl) (by decide) (by decide) ?_
          refine e_0 (f_211 (pc := 569) (e := (569, 0, 1, 0, 0, 0, 0, 570)) rfl) (v := 1) rfl ?_
          refine e_30 (f_211 (pc := 570) (e := (570, 30, 0, 0, 0, 0, 0, 571)) rfl) ?_
          refine e_111 (f_211 (pc := 571) (e := (571, 111, 0, 0, 0, 0, 0, 572)) rfl) rfl (hT 105 rfl) (by decide) (by decide) ?_
          replace F := F _ rfl
          refine e_12 (f_211 (pc := 572) (e := (572, 12, 0, 0, 0, 0, 0, 573)) rfl) rfl ?_
          refine e_130 (f_211 (pc := 573) (e := (573, 130, 182, 0, 11, 190, 1224, 576)) rfl) zA (as := [yr (some 102)]) (rest := []) rfl rfl rfl rfl (Nat.le_of_ble_eq_true rfl) (Nat.le_of_ble_eq_true rfl) ⟨_, _, _, rfl, (hT 102 rfl)⟩ (mc := 0) (ms := 0) (Nat.zero_le _) (Nat.zero_le _) ?_
          refine e_K ?_ F
          rintro r h' ⟨I19, rfl, rfl, F⟩
          refine e_80 (f_211 (pc := 576) (e := (576, 80, 458, 0, 0, 0, 0, 579)) rfl) ?_
          refine e_lo [0, 1] rfl ?_
          exact F
        · replace F := F.2 c14
          refine e_12 (f_211 (pc := 533) (e := (533, 12, 0, 0, 0, 0, 0, 534)) rfl) rfl ?_
          refine e_0 (f_211 (pc := 534) (e := (534, 0, 3, 0, 0, 0, 0, 535)) rfl) (v := 3) rfl ?_
          refine e_130 (f_211 (pc := 535) (e := (535, 130, 159, 0, 11, 187, 1243, 538)) rfl) zA (as := [yr (some 102), yi 3]) (rest := []) rfl rfl rfl rfl (Nat.le_of_ble_eq_true rfl) (Nat.le_of_ble_eq_true rfl) ⟨_, _, _, rfl, (hT 102 rfl)⟩ (mc := 0) (ms := 0) (Nat.zero_le _) (Nat.zero_le _) ?_
          refine e_K ?_ F
          rintro r h' ⟨r21, I20, rfl, rfl, F⟩
          exact e_121 (f_211 (pc := 538) (e := (538, 121, 0, 0, 0, 0, 0, 539)) rfl) F.1 F.2
    · replace F := F.2 c6
      refine e_0 (f_211 (pc := 495) (e := (495, 0, 1, 0, 0, 0, 0, 496)) rfl) (v := 1) rfl ?_
      refine e_80 (f_211 (pc := 496) (e := (496, 80, 514, 0, 0, 0, 0, 499)) rfl) ?_
      refine e_20 (f_211 (pc := 514) (e := (514, 20, 2, 0, 0, 0, 0, 515)) rfl) ?_
      refine e_10 (f_211 (pc := 515) (e := (515, 10, 2, 0, 0, 0, 0, 516)) rfl) rfl ?_
      refine e_63 (f_211 (pc := 516) (e := (516, 63, 525, 0, 0, 0, 0, 519)) rfl) (fun _ => ?_) (fun g => absurd (by decide) g)
      refine e_10 (f_211 (pc := 525) (e := (525, 10, 1, 0, 0, 0, 0, 526)) rfl) rfl ?_
      refine e_10 (f_211 (pc := 526) (e := (526, 10, 2, 0, 0, 0, 0, 527)) rfl) rfl ?_
      refine e_132 (f_211 (pc := 527) (e := (527, 132, 164, 2, 11, 238, 1207, 530)) rfl) zA (as := [yi x1, yi 1]) (rest := []) rfl rfl rfl rfl (Nat.le_of_ble_eq_true rfl) (Nat.le_of_ble_eq_true rfl) (mc := 0) (ms := 0) (Nat.zero_le _) (Nat.zero_le _) ?_
      refine e_K ?_ F
      rintro r h' ⟨r23, I22, rfl, rfl, F⟩
      refine e_60 (f_211 (pc := 530) (e := (530, 60, 539, 0, 0, 0, 0, 533)) rfl) (fun c24 => ?_) (fun c24 => ?_)
      · replace F := F.1 c24
        refine e_10 (f_211 (pc := 539) (e := (539, 10, 1, 0, 0, 0, 0, 540)) rfl) rfl ?_
        refine e_0 (f_211 (pc := 540) (e := (540, 0, 1, 0, 0, 0, 0, 541)) rfl) (v := 1) rfl ?_
        refine e_10 (f_211 (pc := 541) (e := (541, 10, 2, 0, 0, 0, 0, 542)) rfl) rfl ?_
        refine e_38 (f_211 (pc := 542) (e := (542, 38, 0, 0, 0, 0, 0, 543)) rfl) ?_
        refine e_36 (f_211 (pc := 543) (e := (543, 36, 0, 0, 0, 0, 0, 544)) rfl) ?_
        refine e_20 (f_211 (pc := 544) (e := (544, 20, 1, 0, 0, 0, 0, 545)) rfl) ?_
        refine e_12 (f_211 (pc := 545) (e := (545, 12, 0, 0, 0, 0, 0, 546)) rfl) rfl ?_
        refine e_90r zA (f_211 (pc := 546) (e := (546, 90, 11, 7, 3, 37, 1160, 549)) rfl) rfl (hT 102 rfl) rfl rfl (hR 102 7 rfl) ?_
        refine e_1 (f_211 (pc := 549) (e := (549, 1, 7, 0, 0, 0, 0, 551)) rfl) (v := 7) rfl ?_
        refine e_12 (f_211 (pc := 551) (e := (551, 12, 0, 0, 0, 0, 0, 552)) rfl) rfl ?_
        refine e_90r zA (f_211 (pc := 552) (e := (552, 90, 11, 7, 3, 37, 1160, 555)) rfl) rfl (hT 102 rfl) rfl rfl (hR 102 7 rfl) ?_
        refine e_1 (f_211 (pc := 555) (e := (555, 1, 6, 0, 0, 0, 0, 557)) rfl) (v := 6) rfl ?_
        refine e_110 (f_211 (pc := 557) (e := (557, 110, 0, 0, 0, 0, 0, 558)) rfl) rfl (hT 105 rfl) (by decide) (by decide) ?_
        refine e_30 (f_211 (pc := 558) (e := (558, 30, 0, 0, 0, 0, 0, 559)) rfl) ?_
        refine e_10 (f_211 (pc := 559) (e := (559, 10, 2, 0, 0, 0, 0, 560)) rfl) rfl ?_
        obtain ⟨b25, b26, F⟩ := F
        refine e_111 (f_211 (pc := 560) (e := (560, 111, 0, 0, 0, 0, 0, 561)) rfl) rfl (hT 105 rfl) b25 b26 ?_
        replace F := F _ rfl
        refine e_12 (f_211 (pc := 561) (e := (561, 12, 0, 0, 0, 0, 0, 562)) rfl) rfl ?_
        refine e_90r zA (f_211 (pc := 562) (e := (562, 90, 11, 7, 3, 37, 1160, 565)) rfl) rfl (hT 102 rfl) rfl rfl (hR 102 7 rfl) ?_
        refine e_1 (f_211 (pc := 565) (e := (565, 1, 6, 0, 0, 0, 0, 567)) rfl) (v := 6) rfl ?_
        refine e_51 (f_211 (pc := 567) (e := (567, 51, 0, 0, 0, 0, 0, 568)) rfl) rfl rfl ?_
        refine e_110 (f_211 (pc := 568) (e := (568, 110, 0, 0, 0, 0, 0, 569)) rfl) rfl (hT 105 rfl) (by decide) (by decide) ?_
        refine e_0 (f_211 (pc := 569) (e := (569, 0, 1, 0, 0, 0, 0, 570)) rfl) (v := 1) rfl ?_
        refine e_30 (f_211 (pc := 570) (e := (570, 30, 0, 0, 0, 0, 0, 571)) rfl) ?_
        refine e_111 (f_211 (pc := 571) (e := (571, 111, 0, 0, 0, 0, 0, 572)) rfl) rfl (hT 105 rfl) (by decide) (by decide) ?_
        replace F := F _ rfl
        refine e_12 (f_211 (pc := 572) (e := (572, 12, 0, 0, 0, 0, 0, 573)) rfl) rfl ?_
        refine e_130 (f_211 (pc := 573) (e := (573, 130, 182, 0, 11, 190, 1224, 576)) rfl) zA (as := [yr (some 102)]) (rest := []) rfl rfl rfl rfl (Nat.le_of_ble_eq_true rfl) (Nat.le_of_ble_eq_true rfl) ⟨_, _, _, rfl, (hT 102 rfl)⟩ (mc := 0) (ms := 0) (Nat.zero_le _) (Nat.zero_le _) ?_
        refine e_K ?_ F
        rintro r h' ⟨I29, rfl, rfl, F⟩
        refine e_80 (f_211 (pc := 576) (e := (576, 80, 458, 0, 0, 0, 0, 579)) rfl) ?_
        refine e_lo [0, 1] rfl ?_
        exact F
      · replace F := F.2 c24
        refine e_12 (f_211 (pc := 533) (e := (533, 12, 0, 0, 0, 0, 0, 534)) rfl) rfl ?_
        refine e_0 (f_211 (pc := 534) (e := (534, 0, 3, 0, 0, 0, 0, 535)) rfl) (v := 3) rfl ?_
        refine e_130 (f_211 (pc := 535) (e := (535, 130, 159, 0, 11, 187, 1243, 538)) rfl) zA (as := [yr (some 102), yi 3]) (rest := []) rfl rfl rfl rfl (Nat.le_of_ble_eq_true rfl) (Nat.le_of_ble_eq_true rfl) ⟨_, _, _, rfl, (hT 102 rfl)⟩ (mc := 0) (ms := 0) (Nat.zero_le _) (Nat.zero_le _) ?_
        refine e_K ?_ F
        rintro r h' ⟨r31, I30, rfl, rfl, F⟩
        exact e_121 (f_211 (pc := 538) (e := (538, 121, 0, 0, 0, 0, 0, 539)) rfl) F.1 F.2
  · replace F := F.2 c3
    refine e_0 (f_211 (pc := 481) (e := (481, 0, 0, 0, 0, 0, 0, 482)) rfl) (v := 0) rfl ?_
    refine e_80 (f_211 (pc := 482) (e := (482, 80, 514, 0, 0, 0, 0, 485)) rfl) ?_
    refine e_20 (f_211 (pc := 514) (e := (514, 20, 2, 0, 0, 0, 0, 515)) rfl) ?_
    refine e_10 (f_211 (pc := 515) (e := (515, 10, 2, 0, 0, 0, 0, 516)) rfl) rfl ?_
    refine e_63 (f_211 (pc := 516) (e := (516, 63, 525, 0, 0, 0, 0, 519)) rfl) (fun _ => ?_) (fun g => absurd (by decide) g)
    refine e_10 (f_211 (pc := 525) (e := (525, 10, 1, 0, 0, 0, 0, 526)) rfl) rfl ?_
    refine e_10 (f_211 (pc := 526) (e := (526, 10, 2, 0, 0, 0, 0, 527)) rfl) rfl ?_
    refine e_132 (f_211 (pc := 527) (e := (527, 132, 164, 2, 11, 238, 1207, 530)) rfl) zA (as := [yi x1, yi 0]) (rest := []) rfl rfl rfl rfl (Nat.le_of_ble_eq_true rfl) (Nat.le_of_ble_eq_true rfl) (mc := 0) (ms := 0) (Nat.zero_le _) (Nat.zero_le _) ?_
    refine e_K ?_ F
    rintro r h' ⟨r33, I32, rfl, rfl, F⟩
    refine e_60 (f_211 (pc := 530) (e := (530, 60, 539, 0, 0, 0, 0, 533)) rfl) (fun c34 => ?_) (fun c34 => ?_)
    · replace F := F.1 c34
      refine e_10 (f_211 (pc := 539) (e := (539, 10, 1, 0, 0, 0, 0, 540)) rfl) rfl ?_
      refine e_0 (f_211 (pc := 540) (e := (540, 0, 1, 0, 0, 0, 0, 541)) rfl) (v := 1) rfl ?_
      refine e_10 (f_211 (pc := 541) (e := (541, 10, 2, 0, 0, 0, 0, 542)) rfl) rfl ?_
      refine e_38 (f_211 (pc := 542) (e := (542, 38, 0, 0, 0, 0, 0, 543)) rfl) ?_
      refine e_36 (f_211 (pc := 543) (e := (543, 36, 0, 0, 0, 0, 0, 544)) rfl) ?_
      refine e_20 (f_211 (pc := 544) (e := (544, 20, 1, 0, 0, 0, 0, 545)) rfl) ?_
      refine e_12 (f_211 (pc := 545) (e := (545, 12, 0, 0, 0, 0, 0, 546)) rfl) rfl ?_
      refine e_90r zA (f_211 (pc := 546) (e := (546, 90, 11, 7, 3, 37, 1160, 549)) rfl) rfl (hT 102 rfl) rfl rfl (hR 102 7 rfl) ?_
      refine e_1 (f_211 (pc := 549) (e := (549, 1, 7, 0, 0, 0, 0, 551)) rfl) (v := 7) rfl ?_
      refine e_12 (f_211 (pc := 551) (e := (551, 12, 0, 0, 0, 0, 0, 552)) rfl) rfl ?_
      refine e_90r zA (f_211 (pc := 552) (e := (552, 90, 11, 7, 3, 37, 1160, 555)) rfl) rfl (hT 102 rfl) rfl rfl (hR 102 7 rfl) ?_
      refine e_1 (f_211 (pc := 555) (e := (555, 1, 6, 0, 0, 0, 0, 557)) rfl) (v := 6) rfl ?_
      refine e_110 (f_211 (pc := 557) (e := (557, 110, 0, 0, 0, 0, 0, 558)) rfl) rfl (hT 105 rfl) (by decide) (by decide) ?_
      refine e_30 (f_211 (pc := 558) (e := (558, 30, 0, 0, 0, 0, 0, 559)) rfl) ?_
      refine e_10 (f_211 (pc := 559) (e := (559, 10, 2, 0, 0, 0, 0, 560)) rfl) rfl ?_
      obtain ⟨b35, b36, F⟩ := F
      refine e_111 (f_211 (pc := 560) (e := (560, 111, 0, 0, 0, 0, 0, 561)) rfl) rfl (hT 105 rfl) b35 b36 ?_
      replace F := F _ rfl
      refine e_12 (f_211 (pc := 561) (e := (561, 12, 0, 0, 0, 0, 0, 562)) rfl) rfl ?_
      refine e_90r zA (f_211 (pc := 562) (e := (562, 90, 11, 7, 3, 37, 1160, 565)) rfl) rfl (hT 102 rfl) rfl rfl (hR 102 7 rfl) ?_
      refine e_1 (f_211 (pc := 565) (e := (565, 1, 6, 0, 0, 0, 0, 567)) rfl) (v := 6) rfl ?_
      refine e_51 (f_211 (pc := 567) (e := (567, 51, 0, 0, 0, 0, 0, 568)) rfl) rfl rfl ?_
      refine e_110 (f_211 (pc := 568) (e := (568, 110, 0, 0, 0, 0, 0, 569)) rfl) rfl (hT 105 rfl) (by decide) (by decide) ?_
      refine e_0 (f_211 (pc := 569) (e := (569, 0, 1, 0, 0, 0, 0, 570)) rfl) (v := 1) rfl ?_
      refine e_30 (f_211 (pc := 570) (e := (570, 30, 0, 0, 0, 0, 0, 571)) rfl) ?_
      refine e_111 (f_211 (pc := 571) (e := (571, 111, 0, 0, 0, 0, 0, 572)) rfl) rfl (hT 105 rfl) (by decide) (by decide) ?_
      replace F := F _ rfl
      refine e_12 (f_211 (pc := 572) (e := (572, 12, 0, 0, 0, 0, 0, 573)) rfl) rfl ?_
      refine e_130 (f_211 (pc := 573) (e := (573, 130, 182, 0, 11, 190, 1224, 576)) rfl) zA (as := [yr (some 102)]) (rest := []) rfl rfl rfl rfl (Nat.le_of_ble_eq_true rfl) (Nat.le_of_ble_eq_true rfl) ⟨_, _, _, rfl, (hT 102 rfl)⟩ (mc := 0) (ms := 0) (Nat.zero_le _) (Nat.zero_le _) ?_
      refine e_K ?_ F
      rintro r h' ⟨I39, rfl, rfl, F⟩
      refine e_80 (f_211 (pc := 576) (e := (576, 80, 458, 0, 0, 0, 0, 579)) rfl) ?_
      refine e_lo [0, 1] rfl ?_
      exact F
    · replace F := F.2 c34
      refine e_12 (f_211 (pc := 533) (e := (533, 12, 0, 0, 0, 0, 0, 534)) rfl) rfl ?_
      refine e_0 (f_211 (pc := 534) (e := (534, 0, 3, 0, 0, 0, 0, 535)) rfl) (v := 3) rfl ?_
      refine e_130 (f_211 (pc := 535) (e := (535, 130, 159, 0, 11, 187, 1243, 538)) rfl) zA (as := [yr (some 102), yi 3]) (rest := []) rfl rfl rfl rfl (Nat.le_of_ble_eq_true rfl) (Nat.le_of_ble_eq_true rfl) ⟨_, _, _, rfl, (hT 102 rfl)⟩ (mc := 0) (ms := 0) (Nat.zero_le _) (Nat.zero_le _) ?_
      refine e_K ?_ F
      rintro r h' ⟨r41, I40, rfl, rfl, F⟩
      exact e_121 (f_211 (pc := 538) (e := (538, 121, 0, 0, 0, 0, 0, 539)) rfl) F.1 F.2
end Sy
