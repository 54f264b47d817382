/-! BLOCKS of the class: holds, printed by wip/whole/y/gen48.py -/
section Sy
variable {l : Launch} {D : va_G} {cy : Nat → ClassId} {z d bc bs N : Nat} {T : Nat → Nat × Nat} {R : Nat → Nat → Option Nat} {I : Nat → Nat → Int} {K : yKo}
set_option maxRecDepth 20000 in
theorem B_48_0 (hT : yLT T) (hR : yLR R) {p : Nat} (hp : yAtSentence T R p) {x1 x4 : Int} (F : (x1 < 0 → K (some (yi 0)) (N, T, R, I)) ∧ (¬ (x1 < 0) → (40 ≤ x1 → K (some (yi 0)) (N, T, R, I)) ∧ (¬ (40 ≤ x1) → yW l zSS D cy zFk z d 11 0 0 (fun r h' => ∃ r4 I3, r = some (yi r4) ∧ h' = (N, T, R, I3) ∧ ((r4 ≠ 0 → 0 ≤ x1 ∧ x1 < 40 ∧ (((I3 (p + 1) x1.toNat) = 7 → 0 ≤ x4 ∧ x4 < 8 ∧ (((I3 14 x4.toNat) = 0 ∨ (I3 14 x4.toNat) = 1) ∧ K (some (yi (I3 14 x4.toNat))) (N, T, R, I3))) ∧ (((I3 (p + 1) x1.toNat) = 19 → 0 ≤ x4 ∧ x4 < 8 ∧ (((I3 25 x4.toNat) = (-1) → K (some (yi 0)) (N, T, R, I3)) ∧ (¬ ((I3 25 x4.toNat) = (-1)) → K (some (yi 1)) (N, T, R, I3)))) ∧ (((I3 (p + 1) x1.toNat) = 20 → yW l zSS D cy zFk z d 66 0 0 (fun r h' => ∃ r20 I19, r = some (yj r20) ∧ h' = (N, T, R, I19) ∧ (0 ≤ x1 ∧ x1 < 40 ∧ (yW l zSS D cy zFk z d 66 0 0 (fun r h' => ∃ r24 I23, r = some (yj r24) ∧ h' = (N, T, R, I23) ∧ (((ylcmp r20 r24) ≤ 0 → K (some (yi 0)) (N, T, R, I23)) ∧ (¬ ((ylcmp r20 r24) ≤ 0) → K (some (yi 1)) (N, T, R, I23)))) 0 0 0 [(0, yr (some 16)), (1, yr (some 4)), (2, yi (I19 (p + 3) x1.toNat))] [] (N, T, R, I19)))) 0 0 0 [(0, yr (some 16)), (1, yr (some 4)), (2, yi x4)] [] (N, T, R, I3)) ∧ ((I3 (p + 1) x1.toNat) ≠ 7 → (I3 (p + 1) x1.toNat) ≠ 19 → (I3 (p + 1) x1.toNat) ≠ 20 → 0 ≤ x1 ∧ x1 < 40 ∧ (yW l zSS D cy zFk z d 65 0 0 (fun r h' => ∃ r29 I28, r = some (yi r29) ∧ h' = (N, T, R, I28) ∧ (0 ≤ x1 ∧ x1 < 40 ∧ (((I28 (p + 2) x1.toNat) = 60 → 0 ≤ x1 ∧ x1 < 40 ∧ (((I28 (p + 3) x1.toNat) ≤ r29 → K (some (yi 0)) (N, T, R, I28)) ∧ (¬ ((I28 (p + 3) x1.toNat) ≤ r29) → K (some (yi 1)) (N, T, R, I28)))) ∧ (((I28 (p + 2) x1.toNat) = 62 → 0 ≤ x1 ∧ x1 < 40 ∧ ((r29 ≤ (I28 (p + 3) x1.toNat) → K (some (yi 0)) (N, T, R, I28)) ∧ (¬ (r29 ≤ (I28 (p + 3) x1.toNat)) → K (some (yi 1)) (N, T, R, I28)))) ∧ ((I28 (p + 2) x1.toNat) ≠ 60 → (I28 (p + 2) x1.toNat) ≠ 62 → 0 ≤ x1 ∧ x1 < 40 ∧ ((r29 ≠ (I28 (p + 3) x1.toNat) → K (some (yi 0)) (N, T, R, I28)) ∧ (¬ (r29 ≠ (I28 (p + 3) x1.toNat)) → K (some (yi 1)) (N, T, R, I28)))))))) 0 0 0 [(0, yr (some 16)), (1, yr (some 4)), (2, yi (I3 (p + 1) x1.toNat)), (3, yi x4)] [] (N, T, R, I3))))))) ∧ (¬ (r4 ≠ 0) → K (some (yi 0)) (N, T, R, I3)))) 0 0 0 [(0, yr (some 4)), (1, yi x4)] [] (N, T, R, I)))) :
    yW l zSS D cy zFk z (d + 1) 48 bc bs K 0 0 0 [(0, yr (some p)), (1, yi x1), (2, yr (some 4)), (3, yr (some 16)), (4, yi x4)] [] (N, T, R, I) := by
  refine e_10 (f_48 (pc := 0) (e := (0, 10, 1, 0, 0, 0, 0, 1)) rfl) rfl ?_
  refine e_62 (f_48 (pc := 1) (e := (1, 62, 19, 0, 0, 0, 0, 4)) rfl) (fun c1 => ?_) (fun c1 => ?_)
  · replace F := F.1 c1
    refine e_0 (f_48 (pc := 19) (e := (19, 0, 0, 0, 0, 0, 0, 20)) rfl) (v := 0) rfl ?_
    exact e_121 (f_48 (pc := 20) (e := (20, 121, 0, 0, 0, 0, 0, 21)) rfl) (.inl rfl) F
  · replace F := F.2 c1
    refine e_10 (f_48 (pc := 4) (e := (4, 10, 1, 0, 0, 0, 0, 5)) rfl) rfl ?_
    refine e_1 (f_48 (pc := 5) (e := (5, 1, 40, 0, 0, 0, 0, 7)) rfl) (v := 40) rfl ?_
    refine e_73 (f_48 (pc := 7) (e := (7, 73, 19, 0, 0, 0, 0, 10)) rfl) (fun c2 => ?_) (fun c2 => ?_)
    · replace F := F.1 c2
      refine e_0 (f_48 (pc := 19) (e := (19, 0, 0, 0, 0, 0, 0, 20)) rfl) (v := 0) rfl ?_
      exact e_121 (f_48 (pc := 20) (e := (20, 121, 0, 0, 0, 0, 0, 21)) rfl) (.inl rfl) F
    · replace F := F.2 c2
      refine e_12 (f_48 (pc := 10) (e := (10, 12, 2, 0, 0, 0, 0, 11)) rfl) rfl ?_
      refine e_11 (f_48 (pc := 11) (e := (11, 11, 4, 0, 0, 0, 0, 13)) rfl) rfl ?_
      refine e_130 (f_48 (pc := 13) (e := (13, 130, 11, 0, 1, 35, 886, 16)) rfl) zA (as := [yr (some 4), yi x4]) (rest := []) rfl rfl rfl rfl (Nat.le_of_ble_eq_true rfl) (Nat.le_of_ble_eq_true rfl) ⟨_, _, _, rfl, (hT 4 rfl)⟩ (mc := 0) (ms := 0) (Nat.zero_le _) (Nat.zero_le _) ?_
      refine e_K ?_ F
      rintro r h' ⟨r4, I3, rfl, rfl, F⟩
      refine e_61 (f_48 (pc := 16) (e := (16, 61, 21, 0, 0, 0, 0, 19)) rfl) (fun c5 => ?_) (fun c5 => ?_)
      · replace F := F.1 c5
        refine e_12 (f_48 (pc := 21) (e := (21, 12, 0, 0, 0, 0, 0, 22)) rfl) rfl ?_
        refine e_90r zA (f_48 (pc := 22) (e := (22, 90, 4, 1, 3, 11, 881, 25)) rfl) rfl (hp.1 0 rfl) rfl rfl (hp.2 1 rfl) ?_
        refine e_10 (f_48 (pc := 25) (e := (25, 10, 1, 0, 0, 0, 0, 26)) rfl) rfl ?_
        obtain ⟨b6, b7, F⟩ := F
        refine e_110 (f_48 (pc := 26) (e := (26, 110, 0, 0, 0, 0, 0, 27)) rfl) rfl (hp.1 1 rfl) b6 b7 ?_
        refine e_48_27 (fun c8 => ?_) (fun c9 => ?_) (fun c10 => ?_) (fun c11 c12 c13 => ?_)
        · replace F := F.1 c8
          refine e_12 (f_48 (pc := 77) (e := (77, 12, 2, 0, 0, 0, 0, 78)) rfl) rfl ?_
          refine e_90r zA (f_48 (pc := 78) (e := (78, 90, 1, 12, 3, 46, 888, 81)) rfl) rfl (hT 4 rfl) rfl rfl (hR 4 12 rfl) ?_
          refine e_11 (f_48 (pc := 81) (e := (81, 11, 4, 0, 0, 0, 0, 83)) rfl) rfl ?_
          obtain ⟨b14, b15, F⟩ := F
          refine e_112 (f_48 (pc := 83) (e := (83, 112, 0, 0, 0, 0, 0, 84)) rfl) rfl (hT 14 rfl) b14 b15 (.inr rfl) ?_
          exact e_121 (f_48 (pc := 84) (e := (84, 121, 0, 0, 0, 0, 0, 85)) rfl) F.1 F.2
        · replace F := F.2.1 c9
          refine e_12 (f_48 (pc := 60) (e := (60, 12, 3, 0, 0, 0, 0, 61)) rfl) rfl ?_
          refine e_90r zA (f_48 (pc := 61) (e := (61, 90, 5, 9, 3, 41, 887, 64)) rfl) rfl (hT 16 rfl) rfl rfl (hR 16 9 rfl) ?_
          refine e_11 (f_48 (pc := 64) (e := (64, 11, 4, 0, 0, 0, 0, 66)) rfl) rfl ?_
          obtain ⟨b16, b17, F⟩ := F
          refine e_110 (f_48 (pc := 66) (e := (66, 110, 0, 0, 0, 0, 0, 67)) rfl) rfl (hT 25 rfl) b16 b17 ?_
          refine e_0 (f_48 (pc := 67) (e := (67, 0, 4294967295, 0, 0, 0, 0, 68)) rfl) (v := (-1)) rfl ?_
          refine e_70 (f_48 (pc := 68) (e := (68, 70, 75, 0, 0, 0, 0, 71)) rfl) (fun c18 => ?_) (fun c18 => ?_)
          · replace F := F.1 c18
            refine e_0 (f_48 (pc := 75) (e := (75, 0, 0, 0, 0, 0, 0, 76)) rfl) (v := 0) rfl ?_
            exact e_121 (f_48 (pc := 76) (e := (76, 121, 0, 0, 0, 0, 0, 77)) rfl) (.inl rfl) F
          · replace F := F.2 c18
            refine e_0 (f_48 (pc := 71) (e := (71, 0, 1, 0, 0, 0, 0, 72)) rfl) (v := 1) rfl ?_
            refine e_80 (f_48 (pc := 72) (e := (72, 80, 76, 0, 0, 0, 0, 75)) rfl) ?_
            exact e_121 (f_48 (pc := 76) (e := (76, 121, 0, 0, 0, 0, 0, 77)) rfl) (.inr rfl) F
        · replace F := F.2.2.1 c10
          refine e_12 (f_48 (pc := 85) (e := (85, 12, 3, 0, 0, 0, 0, 86)) rfl) rfl ?_
          refine e_12 (f_48 (pc := 86) (e := (86, 12, 2, 0, 0, 0, 0, 87)) rfl) rfl ?_
          refine e_11 (f_48 (pc := 87) (e := (87, 11, 4, 0, 0, 0, 0, 89)) rfl) rfl ?_
          refine e_130 (f_48 (pc := 89) (e := (89, 130, 66, 0, 5, 50, 889, 92)) rfl) zA (as := [yr (some 16), yr (some 4), yi x4]) (rest := []) rfl rfl rfl rfl (Nat.le_of_ble_eq_true rfl) (Nat.le_of_ble_eq_true rfl) ⟨_, _, _, rfl, (hT 16 rfl)⟩ (mc := 0) (ms := 0) (Nat.zero_le _) (Nat.zero_le _) ?_
          refine e_K ?_ F
          rintro r h' ⟨r20, I19, rfl, rfl, F⟩
          refine e_12 (f_48 (pc := 92) (e := (92, 12, 3, 0, 0, 0, 0, 93)) rfl) rfl ?_
          refine e_12 (f_48 (pc := 93) (e := (93, 12, 2, 0, 0, 0, 0, 94)) rfl) rfl ?_
          refine e_12 (f_48 (pc := 94) (e := (94, 12, 0, 0, 0, 0, 0, 95)) rfl) rfl ?_
          refine e_90r zA (f_48 (pc := 95) (e := (95, 90, 4, 3, 3, 18, 883, 98)) rfl) rfl (hp.1 0 rfl) rfl rfl (hp.2 3 rfl) ?_
          refine e_10 (f_48 (pc := 98) (e := (98, 10, 1, 0, 0, 0, 0, 99)) rfl) rfl ?_
          obtain ⟨b21, b22, F⟩ := F
          refine e_110 (f_48 (pc := 99) (e := (99, 110, 0, 0, 0, 0, 0, 100)) rfl) rfl (hp.1 3 rfl) b21 b22 ?_
          refine e_130 (f_48 (pc := 100) (e := (100, 130, 66, 0, 5, 50, 889, 103)) rfl) zA (as := [yr (some 16), yr (some 4), yi _]) (rest := [yj r20]) rfl rfl rfl rfl (Nat.le_of_ble_eq_true rfl) (Nat.le_of_ble_eq_true rfl) ⟨_, _, _, rfl, (hT 16 rfl)⟩ (mc := 0) (ms := 0) (Nat.zero_le _) (Nat.zero_le _) ?_
          refine e_K ?_ F
          rintro r h' ⟨r24, I23, rfl, rfl, F⟩
          refine e_55 (f_48 (pc := 103) (e := (103, 55, 0, 0, 0, 0, 0, 104)) rfl) ?_
          refine e_65 (f_48 (pc := 104) (e := (104, 65, 111, 0, 0, 0, 0, 107)) rfl) (fun c25 => ?_) (fun c25 => ?_)
          · replace F := F.1 c25
            refine e_0 (f_48 (pc := 111) (e := (111, 0, 0, 0, 0, 0, 0, 112)) rfl) (v := 0) rfl ?_
            exact e_121 (f_48 (pc := 112) (e := (112, 121, 0, 0, 0, 0, 0, 113)) rfl) (.inl rfl) F
          · replace F := F.2 c25
            refine e_0 (f_48 (pc := 107) (e := (107, 0, 1, 0, 0, 0, 0, 108)) rfl) (v := 1) rfl ?_
            refine e_80 (f_48 (pc := 108) (e := (108, 80, 112, 0, 0, 0, 0, 111)) rfl) ?_
            exact e_121 (f_48 (pc := 112) (e := (112, 121, 0, 0, 0, 0, 0, 113)) rfl) (.inr rfl) F
        · replace F := F.2.2.2 c11 c12 c13
          refine e_12 (f_48 (pc := 113) (e := (113, 12, 3, 0, 0, 0, 0, 114)) rfl) rfl ?_
          refine e_12 (f_48 (pc := 114) (e := (114, 12, 2, 0, 0, 0, 0, 115)) rfl) rfl ?_
          refine e_12 (f_48 (pc := 115) (e := (115, 12, 0, 0, 0, 0, 0, 116)) rfl) rfl ?_
          refine e_90r zA (f_48 (pc := 116) (e := (116, 90, 4, 1, 3, 11, 881, 119)) rfl) rfl (hp.1 0 rfl) rfl rfl (hp.2 1 rfl) ?_
          refine e_10 (f_48 (pc := 119) (e := (119, 10, 1, 0, 0, 0, 0, 120)) rfl) rfl ?_
          obtain ⟨b26, b27, F⟩ := F
          refine e_110 (f_48 (pc := 120) (e := (120, 110, 0, 0, 0, 0, 0, 121)) rfl) rfl (hp.1 1 rfl) b26 b27 ?_
          refine e_11 (f_48 (pc := 121) (e := (121, 11, 4, 0, 0, 0, 0, 123)) rfl) rfl ?_
          refine e_130 (f_48 (pc := 123) (e := (123, 130, 65, 0, 5, 54, 890, 126)) rfl) zA (as := [yr (some 16), yr (some 4), yi _, yi x4]) (rest := []) rfl rfl rfl rfl (Nat.le_of_ble_eq_true rfl) (Nat.le_of_ble_eq_true rfl) ⟨_, _, _, rfl, (hT 16 rfl)⟩ (mc := 0) (ms := 0) (Nat.zero_le _) (Nat.zero_le _) ?_
          refine e_K ?_ F
          rintro r h' ⟨r29, I28, rfl, rfl, F⟩
          refine e_21 (f_48 (pc := 126) (e := (126, 21, 5, 0, 0, 0, 0, 128)) rfl) ?_
          refine e_12 (f_48 (pc := 128) (e := (128, 12, 0, 0, 0, 0, 0, 129)) rfl) rfl ?_
          refine e_90r zA (f_48 (pc := 129) (e := (129, 90, 4, 2, 3, 15, 882, 132)) rfl) rfl (hp.1 0 rfl) rfl rfl (hp.2 2 rfl) ?_
          refine e_10 (f_48 (pc := 132) (e := (132, 10, 1, 0, 0, 0, 0, 133)) rfl) rfl ?_
          obtain ⟨b30, b31, F⟩ := F
          refine e_110 (f_48 (pc := 133) (e := (133, 110, 0, 0, 0, 0, 0, 134)) rfl) rfl (hp.1 2 rfl) b30 b31 ?_
          refine e_48_134 (fun c32 => ?_) (fun c33 => ?_) (fun c34 c35 => ?_)
          · replace F := F.1 c32
            refine e_11 (f_48 (pc := 160) (e := (160, 11, 5, 0, 0, 0, 0, 162)) rfl) rfl ?_
            refine e_12 (f_48 (pc := 162) (e := (162, 12, 0, 0, 0, 0, 0, 163)) rfl) rfl ?_
            refine e_90r zA (f_48 (pc := 163) (e := (163, 90, 4, 3, 3, 18, 883, 166)) rfl) rfl (hp.1 0 rfl) rfl rfl (hp.2 3 rfl) ?_
            refine e_10 (f_48 (pc := 166) (e := (166, 10, 1, 0, 0, 0, 0, 167)) rfl) rfl ?_
            obtain ⟨b36, b37, F⟩ := F
            refine e_110 (f_48 (pc := 167) (e := (167, 110, 0, 0, 0, 0, 0, 168)) rfl) rfl (hp.1 3 rfl) b36 b37 ?_
            refine e_73 (f_48 (pc := 168) (e := (168, 73, 175, 0, 0, 0, 0, 171)) rfl) (fun c38 => ?_) (fun c38 => ?_)
            · replace F := F.1 c38
              refine e_0 (f_48 (pc := 175) (e := (175, 0, 0, 0, 0, 0, 0, 176)) rfl) (v := 0) rfl ?_
              exact e_121 (f_48 (pc := 176) (e := (176, 121, 0, 0, 0, 0, 0, 177)) rfl) (.inl rfl) F
            · replace F := F.2 c38
              refine e_0 (f_48 (pc := 171) (e := (171, 0, 1, 0, 0, 0, 0, 172)) rfl) (v := 1) rfl ?_
              refine e_80 (f_48 (pc := 172) (e := (172, 80, 176, 0, 0, 0, 0, 175)) rfl) ?_
              exact e_121 (f_48 (pc := 176) (e := (176, 121, 0, 0, 0, 0, 0, 177)) rfl) (.inr rfl) F
          · replace F := F.2.1 c33
            refine e_11 (f_48 (pc := 177) (e := (177, 11, 5, 0, 0, 0, 0, 179)) rfl) rfl ?_
            refine e_12 (f_48 (pc := 179) (e := (179, 12, 0, 0, 0, 0, 0, 180)) rfl) rfl ?_
            refine e_90r zA (f_48 (pc := 180) (e := (180, 90, 4, 3, 3, 18, 883, 183)) rfl) rfl (hp.1 0 rfl) rfl rfl (hp.2 3 rfl) ?_
            refine e_10 (f_48 (pc := 183) (e := (183, 10, 1, 0, 0, 0, 0, 184)) rfl) rfl ?_
            obtain ⟨b39, b40, F⟩ := F
            refine e_110 (f_48 (pc := 184) (e := (184, 110, 0, 0, 0, 0, 0, 185)) rfl) rfl (hp.1 3 rfl) b39 b40 ?_
            refine e_75 (f_48 (pc := 185) (e := (185, 75, 192, 0, 0, 0, 0, 188)) rfl) (fun c41 => ?_) (fun c41 => ?_)
            · replace F := F.1 c41
              refine e_0 (f_48 (pc := 192) (e := (192, 0, 0, 0, 0, 0, 0, 193)) rfl) (v := 0) rfl ?_
              exact e_121 (f_48 (pc := 193) (e := (193, 121, 0, 0, 0, 0, 0, 194)) rfl) (.inl rfl) F
            · replace F := F.2 c41
              refine e_0 (f_48 (pc := 188) (e := (188, 0, 1, 0, 0, 0, 0, 189)) rfl) (v := 1) rfl ?_
              refine e_80 (f_48 (pc := 189) (e := (189, 80, 193, 0, 0, 0, 0, 192)) rfl) ?_
              exact e_121 (f_48 (pc := 193) (e := (193, 121, 0, 0, 0, 0, 0, 194)) rfl) (.inr rfl) F
          · replace F := F.2.2 c34 c35
            refine e_11 (f_48 (pc := 194) (e := (194, 11, 5, 0, 0, 0, 0, 196)) rfl) rfl ?_
            refine e_12 (f_48 (pc := 196) (e := (196, 12, 0, 0, 0, 0, 0, 197)) rfl) rfl ?_
            refine e_90r zA (f_48 (pc := 197) (e := (197, 90, 4, 3, 3, 18, 883, 200)) rfl) rfl (hp.1 0 rfl) rfl rfl (hp.2 3 rfl) ?_
            refine e_10 (f_48 (pc := 200) (e := (200, 10, 1, 0, 0, 0, 0, 201)) rfl) rfl ?_
            obtain ⟨b42, b43, F⟩ := F
            refine e_110 (f_48 (pc := 201) (e := (201, 110, 0, 0, 0, 0, 0, 202)) rfl) rfl (hp.1 3 rfl) b42 b43 ?_
            refine e_71 (f_48 (pc := 202) (e := (202, 71, 209, 0, 0, 0, 0, 205)) rfl) (fun c44 => ?_) (fun c44 => ?_)
            · replace F := F.1 c44
              refine e_0 (f_48 (pc := 209) (e := (209, 0, 0, 0, 0, 0, 0, 210)) rfl) (v := 0) rfl ?_
              exact e_121 (f_48 (pc := 210) (e := (210, 121, 0, 0, 0, 0, 0, 0)) rfl) (.inl rfl) F
            · replace F := F.2 c44
              refine e_0 (f_48 (pc := 205) (e := (205, 0, 1, 0, 0, 0, 0, 206)) rfl) (v := 1) rfl ?_
              refine e_80 (f_48 (pc := 206) (e := (206, 80, 210, 0, 0, 0, 0, 209)) rfl) ?_
              exact e_121 (f_48 (pc := 210) (e := (210, 121, 0, 0, 0, 0, 0, 0)) rfl) (.inr rfl) F
      · replace F := F.2 c5
        refine e_0 (f_48 (pc := 19) (e := (19, 0, 0, 0, 0, 0, 0, 20)) rfl) (v := 0) rfl ?_
        exact e_121 (f_48 (pc := 20) (e := (20, 121, 0, 0, 0, 0, 0, 21)) rfl) (.inl rfl) F
end Sy
