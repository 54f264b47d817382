/-! BLOCKS of the class, printed by wip/whole/y/gen74.py (2) -/
section Sy
variable {l : Launch} {D : va_G} {cy : Nat → ClassId} {z d bc bs N : Nat} {T : Nat → Nat × Nat} {R : Nat → Nat → Option Nat} {I : Nat → Nat → Int} {K : yKo}
/-! ChairAlley$Untier.knotAhead(I)I -/
set_option maxRecDepth 20000 in
theorem B_71_0 (hT : yLT T) (hR : yLR R) {vs ns : Nat} (hvs : R 91 9 = some vs) (hTvs : T vs = (0, ns)) (hns : ns < 2147483648) {vq nq : Nat} (hvq : R 91 10 = some vq) (hTvq : T vq = (1, nq)) (hnq : nq < 2147483648) {vt nt : Nat} (hvt : R 91 12 = some vt) (hTvt : T vt = (1, nt)) (hnt : nt < 2147483648) {x1 : Int} (F : yW l zSS D cy zFk z d 81 0 0 (fun r h' => ∃ r2 I1, r = some (yi r2) ∧ h' = (N, T, R, I1) ∧ (((ydiv r2 4) < 3 → yW l zSS D cy zFk z d 76 0 0 (fun r h' => ∃ I4, r = none ∧ h' = (N, T, R, I4) ∧ (0 ≤ (ydiv r2 4) ∧ (ydiv r2 4) < 3 ∧ (((I4 95 (ydiv r2 4).toNat) ≠ (I4 91 1) → 0 ≤ (ydiv r2 4) ∧ (ydiv r2 4) < 3 ∧ (((yrem r2 4) = 0 → yW l zSS D cy zFk z (d + 1) 71 bc bs K 0 0 113 [(0, yr (some 91)), (1, yi x1), (3, yi (ydiv r2 4)), (4, yi (yadd (I4 95 (ydiv r2 4).toNat) (I4 91 0)))] [] (N, T, R, I4)) ∧ (¬ ((yrem r2 4) = 0) → ((yrem r2 4) = 1 → yW l zSS D cy zFk z (d + 1) 71 bc bs K 0 0 113 [(0, yr (some 91)), (1, yi x1), (3, yi (ydiv r2 4)), (4, yi (yadd (I4 95 (ydiv r2 4).toNat) (-1)))] [] (N, T, R, I4)) ∧ (¬ ((yrem r2 4) = 1) → ((yrem r2 4) = 2 → yW l zSS D cy zFk z (d + 1) 71 bc bs K 0 0 113 [(0, yr (some 91)), (1, yi x1), (3, yi (ydiv r2 4)), (4, yi (ysub (I4 95 (ydiv r2 4).toNat) (I4 91 0)))] [] (N, T, R, I4)) ∧ (¬ ((yrem r2 4) = 2) → yW l zSS D cy zFk z (d + 1) 71 bc bs K 0 0 113 [(0, yr (some 91)), (1, yi x1), (3, yi (ydiv r2 4)), (4, yi (yadd (I4 95 (ydiv r2 4).toNat) 1))] [] (N, T, R, I4)))))) ∧ (¬ ((I4 95 (ydiv r2 4).toNat) ≠ (I4 91 1)) → 0 ≤ (ydiv r2 4) ∧ (ydiv r2 4) < 3 ∧ (((yrem r2 4) = 0 → yW l zSS D cy zFk z (d + 1) 71 bc bs K 0 0 113 [(0, yr (some 91)), (1, yi x1), (3, yi (ydiv r2 4)), (4, yi (yadd (I4 93 (ydiv r2 4).toNat) (I4 91 0)))] [] (N, T, R, I4)) ∧ (¬ ((yrem r2 4) = 0) → ((yrem r2 4) = 1 → yW l zSS D cy zFk z (d + 1) 71 bc bs K 0 0 113 [(0, yr (some 91)), (1, yi x1), (3, yi (ydiv r2 4)), (4, yi (yadd (I4 93 (ydiv r2 4).toNat) (-1)))] [] (N, T, R, I4)) ∧ (¬ ((yrem r2 4) = 1) → ((yrem r2 4) = 2 → yW l zSS D cy zFk z (d + 1) 71 bc bs K 0 0 113 [(0, yr (some 91)), (1, yi x1), (3, yi (ydiv r2 4)), (4, yi (ysub (I4 93 (ydiv r2 4).toNat) (I4 91 0)))] [] (N, T, R, I4)) ∧ (¬ ((yrem r2 4) = 2) → yW l zSS D cy zFk z (d + 1) 71 bc bs K 0 0 113 [(0, yr (some 91)), (1, yi x1), (3, yi (ydiv r2 4)), (4, yi (yadd (I4 93 (ydiv r2 4).toNat) 1))] [] (N, T, R, I4))))))))) 0 0 0 [(0, yr (some 91)), (1, yi x1)] [] (N, T, R, I1)) ∧ (¬ ((ydiv r2 4) < 3) → K (some (yi x1)) (N, T, R, I1)))) 0 0 0 [(0, yr (some 91)), (1, yi x1)] [] (N, T, R, I)) :
    yW l zSS D cy zFk z (d + 1) 71 bc bs K 0 0 0 [(0, yr (some 91)), (1, yi x1)] [] (N, T, R, I) := by
  refine e_12 (f_71 (pc := 0) (e := (0, 12, 0, 0, 0, 0, 0, 1)) rfl) rfl ?_
  refine e_10 (f_71 (pc := 1) (e := (1, 10, 1, 0, 0, 0, 0, 2)) rfl) rfl ?_
  refine e_130 (f_71 (pc := 2) (e := (2, 130, 81, 0, 6, 129, 953, 5)) rfl) zA (as := [yr (some 91), yi x1]) (rest := []) rfl rfl rfl rfl (Nat.le_of_ble_eq_true rfl) (Nat.le_of_ble_eq_true rfl) ⟨_, _, _, rfl, (hT 91 rfl)⟩ (mc := 0) (ms := 0) (Nat.zero_le _) (Nat.zero_le _) ?_
  refine e_K ?_ F
  rintro r h' ⟨r2, I1, rfl, rfl, F⟩
  refine e_20 (f_71 (pc := 5) (e := (5, 20, 2, 0, 0, 0, 0, 6)) rfl) ?_
  refine e_10 (f_71 (pc := 6) (e := (6, 10, 2, 0, 0, 0, 0, 7)) rfl) rfl ?_
  refine e_0 (f_71 (pc := 7) (e := (7, 0, 4, 0, 0, 0, 0, 8)) rfl) (v := 4) rfl ?_
  refine e_33 (f_71 (pc := 8) (e := (8, 33, 0, 0, 0, 0, 0, 9)) rfl) (by decide) ?_
  refine e_20 (f_71 (pc := 9) (e := (9, 20, 3, 0, 0, 0, 0, 10)) rfl) ?_
  refine e_10 (f_71 (pc := 10) (e := (10, 10, 3, 0, 0, 0, 0, 11)) rfl) rfl ?_
  refine e_0 (f_71 (pc := 11) (e := (11, 0, 3, 0, 0, 0, 0, 12)) rfl) (v := 3) rfl ?_
  refine e_72 (f_71 (pc := 12) (e := (12, 72, 17, 0, 0, 0, 0, 15)) rfl) (fun c3 => ?_) (fun c3 => ?_)
  · replace F := F.1 c3
    refine e_12 (f_71 (pc := 17) (e := (17, 12, 0, 0, 0, 0, 0, 18)) rfl) rfl ?_
    refine e_10 (f_71 (pc := 18) (e := (18, 10, 1, 0, 0, 0, 0, 19)) rfl) rfl ?_
    refine e_130 (f_71 (pc := 19) (e := (19, 130, 76, 0, 6, 119, 948, 22)) rfl) zA (as := [yr (some 91), yi x1]) (rest := []) rfl rfl rfl rfl (Nat.le_of_ble_eq_true rfl) (Nat.le_of_ble_eq_true rfl) ⟨_, _, _, rfl, (hT 91 rfl)⟩ (mc := 0) (ms := 0) (Nat.zero_le _) (Nat.zero_le _) ?_
    refine e_K ?_ F
    rintro r h' ⟨I4, rfl, rfl, F⟩
    refine e_12 (f_71 (pc := 22) (e := (22, 12, 0, 0, 0, 0, 0, 23)) rfl) rfl ?_
    refine e_90r zA (f_71 (pc := 23) (e := (23, 90, 6, 6, 3, 21, 942, 26)) rfl) rfl (hT 91 rfl) rfl rfl (hR 91 6 rfl) ?_
    refine e_10 (f_71 (pc := 26) (e := (26, 10, 3, 0, 0, 0, 0, 27)) rfl) rfl ?_
    obtain ⟨b5, b6, F⟩ := F
    refine e_110 (f_71 (pc := 27) (e := (27, 110, 0, 0, 0, 0, 0, 28)) rfl) rfl (hT 95 rfl) b5 b6 ?_
    refine e_12 (f_71 (pc := 28) (e := (28, 12, 0, 0, 0, 0, 0, 29)) rfl) rfl ?_
    refine e_90 zA (f_71 (pc := 29) (e := (29, 90, 6, 1, 0, 58, 950, 32)) rfl) rfl (hT 91 rfl) rfl rfl ?_
    refine e_71 (f_71 (pc := 32) (e := (32, 71, 44, 0, 0, 0, 0, 35)) rfl) (fun c7 => ?_) (fun c7 => ?_)
    · replace F := F.1 c7
      refine e_12 (f_71 (pc := 44) (e := (44, 12, 0, 0, 0, 0, 0, 45)) rfl) rfl ?_
      refine e_90r zA (f_71 (pc := 45) (e := (45, 90, 6, 6, 3, 21, 942, 48)) rfl) rfl (hT 91 rfl) rfl rfl (hR 91 6 rfl) ?_
      refine e_10 (f_71 (pc := 48) (e := (48, 10, 3, 0, 0, 0, 0, 49)) rfl) rfl ?_
      obtain ⟨b8, b9, F⟩ := F
      refine e_110 (f_71 (pc := 49) (e := (49, 110, 0, 0, 0, 0, 0, 50)) rfl) rfl (hT 95 rfl) b8 b9 ?_
      refine e_21 (f_71 (pc := 50) (e := (50, 21, 4, 0, 0, 0, 0, 52)) rfl) ?_
      refine e_10 (f_71 (pc := 52) (e := (52, 10, 2, 0, 0, 0, 0, 53)) rfl) rfl ?_
      refine e_0 (f_71 (pc := 53) (e := (53, 0, 4, 0, 0, 0, 0, 54)) rfl) (v := 4) rfl ?_
      refine e_34 (f_71 (pc := 54) (e := (54, 34, 0, 0, 0, 0, 0, 55)) rfl) (by decide) ?_
      refine e_83 (f_71 (pc := 55) (e := (55, 83, 2147483648, 3, 4, 0, 0, 110)) rfl) (v := (yrem r2 4)) (low := 0) rfl ?_
      by_cases c10 : (yrem r2 4) = 0
      · replace F := F.1 c10
        rw [show ySw 0 (yTg zGG 4) 110 (yrem r2 4) = 80 from by rw [c10]; rfl]
        refine e_11 (f_71 (pc := 80) (e := (80, 11, 4, 0, 0, 0, 0, 82)) rfl) rfl ?_
        refine e_12 (f_71 (pc := 82) (e := (82, 12, 0, 0, 0, 0, 0, 83)) rfl) rfl ?_
        refine e_90 zA (f_71 (pc := 83) (e := (83, 90, 6, 0, 0, 57, 954, 86)) rfl) rfl (hT 91 rfl) rfl rfl ?_
        refine e_30 (f_71 (pc := 86) (e := (86, 30, 0, 0, 0, 0, 0, 87)) rfl) ?_
        refine e_21 (f_71 (pc := 87) (e := (87, 21, 4, 0, 0, 0, 0, 89)) rfl) ?_
        refine e_80 (f_71 (pc := 89) (e := (89, 80, 113, 0, 0, 0, 0, 92)) rfl) ?_
        refine e_lo [0, 1, 3, 4] rfl ?_
        exact F
      · replace F := F.2 c10
        by_cases c11 : (yrem r2 4) = 1
        · replace F := F.1 c11
          rw [show ySw 0 (yTg zGG 4) 110 (yrem r2 4) = 92 from by rw [c11]; rfl]
          refine e_26 (f_71 (pc := 92) (e := (92, 26, 4, 4294967295, 0, 0, 0, 95)) rfl) (w := (-1)) rfl rfl ?_
          refine e_80 (f_71 (pc := 95) (e := (95, 80, 113, 0, 0, 0, 0, 98)) rfl) ?_
          refine e_lo [0, 1, 3, 4] rfl ?_
          exact F
        · replace F := F.2 c11
          by_cases c12 : (yrem r2 4) = 2
          · replace F := F.1 c12
            rw [show ySw 0 (yTg zGG 4) 110 (yrem r2 4) = 98 from by rw [c12]; rfl]
            refine e_11 (f_71 (pc := 98) (e := (98, 11, 4, 0, 0, 0, 0, 100)) rfl) rfl ?_
            refine e_12 (f_71 (pc := 100) (e := (100, 12, 0, 0, 0, 0, 0, 101)) rfl) rfl ?_
            refine e_90 zA (f_71 (pc := 101) (e := (101, 90, 6, 0, 0, 57, 954, 104)) rfl) rfl (hT 91 rfl) rfl rfl ?_
            refine e_31 (f_71 (pc := 104) (e := (104, 31, 0, 0, 0, 0, 0, 105)) rfl) ?_
            refine e_21 (f_71 (pc := 105) (e := (105, 21, 4, 0, 0, 0, 0, 107)) rfl) ?_
            refine e_80 (f_71 (pc := 107) (e := (107, 80, 113, 0, 0, 0, 0, 110)) rfl) ?_
            refine e_lo [0, 1, 3, 4] rfl ?_
            exact F
          · replace F := F.2 c12
            rw [show ySw 0 (yTg zGG 4) 110 (yrem r2 4) = 110 from ySw_out (n := 3) rfl (by omega)]
            refine e_26 (f_71 (pc := 110) (e := (110, 26, 4, 1, 0, 0, 0, 113)) rfl) (w := 1) rfl rfl ?_
            refine e_lo [0, 1, 3, 4] rfl ?_
            exact F
    · replace F := F.2 c7
      refine e_12 (f_71 (pc := 35) (e := (35, 12, 0, 0, 0, 0, 0, 36)) rfl) rfl ?_
      refine e_90r zA (f_71 (pc := 36) (e := (36, 90, 6, 4, 3, 15, 940, 39)) rfl) rfl (hT 91 rfl) rfl rfl (hR 91 4 rfl) ?_
      refine e_10 (f_71 (pc := 39) (e := (39, 10, 3, 0, 0, 0, 0, 40)) rfl) rfl ?_
      obtain ⟨b13, b14, F⟩ := F
      refine e_110 (f_71 (pc := 40) (e := (40, 110, 0, 0, 0, 0, 0, 41)) rfl) rfl (hT 93 rfl) b13 b14 ?_
      refine e_80 (f_71 (pc := 41) (e := (41, 80, 50, 0, 0, 0, 0, 44)) rfl) ?_
      refine e_21 (f_71 (pc := 50) (e := (50, 21, 4, 0, 0, 0, 0, 52)) rfl) ?_
      refine e_10 (f_71 (pc := 52) (e := (52, 10, 2, 0, 0, 0, 0, 53)) rfl) rfl ?_
      refine e_0 (f_71 (pc := 53) (e := (53, 0, 4, 0, 0, 0, 0, 54)) rfl) (v := 4) rfl ?_
      refine e_34 (f_71 (pc := 54) (e := (54, 34, 0, 0, 0, 0, 0, 55)) rfl) (by decide) ?_
      refine e_83 (f_71 (pc := 55) (e := (55, 83, 2147483648, 3, 4, 0, 0, 110)) rfl) (v := (yrem r2 4)) (low := 0) rfl ?_
      by_cases c15 : (yrem r2 4) = 0
      · replace F := F.1 c15
        rw [show ySw 0 (yTg zGG 4) 110 (yrem r2 4) = 80 from by rw [c15]; rfl]
        refine e_11 (f_71 (pc := 80) (e := (80, 11, 4, 0, 0, 0, 0, 82)) rfl) rfl ?_
        refine e_12 (f_71 (pc := 82) (e := (82, 12, 0, 0, 0, 0, 0, 83)) rfl) rfl ?_
        refine e_90 zA (f_71 (pc := 83) (e := (83, 90, 6, 0, 0, 57, 954, 86)) rfl) rfl (hT 91 rfl) rfl rfl ?_
        refine e_30 (f_71 (pc := 86) (e := (86, 30, 0, 0, 0, 0, 0, 87)) rfl) ?_
        refine e_21 (f_71 (pc := 87) (e := (87, 21, 4, 0, 0, 0, 0, 89)) rfl) ?_
        refine e_80 (f_71 (pc := 89) (e := (89, 80, 113, 0, 0, 0, 0, 92)) rfl) ?_
        refine e_lo [0, 1, 3, 4] rfl ?_
        exact F
      · replace F := F.2 c15
        by_cases c16 : (yrem r2 4) = 1
        · replace F := F.1 c16
          rw [show ySw 0 (yTg zGG 4) 110 (yrem r2 4) = 92 from by rw [c16]; rfl]
          refine e_26 (f_71 (pc := 92) (e := (92, 26, 4, 4294967295, 0, 0, 0, 95)) rfl) (w := (-1)) rfl rfl ?_
          refine e_80 (f_71 (pc := 95) (e := (95, 80, 113, 0, 0, 0, 0, 98)) rfl) ?_
          refine e_lo [0, 1, 3, 4] rfl ?_
          exact F
        · replace F := F.2 c16
          by_cases c17 : (yrem r2 4) = 2
          · replace F := F.1 c17
            rw [show ySw 0 (yTg zGG 4) 110 (yrem r2 4) = 98 from by rw [c17]; rfl]
            refine e_11 (f_71 (pc := 98) (e := (98, 11, 4, 0, 0, 0, 0, 100)) rfl) rfl ?_
            refine e_12 (f_71 (pc := 100) (e := (100, 12, 0, 0, 0, 0, 0, 101)) rfl) rfl ?_
            refine e_90 zA (f_71 (pc := 101) (e := (101, 90, 6, 0, 0, 57, 954, 104)) rfl) rfl (hT 91 rfl) rfl rfl ?_
            refine e_31 (f_71 (pc := 104) (e := (104, 31, 0, 0, 0, 0, 0, 105)) rfl) ?_
            refine e_21 (f_71 (pc := 105) (e := (105, 21, 4, 0, 0, 0, 0, 107)) rfl) ?_
            refine e_80 (f_71 (pc := 107) (e := (107, 80, 113, 0, 0, 0, 0, 110)) rfl) ?_
            refine e_lo [0, 1, 3, 4] rfl ?_
            exact F
          · replace F := F.2 c17
            rw [show ySw 0 (yTg zGG 4) 110 (yrem r2 4) = 110 from ySw_out (n := 3) rfl (by omega)]
            refine e_26 (f_71 (pc := 110) (e := (110, 26, 4, 1, 0, 0, 0, 113)) rfl) (w := 1) rfl rfl ?_
            refine e_lo [0, 1, 3, 4] rfl ?_
            exact F
  · replace F := F.2 c3
    refine e_10 (f_71 (pc := 15) (e := (15, 10, 1, 0, 0, 0, 0, 16)) rfl) rfl ?_
    exact e_120 (f_71 (pc := 16) (e := (16, 120, 0, 0, 0, 0, 0, 17)) rfl) F
set_option maxRecDepth 20000 in
theorem B_71_113 (hT : yLT T) (hR : yLR R) {vs ns : Nat} (hvs : R 91 9 = some vs) (hTvs : T vs = (0, ns)) (hns : ns < 2147483648) {vq nq : Nat} (hvq : R 91 10 = some vq) (hTvq : T vq = (1, nq)) (hnq : nq < 2147483648) {vt nt : Nat} (hvt : R 91 12 = some vt) (hTvt : T vt = (1, nt)) (hnt : nt < 2147483648) {x1 x3 x4 : Int} (F : 0 ≤ x3 ∧ x3 < 3 ∧ (0 ≤ x3 ∧ x3 < 3 ∧ (K (some (yi (yadd x1 (ymul (ysub x4 (I 95 x3.toNat)) (I 94 x3.toNat))))) (N, T, R, I)))) :
    yW l zSS D cy zFk z d 71 bc bs K 0 0 113 [(0, yr (some 91)), (1, yi x1), (3, yi x3), (4, yi x4)] [] (N, T, R, I) := by
  refine e_10 (f_71 (pc := 113) (e := (113, 10, 1, 0, 0, 0, 0, 114)) rfl) rfl ?_
  refine e_11 (f_71 (pc := 114) (e := (114, 11, 4, 0, 0, 0, 0, 116)) rfl) rfl ?_
  refine e_12 (f_71 (pc := 116) (e := (116, 12, 0, 0, 0, 0, 0, 117)) rfl) rfl ?_
  refine e_90r zA (f_71 (pc := 117) (e := (117, 90, 6, 6, 3, 21, 942, 120)) rfl) rfl (hT 91 rfl) rfl rfl (hR 91 6 rfl) ?_
  refine e_10 (f_71 (pc := 120) (e := (120, 10, 3, 0, 0, 0, 0, 121)) rfl) rfl ?_
  obtain ⟨b1, b2, F⟩ := F
  refine e_110 (f_71 (pc := 121) (e := (121, 110, 0, 0, 0, 0, 0, 122)) rfl) rfl (hT 95 rfl) b1 b2 ?_
  refine e_31 (f_71 (pc := 122) (e := (122, 31, 0, 0, 0, 0, 0, 123)) rfl) ?_
  refine e_12 (f_71 (pc := 123) (e := (123, 12, 0, 0, 0, 0, 0, 124)) rfl) rfl ?_
  refine e_90r zA (f_71 (pc := 124) (e := (124, 90, 6, 5, 3, 18, 941, 127)) rfl) rfl (hT 91 rfl) rfl rfl (hR 91 5 rfl) ?_
  refine e_10 (f_71 (pc := 127) (e := (127, 10, 3, 0, 0, 0, 0, 128)) rfl) rfl ?_
  obtain ⟨b3, b4, F⟩ := F
  refine e_110 (f_71 (pc := 128) (e := (128, 110, 0, 0, 0, 0, 0, 129)) rfl) rfl (hT 94 rfl) b3 b4 ?_
  refine e_32 (f_71 (pc := 129) (e := (129, 32, 0, 0, 0, 0, 0, 130)) rfl) ?_
  refine e_30 (f_71 (pc := 130) (e := (130, 30, 0, 0, 0, 0, 0, 131)) rfl) ?_
  exact e_120 (f_71 (pc := 131) (e := (131, 120, 0, 0, 0, 0, 0, 0)) rfl) F

/-! ChairAlley$Untier.knotNow(LChairAlley$Land;LChairAlley$State;)I -/
set_option maxRecDepth 20000 in
theorem B_72_0 (hT : yLT T) (hR : yLR R) {vs ns : Nat} (hvs : R 91 9 = some vs) (hTvs : T vs = (0, ns)) (hns : ns < 2147483648) {vq nq : Nat} (hvq : R 91 10 = some vq) (hTvq : T vq = (1, nq)) (hnq : nq < 2147483648) {vt nt : Nat} (hvt : R 91 12 = some vt) (hTvt : T vt = (1, nt)) (hnt : nt < 2147483648) (F : yW l zSS D cy zFk z d 72 bc bs K 0 0 5 [(0, yr (some 91)), (1, yr (some 4)), (2, yr (some 16)), (3, yi 0), (4, yi 0)] [] (N, T, R, I)) :
    yW l zSS D cy zFk z d 72 bc bs K 0 0 0 [(0, yr (some 91)), (1, yr (some 4)), (2, yr (some 16))] [] (N, T, R, I) := by
  refine e_0 (f_72 (pc := 0) (e := (0, 0, 0, 0, 0, 0, 0, 1)) rfl) (v := 0) rfl ?_
  refine e_20 (f_72 (pc := 1) (e := (1, 20, 3, 0, 0, 0, 0, 2)) rfl) ?_
  refine e_0 (f_72 (pc := 2) (e := (2, 0, 0, 0, 0, 0, 0, 3)) rfl) (v := 0) rfl ?_
  refine e_21 (f_72 (pc := 3) (e := (3, 21, 4, 0, 0, 0, 0, 5)) rfl) ?_
  refine e_lo [0, 1, 2, 3, 4] rfl ?_
  exact F
set_option maxRecDepth 20000 in
theorem B_72_5 (hT : yLT T) (hR : yLR R) {vs ns : Nat} (hvs : R 91 9 = some vs) (hTvs : T vs = (0, ns)) (hns : ns < 2147483648) {vq nq : Nat} (hvq : R 91 10 = some vq) (hTvq : T vq = (1, nq)) (hnq : nq < 2147483648) {vt nt : Nat} (hvt : R 91 12 = some vt) (hTvt : T vt = (1, nt)) (hnt : nt < 2147483648) {x3 x4 : Int} (F : ((I 91 2) ≤ x4 → K (some (yi x3)) (N, T, R, I)) ∧ (¬ ((I 91 2) ≤ x4) → (3 ≤ x4 → K (some (yi x3)) (N, T, R, I)) ∧ (¬ (3 ≤ x4) → 0 ≤ x4 ∧ x4 < 3 ∧ (yW l zSS D cy zFk z d 11 0 0 (fun r h' => ∃ r6 I5, r = some (yi r6) ∧ h' = (N, T, R, I5) ∧ ((r6 = 0 → yW l zSS D cy zFk z (d + 1) 72 bc bs K 0 0 5 [(0, yr (some 91)), (1, yr (some 4)), (2, yr (some 16)), (3, yi x3), (4, yi (yadd x4 1))] [] (N, T, R, I5)) ∧ (¬ (r6 = 0) → 0 ≤ x4 ∧ x4 < 3 ∧ (0 ≤ (I5 92 x4.toNat) ∧ (I5 92 x4.toNat) < 8 ∧ (yW l zSS D cy zFk z d 80 0 0 (fun r h' => ∃ r13 I12, r = some (yi r13) ∧ h' = (N, T, R, I12) ∧ (0 ≤ x4 ∧ x4 < 3 ∧ (yW l zSS D cy zFk z (d + 1) 72 bc bs K 0 0 5 [(0, yr (some 91)), (1, yr (some 4)), (2, yr (some 16)), (3, yi (yadd x3 (ymul r13 (I12 94 x4.toNat)))), (4, yi (yadd x4 1))] [] (N, T, R, I12)))) 0 0 0 [(0, yr (some 91)), (1, yi (I5 20 (I5 92 x4.toNat).toNat))] [] (N, T, R, I5)))))) 0 0 0 [(0, yr (some 4)), (1, yi (I 92 x4.toNat))] [] (N, T, R, I))))) :
    yW l zSS D cy zFk z (d + 1) 72 bc bs K 0 0 5 [(0, yr (some 91)), (1, yr (some 4)), (2, yr (some 16)), (3, yi x3), (4, yi x4)] [] (N, T, R, I) := by
  refine e_11 (f_72 (pc := 5) (e := (5, 11, 4, 0, 0, 0, 0, 7)) rfl) rfl ?_
  refine e_12 (f_72 (pc := 7) (e := (7, 12, 0, 0, 0, 0, 0, 8)) rfl) rfl ?_
  refine e_90 zA (f_72 (pc := 8) (e := (8, 90, 6, 2, 0, 103, 949, 11)) rfl) rfl (hT 91 rfl) rfl rfl ?_
  refine e_73 (f_72 (pc := 11) (e := (11, 73, 67, 0, 0, 0, 0, 14)) rfl) (fun c1 => ?_) (fun c1 => ?_)
  · replace F := F.1 c1
    refine e_10 (f_72 (pc := 67) (e := (67, 10, 3, 0, 0, 0, 0, 68)) rfl) rfl ?_
    exact e_120 (f_72 (pc := 68) (e := (68, 120, 0, 0, 0, 0, 0, 0)) rfl) F
  · replace F := F.2 c1
    refine e_11 (f_72 (pc := 14) (e := (14, 11, 4, 0, 0, 0, 0, 16)) rfl) rfl ?_
    refine e_0 (f_72 (pc := 16) (e := (16, 0, 3, 0, 0, 0, 0, 17)) rfl) (v := 3) rfl ?_
    refine e_73 (f_72 (pc := 17) (e := (17, 73, 67, 0, 0, 0, 0, 20)) rfl) (fun c2 => ?_) (fun c2 => ?_)
    · replace F := F.1 c2
      refine e_10 (f_72 (pc := 67) (e := (67, 10, 3, 0, 0, 0, 0, 68)) rfl) rfl ?_
      exact e_120 (f_72 (pc := 68) (e := (68, 120, 0, 0, 0, 0, 0, 0)) rfl) F
    · replace F := F.2 c2
      refine e_12 (f_72 (pc := 20) (e := (20, 12, 1, 0, 0, 0, 0, 21)) rfl) rfl ?_
      refine e_12 (f_72 (pc := 21) (e := (21, 12, 0, 0, 0, 0, 0, 22)) rfl) rfl ?_
      refine e_90r zA (f_72 (pc := 22) (e := (22, 90, 6, 3, 3, 11, 939, 25)) rfl) rfl (hT 91 rfl) rfl rfl (hR 91 3 rfl) ?_
      refine e_11 (f_72 (pc := 25) (e := (25, 11, 4, 0, 0, 0, 0, 27)) rfl) rfl ?_
      obtain ⟨b3, b4, F⟩ := F
      refine e_110 (f_72 (pc := 27) (e := (27, 110, 0, 0, 0, 0, 0, 28)) rfl) rfl (hT 92 rfl) b3 b4 ?_
      refine e_130 (f_72 (pc := 28) (e := (28, 130, 11, 0, 1, 110, 955, 31)) rfl) zA (as := [yr (some 4), yi _]) (rest := []) rfl rfl rfl rfl (Nat.le_of_ble_eq_true rfl) (Nat.le_of_ble_eq_true rfl) ⟨_, _, _, rfl, (hT 4 rfl)⟩ (mc := 0) (ms := 0) (Nat.zero_le _) (Nat.zero_le _) ?_
      refine e_K ?_ F
      rintro r h' ⟨r6, I5, rfl, rfl, F⟩
      refine e_60 (f_72 (pc := 31) (e := (31, 60, 61, 0, 0, 0, 0, 34)) rfl) (fun c7 => ?_) (fun c7 => ?_)
      · replace F := F.1 c7
        refine e_26 (f_72 (pc := 61) (e := (61, 26, 4, 1, 0, 0, 0, 64)) rfl) (w := 1) rfl rfl ?_
        refine e_80 (f_72 (pc := 64) (e := (64, 80, 5, 0, 0, 0, 0, 67)) rfl) ?_
        refine e_lo [0, 1, 2, 3, 4] rfl ?_
        exact F
      · replace F := F.2 c7
        refine e_10 (f_72 (pc := 34) (e := (34, 10, 3, 0, 0, 0, 0, 35)) rfl) rfl ?_
        refine e_12 (f_72 (pc := 35) (e := (35, 12, 0, 0, 0, 0, 0, 36)) rfl) rfl ?_
        refine e_12 (f_72 (pc := 36) (e := (36, 12, 2, 0, 0, 0, 0, 37)) rfl) rfl ?_
        refine e_90r zA (f_72 (pc := 37) (e := (37, 90, 5, 4, 3, 106, 956, 40)) rfl) rfl (hT 16 rfl) rfl rfl (hR 16 4 rfl) ?_
        refine e_12 (f_72 (pc := 40) (e := (40, 12, 0, 0, 0, 0, 0, 41)) rfl) rfl ?_
        refine e_90r zA (f_72 (pc := 41) (e := (41, 90, 6, 3, 3, 11, 939, 44)) rfl) rfl (hT 91 rfl) rfl rfl (hR 91 3 rfl) ?_
        refine e_11 (f_72 (pc := 44) (e := (44, 11, 4, 0, 0, 0, 0, 46)) rfl) rfl ?_
        obtain ⟨b8, b9, F⟩ := F
        refine e_110 (f_72 (pc := 46) (e := (46, 110, 0, 0, 0, 0, 0, 47)) rfl) rfl (hT 92 rfl) b8 b9 ?_
        obtain ⟨b10, b11, F⟩ := F
        refine e_110 (f_72 (pc := 47) (e := (47, 110, 0, 0, 0, 0, 0, 48)) rfl) rfl (hT 20 rfl) b10 b11 ?_
        refine e_130 (f_72 (pc := 48) (e := (48, 130, 80, 0, 6, 87, 957, 51)) rfl) zA (as := [yr (some 91), yi _]) (rest := [yi x3]) rfl rfl rfl rfl (Nat.le_of_ble_eq_true rfl) (Nat.le_of_ble_eq_true rfl) ⟨_, _, _, rfl, (hT 91 rfl)⟩ (mc := 0) (ms := 0) (Nat.zero_le _) (Nat.zero_le _) ?_
        refine e_K ?_ F
        rintro r h' ⟨r13, I12, rfl, rfl, F⟩
        refine e_12 (f_72 (pc := 51) (e := (51, 12, 0, 0, 0, 0, 0, 52)) rfl) rfl ?_
        refine e_90r zA (f_72 (pc := 52) (e := (52, 90, 6, 5, 3, 18, 941, 55)) rfl) rfl (hT 91 rfl) rfl rfl (hR 91 5 rfl) ?_
        refine e_11 (f_72 (pc := 55) (e := (55, 11, 4, 0, 0, 0, 0, 57)) rfl) rfl ?_
        obtain ⟨b14, b15, F⟩ := F
        refine e_110 (f_72 (pc := 57) (e := (57, 110, 0, 0, 0, 0, 0, 58)) rfl) rfl (hT 94 rfl) b14 b15 ?_
        refine e_32 (f_72 (pc := 58) (e := (58, 32, 0, 0, 0, 0, 0, 59)) rfl) ?_
        refine e_30 (f_72 (pc := 59) (e := (59, 30, 0, 0, 0, 0, 0, 60)) rfl) ?_
        refine e_20 (f_72 (pc := 60) (e := (60, 20, 3, 0, 0, 0, 0, 61)) rfl) ?_
        refine e_26 (f_72 (pc := 61) (e := (61, 26, 4, 1, 0, 0, 0, 64)) rfl) (w := 1) rfl rfl ?_
        refine e_80 (f_72 (pc := 64) (e := (64, 80, 5, 0, 0, 0, 0, 67)) rfl) ?_
        refine e_lo [0, 1, 2, 3, 4] rfl ?_
        exact F

/-! ChairAlley$Untier.listMovers(LChairAlley$Land;LChairAlley$State;)I -/
set_option maxRecDepth 20000 in
theorem B_73_0 (hT : yLT T) (hR : yLR R) {vs ns : Nat} (hvs : R 91 9 = some vs) (hTvs : T vs = (0, ns)) (hns : ns < 2147483648) {vq nq : Nat} (hvq : R 91 10 = some vq) (hTvq : T vq = (1, nq)) (hnq : nq < 2147483648) {vt nt : Nat} (hvt : R 91 12 = some vt) (hTvt : T vt = (1, nt)) (hnt : nt < 2147483648) (F : ∀ I1, I1 = yU I 91 2 0 → (yW l zSS D cy zFk z d 73 bc bs K 0 0 10 [(0, yr (some 91)), (1, yr (some 4)), (2, yr (some 16)), (3, yi 1), (4, yi 0)] [] (N, T, R, I1))) :
    yW l zSS D cy zFk z d 73 bc bs K 0 0 0 [(0, yr (some 91)), (1, yr (some 4)), (2, yr (some 16))] [] (N, T, R, I) := by
  refine e_0 (f_73 (pc := 0) (e := (0, 0, 1, 0, 0, 0, 0, 1)) rfl) (v := 1) rfl ?_
  refine e_20 (f_73 (pc := 1) (e := (1, 20, 3, 0, 0, 0, 0, 2)) rfl) ?_
  refine e_12 (f_73 (pc := 2) (e := (2, 12, 0, 0, 0, 0, 0, 3)) rfl) rfl ?_
  refine e_0 (f_73 (pc := 3) (e := (3, 0, 0, 0, 0, 0, 0, 4)) rfl) (v := 0) rfl ?_
  refine e_91 zA (f_73 (pc := 4) (e := (4, 91, 6, 2, 0, 103, 949, 7)) rfl) rfl (hT 91 rfl) rfl rfl trivial ?_
  replace F := F _ rfl
  refine e_0 (f_73 (pc := 7) (e := (7, 0, 0, 0, 0, 0, 0, 8)) rfl) (v := 0) rfl ?_
  refine e_21 (f_73 (pc := 8) (e := (8, 21, 4, 0, 0, 0, 0, 10)) rfl) ?_
  refine e_lo [0, 1, 2, 3, 4] rfl ?_
  exact F
set_option maxRecDepth 20000 in
theorem B_73_10 (hT : yLT T) (hR : yLR R) {vs ns : Nat} (hvs : R 91 9 = some vs) (hTvs : T vs = (0, ns)) (hns : ns < 2147483648) {vq nq : Nat} (hvq : R 91 10 = some vq) (hTvq : T vq = (1, nq)) (hnq : nq < 2147483648) {vt nt : Nat} (hvt : R 91 12 = some vt) (hTvt : T vt = (1, nt)) (hnt : nt < 2147483648) {x3 x4 : Int} (F : ((I 4 5) ≤ x4 → K (some (yi x3)) (N, T, R, I)) ∧ (¬ ((I 4 5) ≤ x4) → (8 ≤ x4 → K (some (yi x3)) (N, T, R, I)) ∧ (¬ (8 ≤ x4) → (3 ≤ (I 91 2) → K (some (yi x3)) (N, T, R, I)) ∧ (¬ (3 ≤ (I 91 2)) → 0 ≤ x4 ∧ x4 < 8 ∧ (((I 20 x4.toNat) = (-1) → yW l zSS D cy zFk z (d + 1) 73 bc bs K 0 0 10 [(0, yr (some 91)), (1, yr (some 4)), (2, yr (some 16)), (3, yi x3), (4, yi (yadd x4 1))] [] (N, T, R, I)) ∧ (¬ ((I 20 x4.toNat) = (-1)) → 0 ≤ (I 91 2) ∧ (I 91 2) < 3 ∧ (∀ I9, I9 = yU I 92 ((I 91 2).toNat) (ynar 1 x4) → (0 ≤ x4 ∧ x4 < 8 ∧ (yW l zSS D cy zFk z d 80 0 0 (fun r h' => ∃ r13 I12, r = some (yi r13) ∧ h' = (N, T, R, I12) ∧ (0 ≤ (I9 91 2) ∧ (I9 91 2) < 3 ∧ (∀ I16, I16 = yU I12 93 ((I9 91 2).toNat) (ynar 1 r13) → (0 ≤ (I16 91 2) ∧ (I16 91 2) < 3 ∧ (∀ I19, I19 = yU I16 94 ((I16 91 2).toNat) (ynar 1 x3) → (∀ I20, I20 = yU I19 91 2 (yadd (I19 91 2) 1) → (yW l zSS D cy zFk z (d + 1) 73 bc bs K 0 0 10 [(0, yr (some 91)), (1, yr (some 4)), (2, yr (some 16)), (3, yi (ymul x3 (yadd (I19 91 1) 1))), (4, yi (yadd x4 1))] [] (N, T, R, I20)))))))) 0 0 0 [(0, yr (some 91)), (1, yi (I9 10 x4.toNat))] [] (N, T, R, I9)))))))))) :
    yW l zSS D cy zFk z (d + 1) 73 bc bs K 0 0 10 [(0, yr (some 91)), (1, yr (some 4)), (2, yr (some 16)), (3, yi x3), (4, yi x4)] [] (N, T, R, I) := by
  refine e_11 (f_73 (pc := 10) (e := (10, 11, 4, 0, 0, 0, 0, 12)) rfl) rfl ?_
  refine e_12 (f_73 (pc := 12) (e := (12, 12, 1, 0, 0, 0, 0, 13)) rfl) rfl ?_
  refine e_90 zA (f_73 (pc := 13) (e := (13, 90, 1, 5, 0, 49, 958, 16)) rfl) rfl (hT 4 rfl) rfl rfl ?_
  refine e_73 (f_73 (pc := 16) (e := (16, 73, 111, 0, 0, 0, 0, 19)) rfl) (fun c1 => ?_) (fun c1 => ?_)
  · replace F := F.1 c1
    refine e_10 (f_73 (pc := 111) (e := (111, 10, 3, 0, 0, 0, 0, 112)) rfl) rfl ?_
    exact e_120 (f_73 (pc := 112) (e := (112, 120, 0, 0, 0, 0, 0, 0)) rfl) F
  · replace F := F.2 c1
    refine e_11 (f_73 (pc := 19) (e := (19, 11, 4, 0, 0, 0, 0, 21)) rfl) rfl ?_
    refine e_1 (f_73 (pc := 21) (e := (21, 1, 8, 0, 0, 0, 0, 23)) rfl) (v := 8) rfl ?_
    refine e_73 (f_73 (pc := 23) (e := (23, 73, 111, 0, 0, 0, 0, 26)) rfl) (fun c2 => ?_) (fun c2 => ?_)
    · replace F := F.1 c2
      refine e_10 (f_73 (pc := 111) (e := (111, 10, 3, 0, 0, 0, 0, 112)) rfl) rfl ?_
      exact e_120 (f_73 (pc := 112) (e := (112, 120, 0, 0, 0, 0, 0, 0)) rfl) F
    · replace F := F.2 c2
      refine e_12 (f_73 (pc := 26) (e := (26, 12, 0, 0, 0, 0, 0, 27)) rfl) rfl ?_
      refine e_90 zA (f_73 (pc := 27) (e := (27, 90, 6, 2, 0, 103, 949, 30)) rfl) rfl (hT 91 rfl) rfl rfl ?_
      refine e_0 (f_73 (pc := 30) (e := (30, 0, 3, 0, 0, 0, 0, 31)) rfl) (v := 3) rfl ?_
      refine e_73 (f_73 (pc := 31) (e := (31, 73, 111, 0, 0, 0, 0, 34)) rfl) (fun c3 => ?_) (fun c3 => ?_)
      · replace F := F.1 c3
        refine e_10 (f_73 (pc := 111) (e := (111, 10, 3, 0, 0, 0, 0, 112)) rfl) rfl ?_
        exact e_120 (f_73 (pc := 112) (e := (112, 120, 0, 0, 0, 0, 0, 0)) rfl) F
      · replace F := F.2 c3
        refine e_12 (f_73 (pc := 34) (e := (34, 12, 2, 0, 0, 0, 0, 35)) rfl) rfl ?_
        refine e_90r zA (f_73 (pc := 35) (e := (35, 90, 5, 4, 3, 106, 956, 38)) rfl) rfl (hT 16 rfl) rfl rfl (hR 16 4 rfl) ?_
        refine e_11 (f_73 (pc := 38) (e := (38, 11, 4, 0, 0, 0, 0, 40)) rfl) rfl ?_
        obtain ⟨b4, b5, F⟩ := F
        refine e_110 (f_73 (pc := 40) (e := (40, 110, 0, 0, 0, 0, 0, 41)) rfl) rfl (hT 20 rfl) b4 b5 ?_
        refine e_0 (f_73 (pc := 41) (e := (41, 0, 4294967295, 0, 0, 0, 0, 42)) rfl) (v := (-1)) rfl ?_
        refine e_70 (f_73 (pc := 42) (e := (42, 70, 105, 0, 0, 0, 0, 45)) rfl) (fun c6 => ?_) (fun c6 => ?_)
        · replace F := F.1 c6
          refine e_26 (f_73 (pc := 105) (e := (105, 26, 4, 1, 0, 0, 0, 108)) rfl) (w := 1) rfl rfl ?_
          refine e_80 (f_73 (pc := 108) (e := (108, 80, 10, 0, 0, 0, 0, 111)) rfl) ?_
          refine e_lo [0, 1, 2, 3, 4] rfl ?_
          exact F
        · replace F := F.2 c6
          refine e_12 (f_73 (pc := 45) (e := (45, 12, 0, 0, 0, 0, 0, 46)) rfl) rfl ?_
          refine e_90r zA (f_73 (pc := 46) (e := (46, 90, 6, 3, 3, 11, 939, 49)) rfl) rfl (hT 91 rfl) rfl rfl (hR 91 3 rfl) ?_
          refine e_12 (f_73 (pc := 49) (e := (49, 12, 0, 0, 0, 0, 0, 50)) rfl) rfl ?_
          refine e_90 zA (f_73 (pc := 50) (e := (50, 90, 6, 2, 0, 103, 949, 53)) rfl) rfl (hT 91 rfl) rfl rfl ?_
          refine e_11 (f_73 (pc := 53) (e := (53, 11, 4, 0, 0, 0, 0, 55)) rfl) rfl ?_
          obtain ⟨b7, b8, F⟩ := F
          refine e_111 (f_73 (pc := 55) (e := (55, 111, 0, 0, 0, 0, 0, 56)) rfl) rfl (hT 92 rfl) b7 b8 ?_
          replace F := F _ rfl
          refine e_12 (f_73 (pc := 56) (e := (56, 12, 0, 0, 0, 0, 0, 57)) rfl) rfl ?_
          refine e_90r zA (f_73 (pc := 57) (e := (57, 90, 6, 4, 3, 15, 940, 60)) rfl) rfl (hT 91 rfl) rfl rfl (hR 91 4 rfl) ?_
          refine e_12 (f_73 (pc := 60) (e := (60, 12, 0, 0, 0, 0, 0, 61)) rfl) rfl ?_
          refine e_90 zA (f_73 (pc := 61) (e := (61, 90, 6, 2, 0, 103, 949, 64)) rfl) rfl (hT 91 rfl) rfl rfl ?_
          refine e_12 (f_73 (pc := 64) (e := (64, 12, 0, 0, 0, 0, 0, 65)) rfl) rfl ?_
          refine e_12 (f_73 (pc := 65) (e := (65, 12, 1, 0, 0, 0, 0, 66)) rfl) rfl ?_
          refine e_90r zA (f_73 (pc := 66) (e := (66, 90, 1, 8, 3, 109, 959, 69)) rfl) rfl (hT 4 rfl) rfl rfl (hR 4 8 rfl) ?_
          refine e_11 (f_73 (pc := 69) (e := (69, 11, 4, 0, 0, 0, 0, 71)) rfl) rfl ?_
          obtain ⟨b10, b11, F⟩ := F
          refine e_110 (f_73 (pc := 71) (e := (71, 110, 0, 0, 0, 0, 0, 72)) rfl) rfl (hT 10 rfl) b10 b11 ?_
          refine e_130 (f_73 (pc := 72) (e := (72, 130, 80, 0, 6, 87, 957, 75)) rfl) zA (as := [yr (some 91), yi _]) (rest := [yi _, yr (some 93)]) rfl rfl rfl rfl (Nat.le_of_ble_eq_true rfl) (Nat.le_of_ble_eq_true rfl) ⟨_, _, _, rfl, (hT 91 rfl)⟩ (mc := 0) (ms := 0) (Nat.zero_le _) (Nat.zero_le _) ?_
          refine e_K ?_ F
          rintro r h' ⟨r13, I12, rfl, rfl, F⟩
          obtain ⟨b14, b15, F⟩ := F
          refine e_111 (f_73 (pc := 75) (e := (75, 111, 0, 0, 0, 0, 0, 76)) rfl) rfl (hT 93 rfl) b14 b15 ?_
          replace F := F _ rfl
          refine e_12 (f_73 (pc := 76) (e := (76, 12, 0, 0, 0, 0, 0, 77)) rfl) rfl ?_
          refine e_90r zA (f_73 (pc := 77) (e := (77, 90, 6, 5, 3, 18, 941, 80)) rfl) rfl (hT 91 rfl) rfl rfl (hR 91 5 rfl) ?_
          refine e_12 (f_73 (pc := 80) (e := (80, 12, 0, 0, 0, 0, 0, 81)) rfl) rfl ?_
          refine e_90 zA (f_73 (pc := 81) (e := (81, 90, 6, 2, 0, 103, 949, 84)) rfl) rfl (hT 91 rfl) rfl rfl ?_
          refine e_10 (f_73 (pc := 84) (e := (84, 10, 3, 0, 0, 0, 0, 85)) rfl) rfl ?_
          obtain ⟨b17, b18, F⟩ := F
          refine e_111 (f_73 (pc := 85) (e := (85, 111, 0, 0, 0, 0, 0, 86)) rfl) rfl (hT 94 rfl) b17 b18 ?_
          replace F := F _ rfl
          refine e_10 (f_73 (pc := 86) (e := (86, 10, 3, 0, 0, 0, 0, 87)) rfl) rfl ?_
          refine e_12 (f_73 (pc := 87) (e := (87, 12, 0, 0, 0, 0, 0, 88)) rfl) rfl ?_
          refine e_90 zA (f_73 (pc := 88) (e := (88, 90, 6, 1, 0, 58, 950, 91)) rfl) rfl (hT 91 rfl) rfl rfl ?_
          refine e_0 (f_73 (pc := 91) (e := (91, 0, 1, 0, 0, 0, 0, 92)) rfl) (v := 1) rfl ?_
          refine e_30 (f_73 (pc := 92) (e := (92, 30, 0, 0, 0, 0, 0, 93)) rfl) ?_
          refine e_32 (f_73 (pc := 93) (e := (93, 32, 0, 0, 0, 0, 0, 94)) rfl) ?_
          refine e_20 (f_73 (pc := 94) (e := (94, 20, 3, 0, 0, 0, 0, 95)) rfl) ?_
          refine e_12 (f_73 (pc := 95) (e := (95, 12, 0, 0, 0, 0, 0, 96)) rfl) rfl ?_
          refine e_50 (f_73 (pc := 96) (e := (96, 50, 0, 0, 0, 0, 0, 97)) rfl) rfl ?_
          refine e_90 zA (f_73 (pc := 97) (e := (97, 90, 6, 2, 0, 103, 949, 100)) rfl) rfl (hT 91 rfl) rfl rfl ?_
          refine e_0 (f_73 (pc := 100) (e := (100, 0, 1, 0, 0, 0, 0, 101)) rfl) (v := 1) rfl ?_
          refine e_30 (f_73 (pc := 101) (e := (101, 30, 0, 0, 0, 0, 0, 102)) rfl) ?_
          refine e_91 zA (f_73 (pc := 102) (e := (102, 91, 6, 2, 0, 103, 949, 105)) rfl) rfl (hT 91 rfl) rfl rfl trivial ?_
          replace F := F _ rfl
          refine e_26 (f_73 (pc := 105) (e := (105, 26, 4, 1, 0, 0, 0, 108)) rfl) (w := 1) rfl rfl ?_
          refine e_80 (f_73 (pc := 108) (e := (108, 80, 10, 0, 0, 0, 0, 111)) rfl) ?_
          refine e_lo [0, 1, 2, 3, 4] rfl ?_
          exact F

/-! ChairAlley$Untier.readLand(LChairAlley$Land;LChairAlley$State;)V -/
set_option maxRecDepth 20000 in
theorem B_75_0 (hT : yLT T) (hR : yLR R) {vs ns : Nat} (hvs : R 91 9 = some vs) (hTvs : T vs = (0, ns)) (hns : ns < 2147483648) {vq nq : Nat} (hvq : R 91 10 = some vq) (hTvq : T vq = (1, nq)) (hnq : nq < 2147483648) {vt nt : Nat} (hvt : R 91 12 = some vt) (hTvt : T vt = (1, nt)) (hnt : nt < 2147483648) (F : yW l zSS D cy zFk z d 75 bc bs K 0 0 2 [(0, yr (some 91)), (1, yr (some 4)), (2, yr (some 16)), (3, yi 0)] [] (N, T, R, I)) :
    yW l zSS D cy zFk z d 75 bc bs K 0 0 0 [(0, yr (some 91)), (1, yr (some 4)), (2, yr (some 16))] [] (N, T, R, I) := by
  refine e_0 (f_75 (pc := 0) (e := (0, 0, 0, 0, 0, 0, 0, 1)) rfl) (v := 0) rfl ?_
  refine e_20 (f_75 (pc := 1) (e := (1, 20, 3, 0, 0, 0, 0, 2)) rfl) ?_
  refine e_lo [0, 1, 2, 3] rfl ?_
  exact F
set_option maxRecDepth 20000 in
theorem B_75_2 (hT : yLT T) (hR : yLR R) {vs ns : Nat} (hvs : R 91 9 = some vs) (hTvs : T vs = (0, ns)) (hns : ns < 2147483648) {vq nq : Nat} (hvq : R 91 10 = some vq) (hTvq : T vq = (1, nq)) (hnq : nq < 2147483648) {vt nt : Nat} (hvt : R 91 12 = some vt) (hTvt : T vt = (1, nt)) (hnt : nt < 2147483648) {x3 : Int} (F : (100 ≤ x3 → K none (N, T, R, I)) ∧ (¬ (100 ≤ x3) → yW l zSS D cy zFk z d 80 0 0 (fun r h' => ∃ r3 I2, r = some (yi r3) ∧ h' = (N, T, R, I2) ∧ (yW l zSS D cy zFk z d 10 0 0 (fun r h' => ∃ r5 I4, r = some (yi r5) ∧ h' = (N, T, R, I4) ∧ ((r5 = 0 → yW l zSS D cy zFk z (d + 1) 75 bc bs K 0 0 2 [(0, yr (some 91)), (1, yr (some 4)), (2, yr (some 16)), (3, yi (yadd x3 1))] [] (N, T, R, I4)) ∧ (¬ (r5 = 0) → (r3 < 36 → yW l zSS D cy zFk z d 12 0 0 (fun r h' => ∃ r9 I8, r = some (yi r9) ∧ h' = (N, T, R, I8) ∧ ((r9 = 0 → 0 ≤ r3 ∧ r3 < 36 ∧ (∀ I13, I13 = yU I8 97 r3.toNat (ynar 1 1) → (yW l zSS D cy zFk z (d + 1) 75 bc bs K 0 0 57 [(0, yr (some 91)), (1, yr (some 4)), (2, yr (some 16)), (3, yi x3), (4, yi r3), (5, yi 0)] [] (N, T, R, I13)))) ∧ (¬ (r9 = 0) → 0 ≤ r3 ∧ r3 < 36 ∧ (∀ I16, I16 = yU I8 97 r3.toNat (ynar 1 2) → (yW l zSS D cy zFk z (d + 1) 75 bc bs K 0 0 57 [(0, yr (some 91)), (1, yr (some 4)), (2, yr (some 16)), (3, yi x3), (4, yi r3), (5, yi 0)] [] (N, T, R, I16)))))) 0 0 0 [(0, yr (some 4)), (1, yi x3), (2, yi 3)] [] (N, T, R, I4)) ∧ (¬ (r3 < 36) → yW l zSS D cy zFk z (d + 1) 75 bc bs K 0 0 2 [(0, yr (some 91)), (1, yr (some 4)), (2, yr (some 16)), (3, yi (yadd x3 1))] [] (N, T, R, I4))))) 0 0 0 [(0, yr (some 4)), (1, yi x3)] [] (N, T, R, I2))) 0 0 0 [(0, yr (some 91)), (1, yi x3)] [] (N, T, R, I))) :
    yW l zSS D cy zFk z (d + 1) 75 bc bs K 0 0 2 [(0, yr (some 91)), (1, yr (some 4)), (2, yr (some 16)), (3, yi x3)] [] (N, T, R, I) := by
  refine e_10 (f_75 (pc := 2) (e := (2, 10, 3, 0, 0, 0, 0, 3)) rfl) rfl ?_
  refine e_1 (f_75 (pc := 3) (e := (3, 1, 100, 0, 0, 0, 0, 5)) rfl) (v := 100) rfl ?_
  refine e_73 (f_75 (pc := 5) (e := (5, 73, 116, 0, 0, 0, 0, 8)) rfl) (fun c1 => ?_) (fun c1 => ?_)
  · replace F := F.1 c1
    exact e_122 (f_75 (pc := 116) (e := (116, 122, 0, 0, 0, 0, 0, 0)) rfl) F
  · replace F := F.2 c1
    refine e_12 (f_75 (pc := 8) (e := (8, 12, 0, 0, 0, 0, 0, 9)) rfl) rfl ?_
    refine e_10 (f_75 (pc := 9) (e := (9, 10, 3, 0, 0, 0, 0, 10)) rfl) rfl ?_
    refine e_130 (f_75 (pc := 10) (e := (10, 130, 80, 0, 6, 87, 957, 13)) rfl) zA (as := [yr (some 91), yi x3]) (rest := []) rfl rfl rfl rfl (Nat.le_of_ble_eq_true rfl) (Nat.le_of_ble_eq_true rfl) ⟨_, _, _, rfl, (hT 91 rfl)⟩ (mc := 0) (ms := 0) (Nat.zero_le _) (Nat.zero_le _) ?_
    refine e_K ?_ F
    rintro r h' ⟨r3, I2, rfl, rfl, F⟩
    refine e_21 (f_75 (pc := 13) (e := (13, 21, 4, 0, 0, 0, 0, 15)) rfl) ?_
    refine e_12 (f_75 (pc := 15) (e := (15, 12, 1, 0, 0, 0, 0, 16)) rfl) rfl ?_
    refine e_10 (f_75 (pc := 16) (e := (16, 10, 3, 0, 0, 0, 0, 17)) rfl) rfl ?_
    refine e_130 (f_75 (pc := 17) (e := (17, 130, 10, 0, 1, 90, 960, 20)) rfl) zA (as := [yr (some 4), yi x3]) (rest := []) rfl rfl rfl rfl (Nat.le_of_ble_eq_true rfl) (Nat.le_of_ble_eq_true rfl) ⟨_, _, _, rfl, (hT 4 rfl)⟩ (mc := 0) (ms := 0) (Nat.zero_le _) (Nat.zero_le _) ?_
    refine e_K ?_ F
    rintro r h' ⟨r5, I4, rfl, rfl, F⟩
    refine e_60 (f_75 (pc := 20) (e := (20, 60, 110, 0, 0, 0, 0, 23)) rfl) (fun c6 => ?_) (fun c6 => ?_)
    · replace F := F.1 c6
      refine e_26 (f_75 (pc := 110) (e := (110, 26, 3, 1, 0, 0, 0, 113)) rfl) (w := 1) rfl rfl ?_
      refine e_80 (f_75 (pc := 113) (e := (113, 80, 2, 0, 0, 0, 0, 116)) rfl) ?_
      refine e_lo [0, 1, 2, 3] rfl ?_
      exact F
    · replace F := F.2 c6
      refine e_11 (f_75 (pc := 23) (e := (23, 11, 4, 0, 0, 0, 0, 25)) rfl) rfl ?_
      refine e_1 (f_75 (pc := 25) (e := (25, 1, 36, 0, 0, 0, 0, 27)) rfl) (v := 36) rfl ?_
      refine e_72 (f_75 (pc := 27) (e := (27, 72, 33, 0, 0, 0, 0, 30)) rfl) (fun c7 => ?_) (fun c7 => ?_)
      · replace F := F.1 c7
        refine e_12 (f_75 (pc := 33) (e := (33, 12, 0, 0, 0, 0, 0, 34)) rfl) rfl ?_
        refine e_90r zA (f_75 (pc := 34) (e := (34, 90, 6, 8, 3, 27, 944, 37)) rfl) rfl (hT 91 rfl) rfl rfl (hR 91 8 rfl) ?_
        refine e_11 (f_75 (pc := 37) (e := (37, 11, 4, 0, 0, 0, 0, 39)) rfl) rfl ?_
        refine e_12 (f_75 (pc := 39) (e := (39, 12, 1, 0, 0, 0, 0, 40)) rfl) rfl ?_
        refine e_10 (f_75 (pc := 40) (e := (40, 10, 3, 0, 0, 0, 0, 41)) rfl) rfl ?_
        refine e_0 (f_75 (pc := 41) (e := (41, 0, 3, 0, 0, 0, 0, 42)) rfl) (v := 3) rfl ?_
        refine e_130 (f_75 (pc := 42) (e := (42, 130, 12, 0, 1, 94, 961, 45)) rfl) zA (as := [yr (some 4), yi x3, yi 3]) (rest := [yi r3, yr (some 97)]) rfl rfl rfl rfl (Nat.le_of_ble_eq_true rfl) (Nat.le_of_ble_eq_true rfl) ⟨_, _, _, rfl, (hT 4 rfl)⟩ (mc := 0) (ms := 0) (Nat.zero_le _) (Nat.zero_le _) ?_
        refine e_K ?_ F
        rintro r h' ⟨r9, I8, rfl, rfl, F⟩
        refine e_60 (f_75 (pc := 45) (e := (45, 60, 52, 0, 0, 0, 0, 48)) rfl) (fun c10 => ?_) (fun c10 => ?_)
        · replace F := F.1 c10
          refine e_0 (f_75 (pc := 52) (e := (52, 0, 1, 0, 0, 0, 0, 53)) rfl) (v := 1) rfl ?_
          obtain ⟨b11, b12, F⟩ := F
          refine e_111 (f_75 (pc := 53) (e := (53, 111, 0, 0, 0, 0, 0, 54)) rfl) rfl (hT 97 rfl) b11 b12 ?_
          replace F := F _ rfl
          refine e_0 (f_75 (pc := 54) (e := (54, 0, 0, 0, 0, 0, 0, 55)) rfl) (v := 0) rfl ?_
          refine e_21 (f_75 (pc := 55) (e := (55, 21, 5, 0, 0, 0, 0, 57)) rfl) ?_
          refine e_lo [0, 1, 2, 3, 4, 5] rfl ?_
          exact F
        · replace F := F.2 c10
          refine e_0 (f_75 (pc := 48) (e := (48, 0, 2, 0, 0, 0, 0, 49)) rfl) (v := 2) rfl ?_
          refine e_80 (f_75 (pc := 49) (e := (49, 80, 53, 0, 0, 0, 0, 52)) rfl) ?_
          obtain ⟨b14, b15, F⟩ := F
          refine e_111 (f_75 (pc := 53) (e := (53, 111, 0, 0, 0, 0, 0, 54)) rfl) rfl (hT 97 rfl) b14 b15 ?_
          replace F := F _ rfl
          refine e_0 (f_75 (pc := 54) (e := (54, 0, 0, 0, 0, 0, 0, 55)) rfl) (v := 0) rfl ?_
          refine e_21 (f_75 (pc := 55) (e := (55, 21, 5, 0, 0, 0, 0, 57)) rfl) ?_
          refine e_lo [0, 1, 2, 3, 4, 5] rfl ?_
          exact F
      · replace F := F.2 c7
        refine e_80 (f_75 (pc := 30) (e := (30, 80, 110, 0, 0, 0, 0, 33)) rfl) ?_
        refine e_26 (f_75 (pc := 110) (e := (110, 26, 3, 1, 0, 0, 0, 113)) rfl) (w := 1) rfl rfl ?_
        refine e_80 (f_75 (pc := 113) (e := (113, 80, 2, 0, 0, 0, 0, 116)) rfl) ?_
        refine e_lo [0, 1, 2, 3] rfl ?_
        exact F
set_option maxRecDepth 20000 in
theorem B_75_57 (hT : yLT T) (hR : yLR R) {vs ns : Nat} (hvs : R 91 9 = some vs) (hTvs : T vs = (0, ns)) (hns : ns < 2147483648) {vq nq : Nat} (hvq : R 91 10 = some vq) (hTvq : T vq = (1, nq)) (hnq : nq < 2147483648) {vt nt : Nat} (hvt : R 91 12 = some vt) (hTvt : T vt = (1, nt)) (hnt : nt < 2147483648) {x3 x4 x5 : Int} (F : (4 ≤ x5 → yW l zSS D cy zFk z (d + 1) 75 bc bs K 0 0 2 [(0, yr (some 91)), (1, yr (some 4)), (2, yr (some 16)), (3, yi (yadd x3 1))] [] (N, T, R, I)) ∧ (¬ (4 ≤ x5) → yW l zSS D cy zFk z d 25 0 0 (fun r h' => ∃ r3 I2, r = some (yi r3) ∧ h' = (N, T, R, I2) ∧ ((r3 ≠ (-1) → yW l zSS D cy zFk z d 80 0 0 (fun r h' => ∃ r6 I5, r = some (yi r6) ∧ h' = (N, T, R, I5) ∧ (0 ≤ (yadd (ymul x4 4) x5) ∧ (yadd (ymul x4 4) x5) < 144 ∧ (∀ I9, I9 = yU I5 96 ((yadd (ymul x4 4) x5).toNat) (ynar 1 r6) → (yW l zSS D cy zFk z (d + 1) 75 bc bs K 0 0 57 [(0, yr (some 91)), (1, yr (some 4)), (2, yr (some 16)), (3, yi x3), (4, yi x4), (5, yi (yadd x5 1))] [] (N, T, R, I9))))) 0 0 0 [(0, yr (some 91)), (1, yi r3)] [] (N, T, R, I2)) ∧ (¬ (r3 ≠ (-1)) → 0 ≤ (yadd (ymul x4 4) x5) ∧ (yadd (ymul x4 4) x5) < 144 ∧ (∀ I12, I12 = yU I2 96 ((yadd (ymul x4 4) x5).toNat) (ynar 1 (-1)) → (yW l zSS D cy zFk z (d + 1) 75 bc bs K 0 0 57 [(0, yr (some 91)), (1, yr (some 4)), (2, yr (some 16)), (3, yi x3), (4, yi x4), (5, yi (yadd x5 1))] [] (N, T, R, I12)))))) 0 0 0 [(0, yr (some 4)), (1, yr (some 17)), (2, yi x3), (3, yi x5)] [] (N, T, R, I))) :
    yW l zSS D cy zFk z (d + 1) 75 bc bs K 0 0 57 [(0, yr (some 91)), (1, yr (some 4)), (2, yr (some 16)), (3, yi x3), (4, yi x4), (5, yi x5)] [] (N, T, R, I) := by
  refine e_11 (f_75 (pc := 57) (e := (57, 11, 5, 0, 0, 0, 0, 59)) rfl) rfl ?_
  refine e_0 (f_75 (pc := 59) (e := (59, 0, 4, 0, 0, 0, 0, 60)) rfl) (v := 4) rfl ?_
  refine e_73 (f_75 (pc := 60) (e := (60, 73, 110, 0, 0, 0, 0, 63)) rfl) (fun c1 => ?_) (fun c1 => ?_)
  · replace F := F.1 c1
    refine e_26 (f_75 (pc := 110) (e := (110, 26, 3, 1, 0, 0, 0, 113)) rfl) (w := 1) rfl rfl ?_
    refine e_80 (f_75 (pc := 113) (e := (113, 80, 2, 0, 0, 0, 0, 116)) rfl) ?_
    refine e_lo [0, 1, 2, 3] rfl ?_
    exact F
  · replace F := F.2 c1
    refine e_12 (f_75 (pc := 63) (e := (63, 12, 1, 0, 0, 0, 0, 64)) rfl) rfl ?_
    refine e_12 (f_75 (pc := 64) (e := (64, 12, 2, 0, 0, 0, 0, 65)) rfl) rfl ?_
    refine e_90r zA (f_75 (pc := 65) (e := (65, 90, 5, 1, 3, 97, 962, 68)) rfl) rfl (hT 16 rfl) rfl rfl (hR 16 1 rfl) ?_
    refine e_10 (f_75 (pc := 68) (e := (68, 10, 3, 0, 0, 0, 0, 69)) rfl) rfl ?_
    refine e_11 (f_75 (pc := 69) (e := (69, 11, 5, 0, 0, 0, 0, 71)) rfl) rfl ?_
    refine e_130 (f_75 (pc := 71) (e := (71, 130, 25, 0, 1, 100, 963, 74)) rfl) zA (as := [yr (some 4), yr (some 17), yi x3, yi x5]) (rest := []) rfl rfl rfl rfl (Nat.le_of_ble_eq_true rfl) (Nat.le_of_ble_eq_true rfl) ⟨_, _, _, rfl, (hT 4 rfl)⟩ (mc := 0) (ms := 0) (Nat.zero_le _) (Nat.zero_le _) ?_
    refine e_K ?_ F
    rintro r h' ⟨r3, I2, rfl, rfl, F⟩
    refine e_21 (f_75 (pc := 74) (e := (74, 21, 6, 0, 0, 0, 0, 76)) rfl) ?_
    refine e_12 (f_75 (pc := 76) (e := (76, 12, 0, 0, 0, 0, 0, 77)) rfl) rfl ?_
    refine e_90r zA (f_75 (pc := 77) (e := (77, 90, 6, 7, 3, 24, 943, 80)) rfl) rfl (hT 91 rfl) rfl rfl (hR 91 7 rfl) ?_
    refine e_11 (f_75 (pc := 80) (e := (80, 11, 4, 0, 0, 0, 0, 82)) rfl) rfl ?_
    refine e_0 (f_75 (pc := 82) (e := (82, 0, 4, 0, 0, 0, 0, 83)) rfl) (v := 4) rfl ?_
    refine e_32 (f_75 (pc := 83) (e := (83, 32, 0, 0, 0, 0, 0, 84)) rfl) ?_
    refine e_11 (f_75 (pc := 84) (e := (84, 11, 5, 0, 0, 0, 0, 86)) rfl) rfl ?_
    refine e_30 (f_75 (pc := 86) (e := (86, 30, 0, 0, 0, 0, 0, 87)) rfl) ?_
    refine e_11 (f_75 (pc := 87) (e := (87, 11, 6, 0, 0, 0, 0, 89)) rfl) rfl ?_
    refine e_0 (f_75 (pc := 89) (e := (89, 0, 4294967295, 0, 0, 0, 0, 90)) rfl) (v := (-1)) rfl ?_
    refine e_71 (f_75 (pc := 90) (e := (90, 71, 97, 0, 0, 0, 0, 93)) rfl) (fun c4 => ?_) (fun c4 => ?_)
    · replace F := F.1 c4
      refine e_12 (f_75 (pc := 97) (e := (97, 12, 0, 0, 0, 0, 0, 98)) rfl) rfl ?_
      refine e_11 (f_75 (pc := 98) (e := (98, 11, 6, 0, 0, 0, 0, 100)) rfl) rfl ?_
      refine e_130 (f_75 (pc := 100) (e := (100, 130, 80, 0, 6, 87, 957, 103)) rfl) zA (as := [yr (some 91), yi r3]) (rest := [yi _, yr (some 96)]) rfl rfl rfl rfl (Nat.le_of_ble_eq_true rfl) (Nat.le_of_ble_eq_true rfl) ⟨_, _, _, rfl, (hT 91 rfl)⟩ (mc := 0) (ms := 0) (Nat.zero_le _) (Nat.zero_le _) ?_
      refine e_K ?_ F
      rintro r h' ⟨r6, I5, rfl, rfl, F⟩
      obtain ⟨b7, b8, F⟩ := F
      refine e_111 (f_75 (pc := 103) (e := (103, 111, 0, 0, 0, 0, 0, 104)) rfl) rfl (hT 96 rfl) b7 b8 ?_
      replace F := F _ rfl
      refine e_26 (f_75 (pc := 104) (e := (104, 26, 5, 1, 0, 0, 0, 107)) rfl) (w := 1) rfl rfl ?_
      refine e_80 (f_75 (pc := 107) (e := (107, 80, 57, 0, 0, 0, 0, 110)) rfl) ?_
      refine e_lo [0, 1, 2, 3, 4, 5] rfl ?_
      exact F
    · replace F := F.2 c4
      refine e_0 (f_75 (pc := 93) (e := (93, 0, 4294967295, 0, 0, 0, 0, 94)) rfl) (v := (-1)) rfl ?_
      refine e_80 (f_75 (pc := 94) (e := (94, 80, 103, 0, 0, 0, 0, 97)) rfl) ?_
      obtain ⟨b10, b11, F⟩ := F
      refine e_111 (f_75 (pc := 103) (e := (103, 111, 0, 0, 0, 0, 0, 104)) rfl) rfl (hT 96 rfl) b10 b11 ?_
      replace F := F _ rfl
      refine e_26 (f_75 (pc := 104) (e := (104, 26, 5, 1, 0, 0, 0, 107)) rfl) (w := 1) rfl rfl ?_
      refine e_80 (f_75 (pc := 107) (e := (107, 80, 57, 0, 0, 0, 0, 110)) rfl) ?_
      refine e_lo [0, 1, 2, 3, 4, 5] rfl ?_
      exact F

/-! ChairAlley$Untier.readSpots(I)V -/
set_option maxRecDepth 20000 in
theorem B_76_0 (hT : yLT T) (hR : yLR R) {vs ns : Nat} (hvs : R 91 9 = some vs) (hTvs : T vs = (0, ns)) (hns : ns < 2147483648) {vq nq : Nat} (hvq : R 91 10 = some vq) (hTvq : T vq = (1, nq)) (hnq : nq < 2147483648) {vt nt : Nat} (hvt : R 91 12 = some vt) (hTvt : T vt = (1, nt)) (hnt : nt < 2147483648) {x1 : Int} (F : yW l zSS D cy zFk z d 76 bc bs K 0 0 2 [(0, yr (some 91)), (1, yi x1), (2, yi 0)] [] (N, T, R, I)) :
    yW l zSS D cy zFk z d 76 bc bs K 0 0 0 [(0, yr (some 91)), (1, yi x1)] [] (N, T, R, I) := by
  refine e_0 (f_76 (pc := 0) (e := (0, 0, 0, 0, 0, 0, 0, 1)) rfl) (v := 0) rfl ?_
  refine e_20 (f_76 (pc := 1) (e := (1, 20, 2, 0, 0, 0, 0, 2)) rfl) ?_
  refine e_lo [0, 1, 2] rfl ?_
  exact F
set_option maxRecDepth 20000 in
theorem B_76_2 (hT : yLT T) (hR : yLR R) {vs ns : Nat} (hvs : R 91 9 = some vs) (hTvs : T vs = (0, ns)) (hns : ns < 2147483648) {vq nq : Nat} (hvq : R 91 10 = some vq) (hTvq : T vq = (1, nq)) (hnq : nq < 2147483648) {vt nt : Nat} (hvt : R 91 12 = some vt) (hTvt : T vt = (1, nt)) (hnt : nt < 2147483648) {x1 x2 : Int} (F : ((I 91 2) ≤ x2 → K none (N, T, R, I)) ∧ (¬ ((I 91 2) ≤ x2) → (3 ≤ x2 → K none (N, T, R, I)) ∧ (¬ (3 ≤ x2) → 0 ≤ x2 ∧ x2 < 3 ∧ (((I 94 x2.toNat) ≤ 0 → 0 ≤ x2 ∧ x2 < 3 ∧ (∀ I8, I8 = yU I 95 x2.toNat (ynar 1 0) → (yW l zSS D cy zFk z d 76 bc bs K 0 0 2 [(0, yr (some 91)), (1, yi x1), (2, yi (yadd x2 1))] [] (N, T, R, I8)))) ∧ (¬ ((I 94 x2.toNat) ≤ 0) → ((I 91 1) < 0 → 0 ≤ x2 ∧ x2 < 3 ∧ (∀ I12, I12 = yU I 95 x2.toNat (ynar 1 0) → (yW l zSS D cy zFk z d 76 bc bs K 0 0 2 [(0, yr (some 91)), (1, yi x1), (2, yi (yadd x2 1))] [] (N, T, R, I12)))) ∧ (¬ ((I 91 1) < 0) → 0 ≤ x2 ∧ x2 < 3 ∧ ((I 94 x2.toNat) ≠ 0 ∧ ((yadd (I 91 1) 1) ≠ 0 ∧ (0 ≤ x2 ∧ x2 < 3 ∧ (∀ I19, I19 = yU I 95 x2.toNat (ynar 1 (yrem (ydiv x1 (I 94 x2.toNat)) (yadd (I 91 1) 1))) → (yW l zSS D cy zFk z d 76 bc bs K 0 0 2 [(0, yr (some 91)), (1, yi x1), (2, yi (yadd x2 1))] [] (N, T, R, I19)))))))))))) :
    yW l zSS D cy zFk z d 76 bc bs K 0 0 2 [(0, yr (some 91)), (1, yi x1), (2, yi x2)] [] (N, T, R, I) := by
  refine e_10 (f_76 (pc := 2) (e := (2, 10, 2, 0, 0, 0, 0, 3)) rfl) rfl ?_
  refine e_12 (f_76 (pc := 3) (e := (3, 12, 0, 0, 0, 0, 0, 4)) rfl) rfl ?_
  refine e_90 zA (f_76 (pc := 4) (e := (4, 90, 6, 2, 0, 103, 949, 7)) rfl) rfl (hT 91 rfl) rfl rfl ?_
  refine e_73 (f_76 (pc := 7) (e := (7, 73, 62, 0, 0, 0, 0, 10)) rfl) (fun c1 => ?_) (fun c1 => ?_)
  · replace F := F.1 c1
    exact e_122 (f_76 (pc := 62) (e := (62, 122, 0, 0, 0, 0, 0, 0)) rfl) F
  · replace F := F.2 c1
    refine e_10 (f_76 (pc := 10) (e := (10, 10, 2, 0, 0, 0, 0, 11)) rfl) rfl ?_
    refine e_0 (f_76 (pc := 11) (e := (11, 0, 3, 0, 0, 0, 0, 12)) rfl) (v := 3) rfl ?_
    refine e_73 (f_76 (pc := 12) (e := (12, 73, 62, 0, 0, 0, 0, 15)) rfl) (fun c2 => ?_) (fun c2 => ?_)
    · replace F := F.1 c2
      exact e_122 (f_76 (pc := 62) (e := (62, 122, 0, 0, 0, 0, 0, 0)) rfl) F
    · replace F := F.2 c2
      refine e_12 (f_76 (pc := 15) (e := (15, 12, 0, 0, 0, 0, 0, 16)) rfl) rfl ?_
      refine e_90r zA (f_76 (pc := 16) (e := (16, 90, 6, 6, 3, 21, 942, 19)) rfl) rfl (hT 91 rfl) rfl rfl (hR 91 6 rfl) ?_
      refine e_10 (f_76 (pc := 19) (e := (19, 10, 2, 0, 0, 0, 0, 20)) rfl) rfl ?_
      refine e_12 (f_76 (pc := 20) (e := (20, 12, 0, 0, 0, 0, 0, 21)) rfl) rfl ?_
      refine e_90r zA (f_76 (pc := 21) (e := (21, 90, 6, 5, 3, 18, 941, 24)) rfl) rfl (hT 91 rfl) rfl rfl (hR 91 5 rfl) ?_
      refine e_10 (f_76 (pc := 24) (e := (24, 10, 2, 0, 0, 0, 0, 25)) rfl) rfl ?_
      obtain ⟨b3, b4, F⟩ := F
      refine e_110 (f_76 (pc := 25) (e := (25, 110, 0, 0, 0, 0, 0, 26)) rfl) rfl (hT 94 rfl) b3 b4 ?_
      refine e_65 (f_76 (pc := 26) (e := (26, 65, 54, 0, 0, 0, 0, 29)) rfl) (fun c5 => ?_) (fun c5 => ?_)
      · replace F := F.1 c5
        refine e_0 (f_76 (pc := 54) (e := (54, 0, 0, 0, 0, 0, 0, 55)) rfl) (v := 0) rfl ?_
        obtain ⟨b6, b7, F⟩ := F
        refine e_111 (f_76 (pc := 55) (e := (55, 111, 0, 0, 0, 0, 0, 56)) rfl) rfl (hT 95 rfl) b6 b7 ?_
        replace F := F _ rfl
        refine e_26 (f_76 (pc := 56) (e := (56, 26, 2, 1, 0, 0, 0, 59)) rfl) (w := 1) rfl rfl ?_
        refine e_80 (f_76 (pc := 59) (e := (59, 80, 2, 0, 0, 0, 0, 62)) rfl) ?_
        refine e_lo [0, 1, 2] rfl ?_
        exact F
      · replace F := F.2 c5
        refine e_12 (f_76 (pc := 29) (e := (29, 12, 0, 0, 0, 0, 0, 30)) rfl) rfl ?_
        refine e_90 zA (f_76 (pc := 30) (e := (30, 90, 6, 1, 0, 58, 950, 33)) rfl) rfl (hT 91 rfl) rfl rfl ?_
        refine e_62 (f_76 (pc := 33) (e := (33, 62, 54, 0, 0, 0, 0, 36)) rfl) (fun c9 => ?_) (fun c9 => ?_)
        · replace F := F.1 c9
          refine e_0 (f_76 (pc := 54) (e := (54, 0, 0, 0, 0, 0, 0, 55)) rfl) (v := 0) rfl ?_
          obtain ⟨b10, b11, F⟩ := F
          refine e_111 (f_76 (pc := 55) (e := (55, 111, 0, 0, 0, 0, 0, 56)) rfl) rfl (hT 95 rfl) b10 b11 ?_
          replace F := F _ rfl
          refine e_26 (f_76 (pc := 56) (e := (56, 26, 2, 1, 0, 0, 0, 59)) rfl) (w := 1) rfl rfl ?_
          refine e_80 (f_76 (pc := 59) (e := (59, 80, 2, 0, 0, 0, 0, 62)) rfl) ?_
          refine e_lo [0, 1, 2] rfl ?_
          exact F
        · replace F := F.2 c9
          refine e_10 (f_76 (pc := 36) (e := (36, 10, 1, 0, 0, 0, 0, 37)) rfl) rfl ?_
          refine e_12 (f_76 (pc := 37) (e := (37, 12, 0, 0, 0, 0, 0, 38)) rfl) rfl ?_
          refine e_90r zA (f_76 (pc := 38) (e := (38, 90, 6, 5, 3, 18, 941, 41)) rfl) rfl (hT 91 rfl) rfl rfl (hR 91 5 rfl) ?_
          refine e_10 (f_76 (pc := 41) (e := (41, 10, 2, 0, 0, 0, 0, 42)) rfl) rfl ?_
          obtain ⟨b13, b14, F⟩ := F
          refine e_110 (f_76 (pc := 42) (e := (42, 110, 0, 0, 0, 0, 0, 43)) rfl) rfl (hT 94 rfl) b13 b14 ?_
          obtain ⟨b15, F⟩ := F
          refine e_33 (f_76 (pc := 43) (e := (43, 33, 0, 0, 0, 0, 0, 44)) rfl) b15 ?_
          refine e_12 (f_76 (pc := 44) (e := (44, 12, 0, 0, 0, 0, 0, 45)) rfl) rfl ?_
          refine e_90 zA (f_76 (pc := 45) (e := (45, 90, 6, 1, 0, 58, 950, 48)) rfl) rfl (hT 91 rfl) rfl rfl ?_
          refine e_0 (f_76 (pc := 48) (e := (48, 0, 1, 0, 0, 0, 0, 49)) rfl) (v := 1) rfl ?_
          refine e_30 (f_76 (pc := 49) (e := (49, 30, 0, 0, 0, 0, 0, 50)) rfl) ?_
          obtain ⟨b16, F⟩ := F
          refine e_34 (f_76 (pc := 50) (e := (50, 34, 0, 0, 0, 0, 0, 51)) rfl) b16 ?_
          refine e_80 (f_76 (pc := 51) (e := (51, 80, 55, 0, 0, 0, 0, 54)) rfl) ?_
          obtain ⟨b17, b18, F⟩ := F
          refine e_111 (f_76 (pc := 55) (e := (55, 111, 0, 0, 0, 0, 0, 56)) rfl) rfl (hT 95 rfl) b17 b18 ?_
          replace F := F _ rfl
          refine e_26 (f_76 (pc := 56) (e := (56, 26, 2, 1, 0, 0, 0, 59)) rfl) (w := 1) rfl rfl ?_
          refine e_80 (f_76 (pc := 59) (e := (59, 80, 2, 0, 0, 0, 0, 62)) rfl) ?_
          refine e_lo [0, 1, 2] rfl ?_
          exact F

/-! ChairAlley$Untier.search(II)Z -/
set_option maxRecDepth 20000 in
theorem B_77_0 (hT : yLT T) (hR : yLR R) {vs ns : Nat} (hvs : R 91 9 = some vs) (hTvs : T vs = (0, ns)) (hns : ns < 2147483648) {vq nq : Nat} (hvq : R 91 10 = some vq) (hTvq : T vq = (1, nq)) (hnq : nq < 2147483648) {vt nt : Nat} (hvt : R 91 12 = some vt) (hTvt : T vt = (1, nt)) (hnt : nt < 2147483648) {x1 x2 : Int} (F : (x1 < 0 → K (some (yi 0)) (N, T, R, I)) ∧ (¬ (x1 < 0) → ((ns : Int) ≤ x1 → K (some (yi 0)) (N, T, R, I)) ∧ (¬ ((ns : Int) ≤ x1) → (x1 < (nq : Int) → 0 ≤ x1 ∧ x1 < (ns : Int) ∧ (∀ I6, I6 = yU I vs x1.toNat (ynar 0 100) → ((0 : Int) ≤ 0 ∧ 0 < (nq : Int) ∧ (∀ I9, I9 = yU I6 vq 0 (ynar 1 x1) → (∀ I10, I10 = yU I9 91 11 1 → (yW l zSS D cy zFk z d 77 bc bs K 0 0 46 [(0, yr (some 91)), (2, yi x2), (3, yi 0)] [] (N, T, R, I10))))))) ∧ (¬ (x1 < (nq : Int)) → K (some (yi 0)) (N, T, R, I))))) :
    yW l zSS D cy zFk z d 77 bc bs K 0 0 0 [(0, yr (some 91)), (1, yi x1), (2, yi x2)] [] (N, T, R, I) := by
  refine e_10 (f_77 (pc := 0) (e := (0, 10, 1, 0, 0, 0, 0, 1)) rfl) rfl ?_
  refine e_62 (f_77 (pc := 1) (e := (1, 62, 22, 0, 0, 0, 0, 4)) rfl) (fun c1 => ?_) (fun c1 => ?_)
  · replace F := F.1 c1
    refine e_0 (f_77 (pc := 22) (e := (22, 0, 0, 0, 0, 0, 0, 23)) rfl) (v := 0) rfl ?_
    exact e_121 (f_77 (pc := 23) (e := (23, 121, 0, 0, 0, 0, 0, 24)) rfl) (.inl rfl) F
  · replace F := F.2 c1
    refine e_10 (f_77 (pc := 4) (e := (4, 10, 1, 0, 0, 0, 0, 5)) rfl) rfl ?_
    refine e_12 (f_77 (pc := 5) (e := (5, 12, 0, 0, 0, 0, 0, 6)) rfl) rfl ?_
    refine e_90r zA (f_77 (pc := 6) (e := (6, 90, 6, 9, 3, 30, 945, 9)) rfl) rfl (hT 91 rfl) rfl rfl hvs ?_
    refine e_103 (f_77 (pc := 9) (e := (9, 103, 0, 0, 0, 0, 0, 10)) rfl) rfl hTvs (by decide) hns ?_
    refine e_73 (f_77 (pc := 10) (e := (10, 73, 22, 0, 0, 0, 0, 13)) rfl) (fun c2 => ?_) (fun c2 => ?_)
    · replace F := F.1 c2
      refine e_0 (f_77 (pc := 22) (e := (22, 0, 0, 0, 0, 0, 0, 23)) rfl) (v := 0) rfl ?_
      exact e_121 (f_77 (pc := 23) (e := (23, 121, 0, 0, 0, 0, 0, 24)) rfl) (.inl rfl) F
    · replace F := F.2 c2
      refine e_10 (f_77 (pc := 13) (e := (13, 10, 1, 0, 0, 0, 0, 14)) rfl) rfl ?_
      refine e_12 (f_77 (pc := 14) (e := (14, 12, 0, 0, 0, 0, 0, 15)) rfl) rfl ?_
      refine e_90r zA (f_77 (pc := 15) (e := (15, 90, 6, 10, 3, 34, 946, 18)) rfl) rfl (hT 91 rfl) rfl rfl hvq ?_
      refine e_103 (f_77 (pc := 18) (e := (18, 103, 0, 0, 0, 0, 0, 19)) rfl) rfl hTvq (by decide) hnq ?_
      refine e_72 (f_77 (pc := 19) (e := (19, 72, 24, 0, 0, 0, 0, 22)) rfl) (fun c3 => ?_) (fun c3 => ?_)
      · replace F := F.1 c3
        refine e_12 (f_77 (pc := 24) (e := (24, 12, 0, 0, 0, 0, 0, 25)) rfl) rfl ?_
        refine e_90r zA (f_77 (pc := 25) (e := (25, 90, 6, 9, 3, 30, 945, 28)) rfl) rfl (hT 91 rfl) rfl rfl hvs ?_
        refine e_10 (f_77 (pc := 28) (e := (28, 10, 1, 0, 0, 0, 0, 29)) rfl) rfl ?_
        refine e_1 (f_77 (pc := 29) (e := (29, 1, 100, 0, 0, 0, 0, 31)) rfl) (v := 100) rfl ?_
        obtain ⟨b4, b5, F⟩ := F
        refine e_113 (f_77 (pc := 31) (e := (31, 113, 0, 0, 0, 0, 0, 32)) rfl) rfl hTvs b4 b5 (.inl rfl) ?_
        replace F := F _ rfl
        refine e_12 (f_77 (pc := 32) (e := (32, 12, 0, 0, 0, 0, 0, 33)) rfl) rfl ?_
        refine e_90r zA (f_77 (pc := 33) (e := (33, 90, 6, 10, 3, 34, 946, 36)) rfl) rfl (hT 91 rfl) rfl rfl hvq ?_
        refine e_0 (f_77 (pc := 36) (e := (36, 0, 0, 0, 0, 0, 0, 37)) rfl) (v := 0) rfl ?_
        refine e_10 (f_77 (pc := 37) (e := (37, 10, 1, 0, 0, 0, 0, 38)) rfl) rfl ?_
        obtain ⟨b7, b8, F⟩ := F
        refine e_111 (f_77 (pc := 38) (e := (38, 111, 0, 0, 0, 0, 0, 39)) rfl) rfl hTvq b7 b8 ?_
        replace F := F _ rfl
        refine e_12 (f_77 (pc := 39) (e := (39, 12, 0, 0, 0, 0, 0, 40)) rfl) rfl ?_
        refine e_0 (f_77 (pc := 40) (e := (40, 0, 1, 0, 0, 0, 0, 41)) rfl) (v := 1) rfl ?_
        refine e_91 zA (f_77 (pc := 41) (e := (41, 91, 6, 11, 0, 113, 952, 44)) rfl) rfl (hT 91 rfl) rfl rfl trivial ?_
        replace F := F _ rfl
        refine e_0 (f_77 (pc := 44) (e := (44, 0, 0, 0, 0, 0, 0, 45)) rfl) (v := 0) rfl ?_
        refine e_20 (f_77 (pc := 45) (e := (45, 20, 3, 0, 0, 0, 0, 46)) rfl) ?_
        refine e_lo [0, 2, 3] rfl ?_
        exact F
      · replace F := F.2 c3
        refine e_0 (f_77 (pc := 22) (e := (22, 0, 0, 0, 0, 0, 0, 23)) rfl) (v := 0) rfl ?_
        exact e_121 (f_77 (pc := 23) (e := (23, 121, 0, 0, 0, 0, 0, 24)) rfl) (.inl rfl) F
set_option maxRecDepth 20000 in
theorem B_77_46 (hT : yLT T) (hR : yLR R) {vs ns : Nat} (hvs : R 91 9 = some vs) (hTvs : T vs = (0, ns)) (hns : ns < 2147483648) {vq nq : Nat} (hvq : R 91 10 = some vq) (hTvq : T vq = (1, nq)) (hnq : nq < 2147483648) {vt nt : Nat} (hvt : R 91 12 = some vt) (hTvt : T vt = (1, nt)) (hnt : nt < 2147483648) {x2 x3 : Int} (F : ((I 91 11) ≤ x3 → K (some (yi 0)) (N, T, R, I)) ∧ (¬ ((I 91 11) ≤ x3) → ((nq : Int) ≤ x3 → K (some (yi 0)) (N, T, R, I)) ∧ (¬ ((nq : Int) ≤ x3) → 0 ≤ x3 ∧ x3 < (nq : Int) ∧ (((I vq x3.toNat) ≠ x2 → 0 ≤ x3 ∧ x3 < (nq : Int) ∧ (yW l zSS D cy zFk z d 70 0 0 (fun r h' => ∃ I8, r = none ∧ h' = (N, T, R, I8) ∧ (yW l zSS D cy zFk z (d + 1) 77 bc bs K 0 0 46 [(0, yr (some 91)), (2, yi x2), (3, yi (yadd x3 1))] [] (N, T, R, I8))) 0 0 0 [(0, yr (some 91)), (1, yi (I vq x3.toNat))] [] (N, T, R, I))) ∧ (¬ ((I vq x3.toNat) ≠ x2) → K (some (yi 1)) (N, T, R, I)))))) :
    yW l zSS D cy zFk z (d + 1) 77 bc bs K 0 0 46 [(0, yr (some 91)), (2, yi x2), (3, yi x3)] [] (N, T, R, I) := by
  refine e_10 (f_77 (pc := 46) (e := (46, 10, 3, 0, 0, 0, 0, 47)) rfl) rfl ?_
  refine e_12 (f_77 (pc := 47) (e := (47, 12, 0, 0, 0, 0, 0, 48)) rfl) rfl ?_
  refine e_90 zA (f_77 (pc := 48) (e := (48, 90, 6, 11, 0, 113, 952, 51)) rfl) rfl (hT 91 rfl) rfl rfl ?_
  refine e_73 (f_77 (pc := 51) (e := (51, 73, 91, 0, 0, 0, 0, 54)) rfl) (fun c1 => ?_) (fun c1 => ?_)
  · replace F := F.1 c1
    refine e_0 (f_77 (pc := 91) (e := (91, 0, 0, 0, 0, 0, 0, 92)) rfl) (v := 0) rfl ?_
    exact e_121 (f_77 (pc := 92) (e := (92, 121, 0, 0, 0, 0, 0, 0)) rfl) (.inl rfl) F
  · replace F := F.2 c1
    refine e_10 (f_77 (pc := 54) (e := (54, 10, 3, 0, 0, 0, 0, 55)) rfl) rfl ?_
    refine e_12 (f_77 (pc := 55) (e := (55, 12, 0, 0, 0, 0, 0, 56)) rfl) rfl ?_
    refine e_90r zA (f_77 (pc := 56) (e := (56, 90, 6, 10, 3, 34, 946, 59)) rfl) rfl (hT 91 rfl) rfl rfl hvq ?_
    refine e_103 (f_77 (pc := 59) (e := (59, 103, 0, 0, 0, 0, 0, 60)) rfl) rfl hTvq (by decide) hnq ?_
    refine e_73 (f_77 (pc := 60) (e := (60, 73, 91, 0, 0, 0, 0, 63)) rfl) (fun c2 => ?_) (fun c2 => ?_)
    · replace F := F.1 c2
      refine e_0 (f_77 (pc := 91) (e := (91, 0, 0, 0, 0, 0, 0, 92)) rfl) (v := 0) rfl ?_
      exact e_121 (f_77 (pc := 92) (e := (92, 121, 0, 0, 0, 0, 0, 0)) rfl) (.inl rfl) F
    · replace F := F.2 c2
      refine e_12 (f_77 (pc := 63) (e := (63, 12, 0, 0, 0, 0, 0, 64)) rfl) rfl ?_
      refine e_90r zA (f_77 (pc := 64) (e := (64, 90, 6, 10, 3, 34, 946, 67)) rfl) rfl (hT 91 rfl) rfl rfl hvq ?_
      refine e_10 (f_77 (pc := 67) (e := (67, 10, 3, 0, 0, 0, 0, 68)) rfl) rfl ?_
      obtain ⟨b3, b4, F⟩ := F
      refine e_110 (f_77 (pc := 68) (e := (68, 110, 0, 0, 0, 0, 0, 69)) rfl) rfl hTvq b3 b4 ?_
      refine e_10 (f_77 (pc := 69) (e := (69, 10, 2, 0, 0, 0, 0, 70)) rfl) rfl ?_
      refine e_71 (f_77 (pc := 70) (e := (70, 71, 75, 0, 0, 0, 0, 73)) rfl) (fun c5 => ?_) (fun c5 => ?_)
      · replace F := F.1 c5
        refine e_12 (f_77 (pc := 75) (e := (75, 12, 0, 0, 0, 0, 0, 76)) rfl) rfl ?_
        refine e_12 (f_77 (pc := 76) (e := (76, 12, 0, 0, 0, 0, 0, 77)) rfl) rfl ?_
        refine e_90r zA (f_77 (pc := 77) (e := (77, 90, 6, 10, 3, 34, 946, 80)) rfl) rfl (hT 91 rfl) rfl rfl hvq ?_
        refine e_10 (f_77 (pc := 80) (e := (80, 10, 3, 0, 0, 0, 0, 81)) rfl) rfl ?_
        obtain ⟨b6, b7, F⟩ := F
        refine e_110 (f_77 (pc := 81) (e := (81, 110, 0, 0, 0, 0, 0, 82)) rfl) rfl hTvq b6 b7 ?_
        refine e_130 (f_77 (pc := 82) (e := (82, 130, 70, 0, 6, 116, 964, 85)) rfl) zA (as := [yr (some 91), yi _]) (rest := []) rfl rfl rfl rfl (Nat.le_of_ble_eq_true rfl) (Nat.le_of_ble_eq_true rfl) ⟨_, _, _, rfl, (hT 91 rfl)⟩ (mc := 0) (ms := 0) (Nat.zero_le _) (Nat.zero_le _) ?_
        refine e_K ?_ F
        rintro r h' ⟨I8, rfl, rfl, F⟩
        refine e_26 (f_77 (pc := 85) (e := (85, 26, 3, 1, 0, 0, 0, 88)) rfl) (w := 1) rfl rfl ?_
        refine e_80 (f_77 (pc := 88) (e := (88, 80, 46, 0, 0, 0, 0, 91)) rfl) ?_
        refine e_lo [0, 2, 3] rfl ?_
        exact F
      · replace F := F.2 c5
        refine e_0 (f_77 (pc := 73) (e := (73, 0, 1, 0, 0, 0, 0, 74)) rfl) (v := 1) rfl ?_
        exact e_121 (f_77 (pc := 74) (e := (74, 121, 0, 0, 0, 0, 0, 75)) rfl) (.inr rfl) F

/-! ChairAlley$Untier.solve(LChairAlley$Land;LChairAlley$State;)I -/
set_option maxRecDepth 20000 in
theorem B_78_0 (hT : yLT T) (hR : yLR R) {vs ns : Nat} (hvs : R 91 9 = some vs) (hTvs : T vs = (0, ns)) (hns : ns < 2147483648) {vq nq : Nat} (hvq : R 91 10 = some vq) (hTvq : T vq = (1, nq)) (hnq : nq < 2147483648) {vt nt : Nat} (hvt : R 91 12 = some vt) (hTvt : T vt = (1, nt)) (hnt : nt < 2147483648) (F : (36 < (ymul (I 4 0) (I 4 1)) → K (some (yi (-2))) (N, T, R, I)) ∧ (¬ (36 < (ymul (I 4 0) (I 4 1))) → yW l zSS D cy zFk z d 60 0 0 (fun r h' => ∃ r3 I2, r = some (yi r3) ∧ h' = (N, T, R, I2) ∧ ((r3 ≤ 3 → ∀ I5, I5 = yU I2 91 0 (I2 4 0) → (∀ I6, I6 = yU I5 91 1 (ymul (I5 4 0) (I5 4 1)) → (yW l zSS D cy zFk z d 75 0 0 (fun r h' => ∃ I7, r = none ∧ h' = (N, T, R, I7) ∧ (yW l zSS D cy zFk z d 73 0 0 (fun r h' => ∃ r9 I8, r = some (yi r9) ∧ h' = (N, T, R, I8) ∧ (yW l zSS D cy zFk z d 72 0 0 (fun r h' => ∃ r11 I10, r = some (yi r11) ∧ h' = (N, T, R, I10) ∧ (yW l zSS D cy zFk z d 74 0 0 (fun r h' => ∃ I12, r = none ∧ h' = (N, T, R, I12) ∧ (yW l zSS D cy zFk z d 77 0 0 (fun r h' => ∃ r14 I13, r = some (yi r14) ∧ h' = (N, T, R, I13) ∧ ((r14 ≠ 0 → yW l zSS D cy zFk z d 82 0 0 (fun r h' => ∃ I16, r = none ∧ h' = (N, T, R, I16) ∧ (K (some (yi (I16 91 13))) (N, T, R, I16))) 0 0 0 [(0, yr (some 91)), (1, yi r11), (2, yi (ysub r9 1))] [] (N, T, R, I13)) ∧ (¬ (r14 ≠ 0) → K (some (yi (-1))) (N, T, R, I13)))) 0 0 0 [(0, yr (some 91)), (1, yi r11), (2, yi (ysub r9 1))] [] (N, T, R, I12))) 0 0 0 [(0, yr (some 91)), (1, yi r9)] [] (N, T, R, I10))) 0 0 0 [(0, yr (some 91)), (1, yr (some 4)), (2, yr (some 16))] [] (N, T, R, I8))) 0 0 0 [(0, yr (some 91)), (1, yr (some 4)), (2, yr (some 16))] [] (N, T, R, I7))) 0 0 0 [(0, yr (some 91)), (1, yr (some 4)), (2, yr (some 16))] [] (N, T, R, I6)))) ∧ (¬ (r3 ≤ 3) → K (some (yi (-2))) (N, T, R, I2)))) 0 0 0 [(0, yr (some 16)), (1, yi (I 4 5))] [] (N, T, R, I))) :
    yW l zSS D cy zFk z (d + 1) 78 bc bs K 0 0 0 [(0, yr (some 91)), (1, yr (some 4)), (2, yr (some 16))] [] (N, T, R, I) := by
  refine e_12 (f_78 (pc := 0) (e := (0, 12, 1, 0, 0, 0, 0, 1)) rfl) rfl ?_
  refine e_90 zA (f_78 (pc := 1) (e := (1, 90, 1, 0, 0, 40, 965, 4)) rfl) rfl (hT 4 rfl) rfl rfl ?_
  refine e_12 (f_78 (pc := 4) (e := (4, 12, 1, 0, 0, 0, 0, 5)) rfl) rfl ?_
  refine e_90 zA (f_78 (pc := 5) (e := (5, 90, 1, 1, 0, 46, 966, 8)) rfl) rfl (hT 4 rfl) rfl rfl ?_
  refine e_32 (f_78 (pc := 8) (e := (8, 32, 0, 0, 0, 0, 0, 9)) rfl) ?_
  refine e_1 (f_78 (pc := 9) (e := (9, 1, 36, 0, 0, 0, 0, 11)) rfl) (v := 36) rfl ?_
  refine e_74 (f_78 (pc := 11) (e := (11, 74, 26, 0, 0, 0, 0, 14)) rfl) (fun c1 => ?_) (fun c1 => ?_)
  · replace F := F.1 c1
    refine e_1 (f_78 (pc := 26) (e := (26, 1, 4294967294, 0, 0, 0, 0, 28)) rfl) (v := (-2)) rfl ?_
    exact e_120 (f_78 (pc := 28) (e := (28, 120, 0, 0, 0, 0, 0, 29)) rfl) F
  · replace F := F.2 c1
    refine e_12 (f_78 (pc := 14) (e := (14, 12, 2, 0, 0, 0, 0, 15)) rfl) rfl ?_
    refine e_12 (f_78 (pc := 15) (e := (15, 12, 1, 0, 0, 0, 0, 16)) rfl) rfl ?_
    refine e_90 zA (f_78 (pc := 16) (e := (16, 90, 1, 5, 0, 49, 958, 19)) rfl) rfl (hT 4 rfl) rfl rfl ?_
    refine e_130 (f_78 (pc := 19) (e := (19, 130, 60, 0, 5, 51, 967, 22)) rfl) zA (as := [yr (some 16), yi _]) (rest := []) rfl rfl rfl rfl (Nat.le_of_ble_eq_true rfl) (Nat.le_of_ble_eq_true rfl) ⟨_, _, _, rfl, (hT 16 rfl)⟩ (mc := 0) (ms := 0) (Nat.zero_le _) (Nat.zero_le _) ?_
    refine e_K ?_ F
    rintro r h' ⟨r3, I2, rfl, rfl, F⟩
    refine e_0 (f_78 (pc := 22) (e := (22, 0, 3, 0, 0, 0, 0, 23)) rfl) (v := 3) rfl ?_
    refine e_75 (f_78 (pc := 23) (e := (23, 75, 29, 0, 0, 0, 0, 26)) rfl) (fun c4 => ?_) (fun c4 => ?_)
    · replace F := F.1 c4
      refine e_12 (f_78 (pc := 29) (e := (29, 12, 0, 0, 0, 0, 0, 30)) rfl) rfl ?_
      refine e_12 (f_78 (pc := 30) (e := (30, 12, 1, 0, 0, 0, 0, 31)) rfl) rfl ?_
      refine e_90 zA (f_78 (pc := 31) (e := (31, 90, 1, 0, 0, 40, 965, 34)) rfl) rfl (hT 4 rfl) rfl rfl ?_
      refine e_91 zA (f_78 (pc := 34) (e := (34, 91, 6, 0, 0, 57, 954, 37)) rfl) rfl (hT 91 rfl) rfl rfl trivial ?_
      replace F := F _ rfl
      refine e_12 (f_78 (pc := 37) (e := (37, 12, 0, 0, 0, 0, 0, 38)) rfl) rfl ?_
      refine e_12 (f_78 (pc := 38) (e := (38, 12, 1, 0, 0, 0, 0, 39)) rfl) rfl ?_
      refine e_90 zA (f_78 (pc := 39) (e := (39, 90, 1, 0, 0, 40, 965, 42)) rfl) rfl (hT 4 rfl) rfl rfl ?_
      refine e_12 (f_78 (pc := 42) (e := (42, 12, 1, 0, 0, 0, 0, 43)) rfl) rfl ?_
      refine e_90 zA (f_78 (pc := 43) (e := (43, 90, 1, 1, 0, 46, 966, 46)) rfl) rfl (hT 4 rfl) rfl rfl ?_
      refine e_32 (f_78 (pc := 46) (e := (46, 32, 0, 0, 0, 0, 0, 47)) rfl) ?_
      refine e_91 zA (f_78 (pc := 47) (e := (47, 91, 6, 1, 0, 58, 950, 50)) rfl) rfl (hT 91 rfl) rfl rfl trivial ?_
      replace F := F _ rfl
      refine e_12 (f_78 (pc := 50) (e := (50, 12, 0, 0, 0, 0, 0, 51)) rfl) rfl ?_
      refine e_12 (f_78 (pc := 51) (e := (51, 12, 1, 0, 0, 0, 0, 52)) rfl) rfl ?_
      refine e_12 (f_78 (pc := 52) (e := (52, 12, 2, 0, 0, 0, 0, 53)) rfl) rfl ?_
      refine e_130 (f_78 (pc := 53) (e := (53, 130, 75, 0, 6, 61, 968, 56)) rfl) zA (as := [yr (some 91), yr (some 4), yr (some 16)]) (rest := []) rfl rfl rfl rfl (Nat.le_of_ble_eq_true rfl) (Nat.le_of_ble_eq_true rfl) ⟨_, _, _, rfl, (hT 91 rfl)⟩ (mc := 0) (ms := 0) (Nat.zero_le _) (Nat.zero_le _) ?_
      refine e_K ?_ F
      rintro r h' ⟨I7, rfl, rfl, F⟩
      refine e_12 (f_78 (pc := 56) (e := (56, 12, 0, 0, 0, 0, 0, 57)) rfl) rfl ?_
      refine e_12 (f_78 (pc := 57) (e := (57, 12, 1, 0, 0, 0, 0, 58)) rfl) rfl ?_
      refine e_12 (f_78 (pc := 58) (e := (58, 12, 2, 0, 0, 0, 0, 59)) rfl) rfl ?_
      refine e_130 (f_78 (pc := 59) (e := (59, 130, 73, 0, 6, 65, 969, 62)) rfl) zA (as := [yr (some 91), yr (some 4), yr (some 16)]) (rest := []) rfl rfl rfl rfl (Nat.le_of_ble_eq_true rfl) (Nat.le_of_ble_eq_true rfl) ⟨_, _, _, rfl, (hT 91 rfl)⟩ (mc := 0) (ms := 0) (Nat.zero_le _) (Nat.zero_le _) ?_
      refine e_K ?_ F
      rintro r h' ⟨r9, I8, rfl, rfl, F⟩
      refine e_20 (f_78 (pc := 62) (e := (62, 20, 3, 0, 0, 0, 0, 63)) rfl) ?_
      refine e_12 (f_78 (pc := 63) (e := (63, 12, 0, 0, 0, 0, 0, 64)) rfl) rfl ?_
      refine e_12 (f_78 (pc := 64) (e := (64, 12, 1, 0, 0, 0, 0, 65)) rfl) rfl ?_
      refine e_12 (f_78 (pc := 65) (e := (65, 12, 2, 0, 0, 0, 0, 66)) rfl) rfl ?_
      refine e_130 (f_78 (pc := 66) (e := (66, 130, 72, 0, 6, 69, 970, 69)) rfl) zA (as := [yr (some 91), yr (some 4), yr (some 16)]) (rest := []) rfl rfl rfl rfl (Nat.le_of_ble_eq_true rfl) (Nat.le_of_ble_eq_true rfl) ⟨_, _, _, rfl, (hT 91 rfl)⟩ (mc := 0) (ms := 0) (Nat.zero_le _) (Nat.zero_le _) ?_
      refine e_K ?_ F
      rintro r h' ⟨r11, I10, rfl, rfl, F⟩
      refine e_21 (f_78 (pc := 69) (e := (69, 21, 4, 0, 0, 0, 0, 71)) rfl) ?_
      refine e_12 (f_78 (pc := 71) (e := (71, 12, 0, 0, 0, 0, 0, 72)) rfl) rfl ?_
      refine e_10 (f_78 (pc := 72) (e := (72, 10, 3, 0, 0, 0, 0, 73)) rfl) rfl ?_
      refine e_130 (f_78 (pc := 73) (e := (73, 130, 74, 0, 6, 72, 971, 76)) rfl) zA (as := [yr (some 91), yi r9]) (rest := []) rfl rfl rfl rfl (Nat.le_of_ble_eq_true rfl) (Nat.le_of_ble_eq_true rfl) ⟨_, _, _, rfl, (hT 91 rfl)⟩ (mc := 0) (ms := 0) (Nat.zero_le _) (Nat.zero_le _) ?_
      refine e_K ?_ F
      rintro r h' ⟨I12, rfl, rfl, F⟩
      refine e_12 (f_78 (pc := 76) (e := (76, 12, 0, 0, 0, 0, 0, 77)) rfl) rfl ?_
      refine e_11 (f_78 (pc := 77) (e := (77, 11, 4, 0, 0, 0, 0, 79)) rfl) rfl ?_
      refine e_10 (f_78 (pc := 79) (e := (79, 10, 3, 0, 0, 0, 0, 80)) rfl) rfl ?_
      refine e_0 (f_78 (pc := 80) (e := (80, 0, 1, 0, 0, 0, 0, 81)) rfl) (v := 1) rfl ?_
      refine e_31 (f_78 (pc := 81) (e := (81, 31, 0, 0, 0, 0, 0, 82)) rfl) ?_
      refine e_130 (f_78 (pc := 82) (e := (82, 130, 77, 0, 6, 76, 972, 85)) rfl) zA (as := [yr (some 91), yi r11, yi _]) (rest := []) rfl rfl rfl rfl (Nat.le_of_ble_eq_true rfl) (Nat.le_of_ble_eq_true rfl) ⟨_, _, _, rfl, (hT 91 rfl)⟩ (mc := 0) (ms := 0) (Nat.zero_le _) (Nat.zero_le _) ?_
      refine e_K ?_ F
      rintro r h' ⟨r14, I13, rfl, rfl, F⟩
      refine e_61 (f_78 (pc := 85) (e := (85, 61, 90, 0, 0, 0, 0, 88)) rfl) (fun c15 => ?_) (fun c15 => ?_)
      · replace F := F.1 c15
        refine e_12 (f_78 (pc := 90) (e := (90, 12, 0, 0, 0, 0, 0, 91)) rfl) rfl ?_
        refine e_11 (f_78 (pc := 91) (e := (91, 11, 4, 0, 0, 0, 0, 93)) rfl) rfl ?_
        refine e_10 (f_78 (pc := 93) (e := (93, 10, 3, 0, 0, 0, 0, 94)) rfl) rfl ?_
        refine e_0 (f_78 (pc := 94) (e := (94, 0, 1, 0, 0, 0, 0, 95)) rfl) (v := 1) rfl ?_
        refine e_31 (f_78 (pc := 95) (e := (95, 31, 0, 0, 0, 0, 0, 96)) rfl) ?_
        refine e_130 (f_78 (pc := 96) (e := (96, 130, 82, 0, 6, 80, 973, 99)) rfl) zA (as := [yr (some 91), yi r11, yi _]) (rest := []) rfl rfl rfl rfl (Nat.le_of_ble_eq_true rfl) (Nat.le_of_ble_eq_true rfl) ⟨_, _, _, rfl, (hT 91 rfl)⟩ (mc := 0) (ms := 0) (Nat.zero_le _) (Nat.zero_le _) ?_
        refine e_K ?_ F
        rintro r h' ⟨I16, rfl, rfl, F⟩
        refine e_12 (f_78 (pc := 99) (e := (99, 12, 0, 0, 0, 0, 0, 100)) rfl) rfl ?_
        refine e_90 zA (f_78 (pc := 100) (e := (100, 90, 6, 13, 0, 84, 974, 103)) rfl) rfl (hT 91 rfl) rfl rfl ?_
        exact e_120 (f_78 (pc := 103) (e := (103, 120, 0, 0, 0, 0, 0, 0)) rfl) F
      · replace F := F.2 c15
        refine e_0 (f_78 (pc := 88) (e := (88, 0, 4294967295, 0, 0, 0, 0, 89)) rfl) (v := (-1)) rfl ?_
        exact e_120 (f_78 (pc := 89) (e := (89, 120, 0, 0, 0, 0, 0, 90)) rfl) F
    · replace F := F.2 c4
      refine e_1 (f_78 (pc := 26) (e := (26, 1, 4294967294, 0, 0, 0, 0, 28)) rfl) (v := (-2)) rfl ?_
      exact e_120 (f_78 (pc := 28) (e := (28, 120, 0, 0, 0, 0, 0, 29)) rfl) F

/-! ChairAlley$Untier.spotBehindStep(II)I -/
set_option maxRecDepth 20000 in
theorem B_79_0 (hT : yLT T) (hR : yLR R) {vs ns : Nat} (hvs : R 91 9 = some vs) (hTvs : T vs = (0, ns)) (hns : ns < 2147483648) {vq nq : Nat} (hvq : R 91 10 = some vq) (hTvq : T vq = (1, nq)) (hnq : nq < 2147483648) {vt nt : Nat} (hvt : R 91 12 = some vt) (hTvt : T vt = (1, nt)) (hnt : nt < 2147483648) {x1 x2 : Int} (F : (x1 < 0 → K (some (yi (-1))) (N, T, R, I)) ∧ (¬ (x1 < 0) → (x1 < 3 → 0 ≤ x1 ∧ x1 < 3 ∧ (((yadd (ymul (I 95 x1.toNat) 4) x2) < 0 → K (some (yi (-1))) (N, T, R, I)) ∧ (¬ ((yadd (ymul (I 95 x1.toNat) 4) x2) < 0) → (144 ≤ (yadd (ymul (I 95 x1.toNat) 4) x2) → K (some (yi (-1))) (N, T, R, I)) ∧ (¬ (144 ≤ (yadd (ymul (I 95 x1.toNat) 4) x2)) → 0 ≤ (yadd (ymul (I 95 x1.toNat) 4) x2) ∧ (yadd (ymul (I 95 x1.toNat) 4) x2) < 144 ∧ (((I 96 (yadd (ymul (I 95 x1.toNat) 4) x2).toNat) < 0 → K (some (yi (-1))) (N, T, R, I)) ∧ (¬ ((I 96 (yadd (ymul (I 95 x1.toNat) 4) x2).toNat) < 0) → ((I 96 (yadd (ymul (I 95 x1.toNat) 4) x2).toNat) < 36 → 0 ≤ (I 96 (yadd (ymul (I 95 x1.toNat) 4) x2).toNat) ∧ (I 96 (yadd (ymul (I 95 x1.toNat) 4) x2).toNat) < 36 ∧ (yW l zSS D cy zFk z d 79 bc bs K 0 0 73 [(0, yr (some 91)), (1, yi x1), (4, yi (I 96 (yadd (ymul (I 95 x1.toNat) 4) x2).toNat)), (5, yi (I 97 (I 96 (yadd (ymul (I 95 x1.toNat) 4) x2).toNat).toNat)), (6, yi 0)] [] (N, T, R, I))) ∧ (¬ ((I 96 (yadd (ymul (I 95 x1.toNat) 4) x2).toNat) < 36) → K (some (yi (-1))) (N, T, R, I)))))))) ∧ (¬ (x1 < 3) → K (some (yi (-1))) (N, T, R, I)))) :
    yW l zSS D cy zFk z d 79 bc bs K 0 0 0 [(0, yr (some 91)), (1, yi x1), (2, yi x2)] [] (N, T, R, I) := by
  refine e_10 (f_79 (pc := 0) (e := (0, 10, 1, 0, 0, 0, 0, 1)) rfl) rfl ?_
  refine e_62 (f_79 (pc := 1) (e := (1, 62, 9, 0, 0, 0, 0, 4)) rfl) (fun c1 => ?_) (fun c1 => ?_)
  · replace F := F.1 c1
    refine e_0 (f_79 (pc := 9) (e := (9, 0, 4294967295, 0, 0, 0, 0, 10)) rfl) (v := (-1)) rfl ?_
    exact e_120 (f_79 (pc := 10) (e := (10, 120, 0, 0, 0, 0, 0, 11)) rfl) F
  · replace F := F.2 c1
    refine e_10 (f_79 (pc := 4) (e := (4, 10, 1, 0, 0, 0, 0, 5)) rfl) rfl ?_
    refine e_0 (f_79 (pc := 5) (e := (5, 0, 3, 0, 0, 0, 0, 6)) rfl) (v := 3) rfl ?_
    refine e_72 (f_79 (pc := 6) (e := (6, 72, 11, 0, 0, 0, 0, 9)) rfl) (fun c2 => ?_) (fun c2 => ?_)
    · replace F := F.1 c2
      refine e_12 (f_79 (pc := 11) (e := (11, 12, 0, 0, 0, 0, 0, 12)) rfl) rfl ?_
      refine e_90r zA (f_79 (pc := 12) (e := (12, 90, 6, 6, 3, 21, 942, 15)) rfl) rfl (hT 91 rfl) rfl rfl (hR 91 6 rfl) ?_
      refine e_10 (f_79 (pc := 15) (e := (15, 10, 1, 0, 0, 0, 0, 16)) rfl) rfl ?_
      obtain ⟨b3, b4, F⟩ := F
      refine e_110 (f_79 (pc := 16) (e := (16, 110, 0, 0, 0, 0, 0, 17)) rfl) rfl (hT 95 rfl) b3 b4 ?_
      refine e_0 (f_79 (pc := 17) (e := (17, 0, 4, 0, 0, 0, 0, 18)) rfl) (v := 4) rfl ?_
      refine e_32 (f_79 (pc := 18) (e := (18, 32, 0, 0, 0, 0, 0, 19)) rfl) ?_
      refine e_10 (f_79 (pc := 19) (e := (19, 10, 2, 0, 0, 0, 0, 20)) rfl) rfl ?_
      refine e_30 (f_79 (pc := 20) (e := (20, 30, 0, 0, 0, 0, 0, 21)) rfl) ?_
      refine e_20 (f_79 (pc := 21) (e := (21, 20, 3, 0, 0, 0, 0, 22)) rfl) ?_
      refine e_10 (f_79 (pc := 22) (e := (22, 10, 3, 0, 0, 0, 0, 23)) rfl) rfl ?_
      refine e_62 (f_79 (pc := 23) (e := (23, 62, 44, 0, 0, 0, 0, 26)) rfl) (fun c5 => ?_) (fun c5 => ?_)
      · replace F := F.1 c5
        refine e_0 (f_79 (pc := 44) (e := (44, 0, 4294967295, 0, 0, 0, 0, 45)) rfl) (v := (-1)) rfl ?_
        refine e_21 (f_79 (pc := 45) (e := (45, 21, 4, 0, 0, 0, 0, 47)) rfl) ?_
        refine e_11 (f_79 (pc := 47) (e := (47, 11, 4, 0, 0, 0, 0, 49)) rfl) rfl ?_
        refine e_62 (f_79 (pc := 49) (e := (49, 62, 59, 0, 0, 0, 0, 52)) rfl) (fun _ => ?_) (fun g => absurd (by decide) g)
        refine e_0 (f_79 (pc := 59) (e := (59, 0, 4294967295, 0, 0, 0, 0, 60)) rfl) (v := (-1)) rfl ?_
        exact e_120 (f_79 (pc := 60) (e := (60, 120, 0, 0, 0, 0, 0, 61)) rfl) F
      · replace F := F.2 c5
        refine e_10 (f_79 (pc := 26) (e := (26, 10, 3, 0, 0, 0, 0, 27)) rfl) rfl ?_
        refine e_12 (f_79 (pc := 27) (e := (27, 12, 0, 0, 0, 0, 0, 28)) rfl) rfl ?_
        refine e_90r zA (f_79 (pc := 28) (e := (28, 90, 6, 7, 3, 24, 943, 31)) rfl) rfl (hT 91 rfl) rfl rfl (hR 91 7 rfl) ?_
        refine e_103 (f_79 (pc := 31) (e := (31, 103, 0, 0, 0, 0, 0, 32)) rfl) rfl (hT 96 rfl) (by decide) (by decide) ?_
        refine e_73 (f_79 (pc := 32) (e := (32, 73, 44, 0, 0, 0, 0, 35)) rfl) (fun c6 => ?_) (fun c6 => ?_)
        · replace F := F.1 c6
          refine e_0 (f_79 (pc := 44) (e := (44, 0, 4294967295, 0, 0, 0, 0, 45)) rfl) (v := (-1)) rfl ?_
          refine e_21 (f_79 (pc := 45) (e := (45, 21, 4, 0, 0, 0, 0, 47)) rfl) ?_
          refine e_11 (f_79 (pc := 47) (e := (47, 11, 4, 0, 0, 0, 0, 49)) rfl) rfl ?_
          refine e_62 (f_79 (pc := 49) (e := (49, 62, 59, 0, 0, 0, 0, 52)) rfl) (fun _ => ?_) (fun g => absurd (by decide) g)
          refine e_0 (f_79 (pc := 59) (e := (59, 0, 4294967295, 0, 0, 0, 0, 60)) rfl) (v := (-1)) rfl ?_
          exact e_120 (f_79 (pc := 60) (e := (60, 120, 0, 0, 0, 0, 0, 61)) rfl) F
        · replace F := F.2 c6
          refine e_12 (f_79 (pc := 35) (e := (35, 12, 0, 0, 0, 0, 0, 36)) rfl) rfl ?_
          refine e_90r zA (f_79 (pc := 36) (e := (36, 90, 6, 7, 3, 24, 943, 39)) rfl) rfl (hT 91 rfl) rfl rfl (hR 91 7 rfl) ?_
          refine e_10 (f_79 (pc := 39) (e := (39, 10, 3, 0, 0, 0, 0, 40)) rfl) rfl ?_
          obtain ⟨b7, b8, F⟩ := F
          refine e_110 (f_79 (pc := 40) (e := (40, 110, 0, 0, 0, 0, 0, 41)) rfl) rfl (hT 96 rfl) b7 b8 ?_
          refine e_80 (f_79 (pc := 41) (e := (41, 80, 45, 0, 0, 0, 0, 44)) rfl) ?_
          refine e_21 (f_79 (pc := 45) (e := (45, 21, 4, 0, 0, 0, 0, 47)) rfl) ?_
          refine e_11 (f_79 (pc := 47) (e := (47, 11, 4, 0, 0, 0, 0, 49)) rfl) rfl ?_
          refine e_62 (f_79 (pc := 49) (e := (49, 62, 59, 0, 0, 0, 0, 52)) rfl) (fun c9 => ?_) (fun c9 => ?_)
          · replace F := F.1 c9
            refine e_0 (f_79 (pc := 59) (e := (59, 0, 4294967295, 0, 0, 0, 0, 60)) rfl) (v := (-1)) rfl ?_
            exact e_120 (f_79 (pc := 60) (e := (60, 120, 0, 0, 0, 0, 0, 61)) rfl) F
          · replace F := F.2 c9
            refine e_11 (f_79 (pc := 52) (e := (52, 11, 4, 0, 0, 0, 0, 54)) rfl) rfl ?_
            refine e_1 (f_79 (pc := 54) (e := (54, 1, 36, 0, 0, 0, 0, 56)) rfl) (v := 36) rfl ?_
            refine e_72 (f_79 (pc := 56) (e := (56, 72, 61, 0, 0, 0, 0, 59)) rfl) (fun c10 => ?_) (fun c10 => ?_)
            · replace F := F.1 c10
              refine e_12 (f_79 (pc := 61) (e := (61, 12, 0, 0, 0, 0, 0, 62)) rfl) rfl ?_
              refine e_90r zA (f_79 (pc := 62) (e := (62, 90, 6, 8, 3, 27, 944, 65)) rfl) rfl (hT 91 rfl) rfl rfl (hR 91 8 rfl) ?_
              refine e_11 (f_79 (pc := 65) (e := (65, 11, 4, 0, 0, 0, 0, 67)) rfl) rfl ?_
              obtain ⟨b11, b12, F⟩ := F
              refine e_110 (f_79 (pc := 67) (e := (67, 110, 0, 0, 0, 0, 0, 68)) rfl) rfl (hT 97 rfl) b11 b12 ?_
              refine e_21 (f_79 (pc := 68) (e := (68, 21, 5, 0, 0, 0, 0, 70)) rfl) ?_
              refine e_0 (f_79 (pc := 70) (e := (70, 0, 0, 0, 0, 0, 0, 71)) rfl) (v := 0) rfl ?_
              refine e_21 (f_79 (pc := 71) (e := (71, 21, 6, 0, 0, 0, 0, 73)) rfl) ?_
              refine e_lo [0, 1, 4, 5, 6] rfl ?_
              exact F
            · replace F := F.2 c10
              refine e_0 (f_79 (pc := 59) (e := (59, 0, 4294967295, 0, 0, 0, 0, 60)) rfl) (v := (-1)) rfl ?_
              exact e_120 (f_79 (pc := 60) (e := (60, 120, 0, 0, 0, 0, 0, 61)) rfl) F
    · replace F := F.2 c2
      refine e_0 (f_79 (pc := 9) (e := (9, 0, 4294967295, 0, 0, 0, 0, 10)) rfl) (v := (-1)) rfl ?_
      exact e_120 (f_79 (pc := 10) (e := (10, 120, 0, 0, 0, 0, 0, 11)) rfl) F
set_option maxRecDepth 20000 in
theorem B_79_73 (hT : yLT T) (hR : yLR R) {vs ns : Nat} (hvs : R 91 9 = some vs) (hTvs : T vs = (0, ns)) (hns : ns < 2147483648) {vq nq : Nat} (hvq : R 91 10 = some vq) (hTvq : T vq = (1, nq)) (hnq : nq < 2147483648) {vt nt : Nat} (hvt : R 91 12 = some vt) (hTvt : T vt = (1, nt)) (hnt : nt < 2147483648) {x1 x4 x5 x6 : Int} (F : ((I 91 2) ≤ x6 → (0 < x5 → 0 ≤ x1 ∧ x1 < 3 ∧ ((x4 ≠ (I 93 x1.toNat) → K (some (yi x4)) (N, T, R, I)) ∧ (¬ (x4 ≠ (I 93 x1.toNat)) → K (some (yi (I 91 1))) (N, T, R, I)))) ∧ (¬ (0 < x5) → K (some (yi (-1))) (N, T, R, I))) ∧ (¬ ((I 91 2) ≤ x6) → (3 ≤ x6 → (0 < x5 → 0 ≤ x1 ∧ x1 < 3 ∧ ((x4 ≠ (I 93 x1.toNat) → K (some (yi x4)) (N, T, R, I)) ∧ (¬ (x4 ≠ (I 93 x1.toNat)) → K (some (yi (I 91 1))) (N, T, R, I)))) ∧ (¬ (0 < x5) → K (some (yi (-1))) (N, T, R, I))) ∧ (¬ (3 ≤ x6) → 0 ≤ x6 ∧ x6 < 3 ∧ (((I 95 x6.toNat) ≠ x4 → yW l zSS D cy zFk z d 79 bc bs K 0 0 73 [(0, yr (some 91)), (1, yi x1), (4, yi x4), (5, yi (ysub x5 0)), (6, yi (yadd x6 1))] [] (N, T, R, I)) ∧ (¬ ((I 95 x6.toNat) ≠ x4) → yW l zSS D cy zFk z d 79 bc bs K 0 0 73 [(0, yr (some 91)), (1, yi x1), (4, yi x4), (5, yi (ysub x5 1)), (6, yi (yadd x6 1))] [] (N, T, R, I)))))) :
    yW l zSS D cy zFk z d 79 bc bs K 0 0 73 [(0, yr (some 91)), (1, yi x1), (4, yi x4), (5, yi x5), (6, yi x6)] [] (N, T, R, I) := by
  refine e_11 (f_79 (pc := 73) (e := (73, 11, 6, 0, 0, 0, 0, 75)) rfl) rfl ?_
  refine e_12 (f_79 (pc := 75) (e := (75, 12, 0, 0, 0, 0, 0, 76)) rfl) rfl ?_
  refine e_90 zA (f_79 (pc := 76) (e := (76, 90, 6, 2, 0, 103, 949, 79)) rfl) rfl (hT 91 rfl) rfl rfl ?_
  refine e_73 (f_79 (pc := 79) (e := (79, 73, 116, 0, 0, 0, 0, 82)) rfl) (fun c1 => ?_) (fun c1 => ?_)
  · replace F := F.1 c1
    refine e_11 (f_79 (pc := 116) (e := (116, 11, 5, 0, 0, 0, 0, 118)) rfl) rfl ?_
    refine e_64 (f_79 (pc := 118) (e := (118, 64, 123, 0, 0, 0, 0, 121)) rfl) (fun c2 => ?_) (fun c2 => ?_)
    · replace F := F.1 c2
      refine e_11 (f_79 (pc := 123) (e := (123, 11, 4, 0, 0, 0, 0, 125)) rfl) rfl ?_
      refine e_12 (f_79 (pc := 125) (e := (125, 12, 0, 0, 0, 0, 0, 126)) rfl) rfl ?_
      refine e_90r zA (f_79 (pc := 126) (e := (126, 90, 6, 4, 3, 15, 940, 129)) rfl) rfl (hT 91 rfl) rfl rfl (hR 91 4 rfl) ?_
      refine e_10 (f_79 (pc := 129) (e := (129, 10, 1, 0, 0, 0, 0, 130)) rfl) rfl ?_
      obtain ⟨b3, b4, F⟩ := F
      refine e_110 (f_79 (pc := 130) (e := (130, 110, 0, 0, 0, 0, 0, 131)) rfl) rfl (hT 93 rfl) b3 b4 ?_
      refine e_71 (f_79 (pc := 131) (e := (131, 71, 141, 0, 0, 0, 0, 134)) rfl) (fun c5 => ?_) (fun c5 => ?_)
      · replace F := F.1 c5
        refine e_11 (f_79 (pc := 141) (e := (141, 11, 4, 0, 0, 0, 0, 143)) rfl) rfl ?_
        exact e_120 (f_79 (pc := 143) (e := (143, 120, 0, 0, 0, 0, 0, 0)) rfl) F
      · replace F := F.2 c5
        refine e_12 (f_79 (pc := 134) (e := (134, 12, 0, 0, 0, 0, 0, 135)) rfl) rfl ?_
        refine e_90 zA (f_79 (pc := 135) (e := (135, 90, 6, 1, 0, 58, 950, 138)) rfl) rfl (hT 91 rfl) rfl rfl ?_
        refine e_80 (f_79 (pc := 138) (e := (138, 80, 143, 0, 0, 0, 0, 141)) rfl) ?_
        exact e_120 (f_79 (pc := 143) (e := (143, 120, 0, 0, 0, 0, 0, 0)) rfl) F
    · replace F := F.2 c2
      refine e_0 (f_79 (pc := 121) (e := (121, 0, 4294967295, 0, 0, 0, 0, 122)) rfl) (v := (-1)) rfl ?_
      exact e_120 (f_79 (pc := 122) (e := (122, 120, 0, 0, 0, 0, 0, 123)) rfl) F
  · replace F := F.2 c1
    refine e_11 (f_79 (pc := 82) (e := (82, 11, 6, 0, 0, 0, 0, 84)) rfl) rfl ?_
    refine e_0 (f_79 (pc := 84) (e := (84, 0, 3, 0, 0, 0, 0, 85)) rfl) (v := 3) rfl ?_
    refine e_73 (f_79 (pc := 85) (e := (85, 73, 116, 0, 0, 0, 0, 88)) rfl) (fun c6 => ?_) (fun c6 => ?_)
    · replace F := F.1 c6
      refine e_11 (f_79 (pc := 116) (e := (116, 11, 5, 0, 0, 0, 0, 118)) rfl) rfl ?_
      refine e_64 (f_79 (pc := 118) (e := (118, 64, 123, 0, 0, 0, 0, 121)) rfl) (fun c7 => ?_) (fun c7 => ?_)
      · replace F := F.1 c7
        refine e_11 (f_79 (pc := 123) (e := (123, 11, 4, 0, 0, 0, 0, 125)) rfl) rfl ?_
        refine e_12 (f_79 (pc := 125) (e := (125, 12, 0, 0, 0, 0, 0, 126)) rfl) rfl ?_
        refine e_90r zA (f_79 (pc := 126) (e := (126, 90, 6, 4, 3, 15, 940, 129)) rfl) rfl (hT 91 rfl) rfl rfl (hR 91 4 rfl) ?_
        refine e_10 (f_79 (pc := 129) (e := (129, 10, 1, 0, 0, 0, 0, 130)) rfl) rfl ?_
        obtain ⟨b8, b9, F⟩ := F
        refine e_110 (f_79 (pc := 130) (e := (130, 110, 0, 0, 0, 0, 0, 131)) rfl) rfl (hT 93 rfl) b8 b9 ?_
        refine e_71 (f_79 (pc := 131) (e := (131, 71, 141, 0, 0, 0, 0, 134)) rfl) (fun c10 => ?_) (fun c10 => ?_)
        · replace F := F.1 c10
          refine e_11 (f_79 (pc := 141) (e := (141, 11, 4, 0, 0, 0, 0, 143)) rfl) rfl ?_
          exact e_120 (f_79 (pc := 143) (e := (143, 120, 0, 0, 0, 0, 0, 0)) rfl) F
        · replace F := F.2 c10
          refine e_12 (f_79 (pc := 134) (e := (134, 12, 0, 0, 0, 0, 0, 135)) rfl) rfl ?_
          refine e_90 zA (f_79 (pc := 135) (e := (135, 90, 6, 1, 0, 58, 950, 138)) rfl) rfl (hT 91 rfl) rfl rfl ?_
          refine e_80 (f_79 (pc := 138) (e := (138, 80, 143, 0, 0, 0, 0, 141)) rfl) ?_
          exact e_120 (f_79 (pc := 143) (e := (143, 120, 0, 0, 0, 0, 0, 0)) rfl) F
      · replace F := F.2 c7
        refine e_0 (f_79 (pc := 121) (e := (121, 0, 4294967295, 0, 0, 0, 0, 122)) rfl) (v := (-1)) rfl ?_
        exact e_120 (f_79 (pc := 122) (e := (122, 120, 0, 0, 0, 0, 0, 123)) rfl) F
    · replace F := F.2 c6
      refine e_11 (f_79 (pc := 88) (e := (88, 11, 5, 0, 0, 0, 0, 90)) rfl) rfl ?_
      refine e_12 (f_79 (pc := 90) (e := (90, 12, 0, 0, 0, 0, 0, 91)) rfl) rfl ?_
      refine e_90r zA (f_79 (pc := 91) (e := (91, 90, 6, 6, 3, 21, 942, 94)) rfl) rfl (hT 91 rfl) rfl rfl (hR 91 6 rfl) ?_
      refine e_11 (f_79 (pc := 94) (e := (94, 11, 6, 0, 0, 0, 0, 96)) rfl) rfl ?_
      obtain ⟨b11, b12, F⟩ := F
      refine e_110 (f_79 (pc := 96) (e := (96, 110, 0, 0, 0, 0, 0, 97)) rfl) rfl (hT 95 rfl) b11 b12 ?_
      refine e_11 (f_79 (pc := 97) (e := (97, 11, 4, 0, 0, 0, 0, 99)) rfl) rfl ?_
      refine e_71 (f_79 (pc := 99) (e := (99, 71, 106, 0, 0, 0, 0, 102)) rfl) (fun c13 => ?_) (fun c13 => ?_)
      · replace F := F.1 c13
        refine e_0 (f_79 (pc := 106) (e := (106, 0, 0, 0, 0, 0, 0, 107)) rfl) (v := 0) rfl ?_
        refine e_31 (f_79 (pc := 107) (e := (107, 31, 0, 0, 0, 0, 0, 108)) rfl) ?_
        refine e_21 (f_79 (pc := 108) (e := (108, 21, 5, 0, 0, 0, 0, 110)) rfl) ?_
        refine e_26 (f_79 (pc := 110) (e := (110, 26, 6, 1, 0, 0, 0, 113)) rfl) (w := 1) rfl rfl ?_
        refine e_80 (f_79 (pc := 113) (e := (113, 80, 73, 0, 0, 0, 0, 116)) rfl) ?_
        refine e_lo [0, 1, 4, 5, 6] rfl ?_
        exact F
      · replace F := F.2 c13
        refine e_0 (f_79 (pc := 102) (e := (102, 0, 1, 0, 0, 0, 0, 103)) rfl) (v := 1) rfl ?_
        refine e_80 (f_79 (pc := 103) (e := (103, 80, 107, 0, 0, 0, 0, 106)) rfl) ?_
        refine e_31 (f_79 (pc := 107) (e := (107, 31, 0, 0, 0, 0, 0, 108)) rfl) ?_
        refine e_21 (f_79 (pc := 108) (e := (108, 21, 5, 0, 0, 0, 0, 110)) rfl) ?_
        refine e_26 (f_79 (pc := 110) (e := (110, 26, 6, 1, 0, 0, 0, 113)) rfl) (w := 1) rfl rfl ?_
        refine e_80 (f_79 (pc := 113) (e := (113, 80, 73, 0, 0, 0, 0, 116)) rfl) ?_
        refine e_lo [0, 1, 4, 5, 6] rfl ?_
        exact F

/-! ChairAlley$Untier.spotOf(I)I -/
set_option maxRecDepth 20000 in
theorem B_80_0 (hT : yLT T) (hR : yLR R) {vs ns : Nat} (hvs : R 91 9 = some vs) (hTvs : T vs = (0, ns)) (hns : ns < 2147483648) {vq nq : Nat} (hvq : R 91 10 = some vq) (hTvq : T vq = (1, nq)) (hnq : nq < 2147483648) {vt nt : Nat} (hvt : R 91 12 = some vt) (hTvt : T vt = (1, nt)) (hnt : nt < 2147483648) {x1 : Int} (F : K (some (yi (yadd (ymul (ydiv x1 10) (I 91 0)) (yrem x1 10)))) (N, T, R, I)) :
    yW l zSS D cy zFk z d 80 bc bs K 0 0 0 [(0, yr (some 91)), (1, yi x1)] [] (N, T, R, I) := by
  refine e_10 (f_80 (pc := 0) (e := (0, 10, 1, 0, 0, 0, 0, 1)) rfl) rfl ?_
  refine e_1 (f_80 (pc := 1) (e := (1, 1, 10, 0, 0, 0, 0, 3)) rfl) (v := 10) rfl ?_
  refine e_33 (f_80 (pc := 3) (e := (3, 33, 0, 0, 0, 0, 0, 4)) rfl) (by decide) ?_
  refine e_12 (f_80 (pc := 4) (e := (4, 12, 0, 0, 0, 0, 0, 5)) rfl) rfl ?_
  refine e_90 zA (f_80 (pc := 5) (e := (5, 90, 6, 0, 0, 57, 954, 8)) rfl) rfl (hT 91 rfl) rfl rfl ?_
  refine e_32 (f_80 (pc := 8) (e := (8, 32, 0, 0, 0, 0, 0, 9)) rfl) ?_
  refine e_10 (f_80 (pc := 9) (e := (9, 10, 1, 0, 0, 0, 0, 10)) rfl) rfl ?_
  refine e_1 (f_80 (pc := 10) (e := (10, 1, 10, 0, 0, 0, 0, 12)) rfl) (v := 10) rfl ?_
  refine e_34 (f_80 (pc := 12) (e := (12, 34, 0, 0, 0, 0, 0, 13)) rfl) (by decide) ?_
  refine e_30 (f_80 (pc := 13) (e := (13, 30, 0, 0, 0, 0, 0, 14)) rfl) ?_
  exact e_120 (f_80 (pc := 14) (e := (14, 120, 0, 0, 0, 0, 0, 0)) rfl) F

/-! ChairAlley$Untier.stepInto(I)I -/
set_option maxRecDepth 20000 in
theorem B_81_0 (hT : yLT T) (hR : yLR R) {vs ns : Nat} (hvs : R 91 9 = some vs) (hTvs : T vs = (0, ns)) (hns : ns < 2147483648) {vq nq : Nat} (hvq : R 91 10 = some vq) (hTvq : T vq = (1, nq)) (hnq : nq < 2147483648) {vt nt : Nat} (hvt : R 91 12 = some vt) (hTvt : T vt = (1, nt)) (hnt : nt < 2147483648) {x1 : Int} (F : (x1 < 0 → K (some (yi 0)) (N, T, R, I)) ∧ (¬ (x1 < 0) → ((ns : Int) ≤ x1 → K (some (yi 0)) (N, T, R, I)) ∧ (¬ ((ns : Int) ≤ x1) → 0 ≤ x1 ∧ x1 < (ns : Int) ∧ (((I vs x1.toNat) ≤ 0 → K (some (yi 0)) (N, T, R, I)) ∧ (¬ ((I vs x1.toNat) ≤ 0) → 0 ≤ x1 ∧ x1 < (ns : Int) ∧ (K (some (yi (ysub (I vs x1.toNat) 1))) (N, T, R, I))))))) :
    yW l zSS D cy zFk z d 81 bc bs K 0 0 0 [(0, yr (some 91)), (1, yi x1)] [] (N, T, R, I) := by
  refine e_10 (f_81 (pc := 0) (e := (0, 10, 1, 0, 0, 0, 0, 1)) rfl) rfl ?_
  refine e_62 (f_81 (pc := 1) (e := (1, 62, 33, 0, 0, 0, 0, 4)) rfl) (fun c1 => ?_) (fun c1 => ?_)
  · replace F := F.1 c1
    refine e_0 (f_81 (pc := 33) (e := (33, 0, 0, 0, 0, 0, 0, 34)) rfl) (v := 0) rfl ?_
    exact e_120 (f_81 (pc := 34) (e := (34, 120, 0, 0, 0, 0, 0, 0)) rfl) F
  · replace F := F.2 c1
    refine e_10 (f_81 (pc := 4) (e := (4, 10, 1, 0, 0, 0, 0, 5)) rfl) rfl ?_
    refine e_12 (f_81 (pc := 5) (e := (5, 12, 0, 0, 0, 0, 0, 6)) rfl) rfl ?_
    refine e_90r zA (f_81 (pc := 6) (e := (6, 90, 6, 9, 3, 30, 945, 9)) rfl) rfl (hT 91 rfl) rfl rfl hvs ?_
    refine e_103 (f_81 (pc := 9) (e := (9, 103, 0, 0, 0, 0, 0, 10)) rfl) rfl hTvs (by decide) hns ?_
    refine e_73 (f_81 (pc := 10) (e := (10, 73, 33, 0, 0, 0, 0, 13)) rfl) (fun c2 => ?_) (fun c2 => ?_)
    · replace F := F.1 c2
      refine e_0 (f_81 (pc := 33) (e := (33, 0, 0, 0, 0, 0, 0, 34)) rfl) (v := 0) rfl ?_
      exact e_120 (f_81 (pc := 34) (e := (34, 120, 0, 0, 0, 0, 0, 0)) rfl) F
    · replace F := F.2 c2
      refine e_12 (f_81 (pc := 13) (e := (13, 12, 0, 0, 0, 0, 0, 14)) rfl) rfl ?_
      refine e_90r zA (f_81 (pc := 14) (e := (14, 90, 6, 9, 3, 30, 945, 17)) rfl) rfl (hT 91 rfl) rfl rfl hvs ?_
      refine e_10 (f_81 (pc := 17) (e := (17, 10, 1, 0, 0, 0, 0, 18)) rfl) rfl ?_
      obtain ⟨b3, b4, F⟩ := F
      refine e_112 (f_81 (pc := 18) (e := (18, 112, 0, 0, 0, 0, 0, 19)) rfl) rfl hTvs b3 b4 (.inl rfl) ?_
      refine e_65 (f_81 (pc := 19) (e := (19, 65, 33, 0, 0, 0, 0, 22)) rfl) (fun c5 => ?_) (fun c5 => ?_)
      · replace F := F.1 c5
        refine e_0 (f_81 (pc := 33) (e := (33, 0, 0, 0, 0, 0, 0, 34)) rfl) (v := 0) rfl ?_
        exact e_120 (f_81 (pc := 34) (e := (34, 120, 0, 0, 0, 0, 0, 0)) rfl) F
      · replace F := F.2 c5
        refine e_12 (f_81 (pc := 22) (e := (22, 12, 0, 0, 0, 0, 0, 23)) rfl) rfl ?_
        refine e_90r zA (f_81 (pc := 23) (e := (23, 90, 6, 9, 3, 30, 945, 26)) rfl) rfl (hT 91 rfl) rfl rfl hvs ?_
        refine e_10 (f_81 (pc := 26) (e := (26, 10, 1, 0, 0, 0, 0, 27)) rfl) rfl ?_
        obtain ⟨b6, b7, F⟩ := F
        refine e_112 (f_81 (pc := 27) (e := (27, 112, 0, 0, 0, 0, 0, 28)) rfl) rfl hTvs b6 b7 (.inl rfl) ?_
        refine e_0 (f_81 (pc := 28) (e := (28, 0, 1, 0, 0, 0, 0, 29)) rfl) (v := 1) rfl ?_
        refine e_31 (f_81 (pc := 29) (e := (29, 31, 0, 0, 0, 0, 0, 30)) rfl) ?_
        refine e_80 (f_81 (pc := 30) (e := (30, 80, 34, 0, 0, 0, 0, 33)) rfl) ?_
        exact e_120 (f_81 (pc := 34) (e := (34, 120, 0, 0, 0, 0, 0, 0)) rfl) F

/-! ChairAlley$Walk.act(I)V -/
set_option maxRecDepth 20000 in
theorem B_84_0 (hT : yLT T) (hR : yLR R) {x1 : Int} (F : (x1 < 0 → yW l zSS D cy zFk z (d + 1) 84 bc bs K 0 0 32 [] [] (N, T, R, I)) ∧ (¬ (x1 < 0) → (8 ≤ x1 → yW l zSS D cy zFk z (d + 1) 84 bc bs K 0 0 32 [] [] (N, T, R, I)) ∧ (¬ (8 ≤ x1) → 0 ≤ x1 ∧ x1 < 8 ∧ (((I 72 x1.toNat) = (-1) → yW l zSS D cy zFk z (d + 1) 84 bc bs K 0 0 32 [] [] (N, T, R, I)) ∧ (¬ ((I 72 x1.toNat) = (-1)) → 0 ≤ x1 ∧ x1 < 8 ∧ (((I 84 x1.toNat) = 0 → 0 ≤ x1 ∧ x1 < 8 ∧ (((I 68 0) < (I 79 x1.toNat) → yW l zSS D cy zFk z (d + 1) 84 bc bs K 0 0 73 [(0, yr (some 67))] [] (N, T, R, I)) ∧ (¬ ((I 68 0) < (I 79 x1.toNat)) → 0 ≤ x1 ∧ x1 < 8 ∧ (((I 78 x1.toNat) ≠ (ysub (I 68 0) 1) → 0 ≤ x1 ∧ x1 < 8 ∧ (yW l zSS D cy zFk z d 108 0 0 (fun r h' => ∃ r18 I17, r = some (yi r18) ∧ h' = (N, T, R, I17) ∧ ((r18 = (-1) → yW l zSS D cy zFk z (d + 1) 84 bc bs K 0 0 117 [(0, yr (some 67)), (1, yi x1), (2, yi r18)] [] (N, T, R, I17)) ∧ (¬ (r18 = (-1)) → yW l zSS D cy zFk z d 91 0 0 (fun r h' => ∃ r21 I20, r = some (yi r21) ∧ h' = (N, T, R, I20) ∧ ((r21 = 0 → yW l zSS D cy zFk z (d + 1) 84 bc bs K 0 0 117 [(0, yr (some 67)), (1, yi x1), (2, yi r18)] [] (N, T, R, I20)) ∧ (¬ (r21 = 0) → yW l zSS D cy zFk z d 101 0 0 (fun r h' => ∃ I23, r = none ∧ h' = (N, T, R, I23) ∧ (K none (N, T, R, I23))) 0 0 0 [(0, yr (some 67)), (1, yi x1), (2, yi r18)] [] (N, T, R, I20)))) 0 0 0 [(0, yr (some 67)), (1, yi r18)] [] (N, T, R, I17)))) 0 0 0 [(0, yr (some 85)), (1, yi x1), (2, yi (I 72 x1.toNat))] [] (N, T, R, I))) ∧ (¬ ((I 78 x1.toNat) ≠ (ysub (I 68 0) 1)) → yW l zSS D cy zFk z (d + 1) 84 bc bs K 0 0 73 [(0, yr (some 67))] [] (N, T, R, I)))))) ∧ (¬ ((I 84 x1.toNat) = 0) → yW l zSS D cy zFk z (d + 1) 84 bc bs K 0 0 32 [] [] (N, T, R, I)))))))) :
    yW l zSS D cy zFk z (d + 1) 84 bc bs K 0 0 0 [(0, yr (some 67)), (1, yi x1)] [] (N, T, R, I) := by
  refine e_10 (f_84 (pc := 0) (e := (0, 10, 1, 0, 0, 0, 0, 1)) rfl) rfl ?_
  refine e_62 (f_84 (pc := 1) (e := (1, 62, 32, 0, 0, 0, 0, 4)) rfl) (fun c1 => ?_) (fun c1 => ?_)
  · replace F := F.1 c1
    refine e_lo [] rfl ?_
    exact F
  · replace F := F.2 c1
    refine e_10 (f_84 (pc := 4) (e := (4, 10, 1, 0, 0, 0, 0, 5)) rfl) rfl ?_
    refine e_1 (f_84 (pc := 5) (e := (5, 1, 8, 0, 0, 0, 0, 7)) rfl) (v := 8) rfl ?_
    refine e_73 (f_84 (pc := 7) (e := (7, 73, 32, 0, 0, 0, 0, 10)) rfl) (fun c2 => ?_) (fun c2 => ?_)
    · replace F := F.1 c2
      refine e_lo [] rfl ?_
      exact F
    · replace F := F.2 c2
      refine e_12 (f_84 (pc := 10) (e := (10, 12, 0, 0, 0, 0, 0, 11)) rfl) rfl ?_
      refine e_90r zA (f_84 (pc := 11) (e := (11, 90, 7, 2, 3, 12, 978, 14)) rfl) rfl (hT 67 rfl) rfl rfl (hR 67 2 rfl) ?_
      refine e_90r zA (f_84 (pc := 14) (e := (14, 90, 5, 4, 3, 100, 987, 17)) rfl) rfl (hT 68 rfl) rfl rfl (hR 68 4 rfl) ?_
      refine e_10 (f_84 (pc := 17) (e := (17, 10, 1, 0, 0, 0, 0, 18)) rfl) rfl ?_
      obtain ⟨b3, b4, F⟩ := F
      refine e_110 (f_84 (pc := 18) (e := (18, 110, 0, 0, 0, 0, 0, 19)) rfl) rfl (hT 72 rfl) b3 b4 ?_
      refine e_0 (f_84 (pc := 19) (e := (19, 0, 4294967295, 0, 0, 0, 0, 20)) rfl) (v := (-1)) rfl ?_
      refine e_70 (f_84 (pc := 20) (e := (20, 70, 32, 0, 0, 0, 0, 23)) rfl) (fun c5 => ?_) (fun c5 => ?_)
      · replace F := F.1 c5
        refine e_lo [] rfl ?_
        exact F
      · replace F := F.2 c5
        refine e_12 (f_84 (pc := 23) (e := (23, 12, 0, 0, 0, 0, 0, 24)) rfl) rfl ?_
        refine e_90r zA (f_84 (pc := 24) (e := (24, 90, 7, 6, 3, 29, 982, 27)) rfl) rfl (hT 67 rfl) rfl rfl (hR 67 6 rfl) ?_
        refine e_10 (f_84 (pc := 27) (e := (27, 10, 1, 0, 0, 0, 0, 28)) rfl) rfl ?_
        obtain ⟨b6, b7, F⟩ := F
        refine e_112 (f_84 (pc := 28) (e := (28, 112, 0, 0, 0, 0, 0, 29)) rfl) rfl (hT 84 rfl) b6 b7 (.inr rfl) ?_
        refine e_60 (f_84 (pc := 29) (e := (29, 60, 33, 0, 0, 0, 0, 32)) rfl) (fun c8 => ?_) (fun c8 => ?_)
        · replace F := F.1 c8
          refine e_12 (f_84 (pc := 33) (e := (33, 12, 0, 0, 0, 0, 0, 34)) rfl) rfl ?_
          refine e_90r zA (f_84 (pc := 34) (e := (34, 90, 7, 2, 3, 12, 978, 37)) rfl) rfl (hT 67 rfl) rfl rfl (hR 67 2 rfl) ?_
          refine e_90 zA (f_84 (pc := 37) (e := (37, 90, 5, 0, 0, 97, 988, 40)) rfl) rfl (hT 68 rfl) rfl rfl ?_
          refine e_12 (f_84 (pc := 40) (e := (40, 12, 0, 0, 0, 0, 0, 41)) rfl) rfl ?_
          refine e_90r zA (f_84 (pc := 41) (e := (41, 90, 7, 2, 3, 12, 978, 44)) rfl) rfl (hT 67 rfl) rfl rfl (hR 67 2 rfl) ?_
          refine e_90r zA (f_84 (pc := 44) (e := (44, 90, 5, 11, 3, 116, 989, 47)) rfl) rfl (hT 68 rfl) rfl rfl (hR 68 11 rfl) ?_
          refine e_10 (f_84 (pc := 47) (e := (47, 10, 1, 0, 0, 0, 0, 48)) rfl) rfl ?_
          obtain ⟨b9, b10, F⟩ := F
          refine e_110 (f_84 (pc := 48) (e := (48, 110, 0, 0, 0, 0, 0, 49)) rfl) rfl (hT 79 rfl) b9 b10 ?_
          refine e_72 (f_84 (pc := 49) (e := (49, 72, 73, 0, 0, 0, 0, 52)) rfl) (fun c11 => ?_) (fun c11 => ?_)
          · replace F := F.1 c11
            refine e_lo [0] rfl ?_
            exact F
          · replace F := F.2 c11
            refine e_12 (f_84 (pc := 52) (e := (52, 12, 0, 0, 0, 0, 0, 53)) rfl) rfl ?_
            refine e_90r zA (f_84 (pc := 53) (e := (53, 90, 7, 2, 3, 12, 978, 56)) rfl) rfl (hT 67 rfl) rfl rfl (hR 67 2 rfl) ?_
            refine e_90r zA (f_84 (pc := 56) (e := (56, 90, 5, 10, 3, 119, 990, 59)) rfl) rfl (hT 68 rfl) rfl rfl (hR 68 10 rfl) ?_
            refine e_10 (f_84 (pc := 59) (e := (59, 10, 1, 0, 0, 0, 0, 60)) rfl) rfl ?_
            obtain ⟨b12, b13, F⟩ := F
            refine e_110 (f_84 (pc := 60) (e := (60, 110, 0, 0, 0, 0, 0, 61)) rfl) rfl (hT 78 rfl) b12 b13 ?_
            refine e_12 (f_84 (pc := 61) (e := (61, 12, 0, 0, 0, 0, 0, 62)) rfl) rfl ?_
            refine e_90r zA (f_84 (pc := 62) (e := (62, 90, 7, 2, 3, 12, 978, 65)) rfl) rfl (hT 67 rfl) rfl rfl (hR 67 2 rfl) ?_
            refine e_90 zA (f_84 (pc := 65) (e := (65, 90, 5, 0, 0, 97, 988, 68)) rfl) rfl (hT 68 rfl) rfl rfl ?_
            refine e_0 (f_84 (pc := 68) (e := (68, 0, 1, 0, 0, 0, 0, 69)) rfl) (v := 1) rfl ?_
            refine e_31 (f_84 (pc := 69) (e := (69, 31, 0, 0, 0, 0, 0, 70)) rfl) ?_
            refine e_71 (f_84 (pc := 70) (e := (70, 71, 79, 0, 0, 0, 0, 73)) rfl) (fun c14 => ?_) (fun c14 => ?_)
            · replace F := F.1 c14
              refine e_12 (f_84 (pc := 79) (e := (79, 12, 0, 0, 0, 0, 0, 80)) rfl) rfl ?_
              refine e_90r zA (f_84 (pc := 80) (e := (80, 90, 7, 1, 3, 42, 986, 83)) rfl) rfl (hT 67 rfl) rfl rfl (hR 67 1 rfl) ?_
              refine e_10 (f_84 (pc := 83) (e := (83, 10, 1, 0, 0, 0, 0, 84)) rfl) rfl ?_
              refine e_12 (f_84 (pc := 84) (e := (84, 12, 0, 0, 0, 0, 0, 85)) rfl) rfl ?_
              refine e_90r zA (f_84 (pc := 85) (e := (85, 90, 7, 2, 3, 12, 978, 88)) rfl) rfl (hT 67 rfl) rfl rfl (hR 67 2 rfl) ?_
              refine e_90r zA (f_84 (pc := 88) (e := (88, 90, 5, 4, 3, 100, 987, 91)) rfl) rfl (hT 68 rfl) rfl rfl (hR 68 4 rfl) ?_
              refine e_10 (f_84 (pc := 91) (e := (91, 10, 1, 0, 0, 0, 0, 92)) rfl) rfl ?_
              obtain ⟨b15, b16, F⟩ := F
              refine e_110 (f_84 (pc := 92) (e := (92, 110, 0, 0, 0, 0, 0, 93)) rfl) rfl (hT 72 rfl) b15 b16 ?_
              refine e_130 (f_84 (pc := 93) (e := (93, 130, 108, 0, 8, 122, 992, 96)) rfl) zA (as := [yr (some 85), yi x1, yi _]) (rest := []) rfl rfl rfl rfl (Nat.le_of_ble_eq_true rfl) (Nat.le_of_ble_eq_true rfl) ⟨_, _, _, rfl, (hT 85 rfl)⟩ (mc := 0) (ms := 0) (Nat.zero_le _) (Nat.zero_le _) ?_
              refine e_K ?_ F
              rintro r h' ⟨r18, I17, rfl, rfl, F⟩
              refine e_20 (f_84 (pc := 96) (e := (96, 20, 2, 0, 0, 0, 0, 97)) rfl) ?_
              refine e_10 (f_84 (pc := 97) (e := (97, 10, 2, 0, 0, 0, 0, 98)) rfl) rfl ?_
              refine e_0 (f_84 (pc := 98) (e := (98, 0, 4294967295, 0, 0, 0, 0, 99)) rfl) (v := (-1)) rfl ?_
              refine e_70 (f_84 (pc := 99) (e := (99, 70, 117, 0, 0, 0, 0, 102)) rfl) (fun c19 => ?_) (fun c19 => ?_)
              · replace F := F.1 c19
                refine e_lo [0, 1, 2] rfl ?_
                exact F
              · replace F := F.2 c19
                refine e_12 (f_84 (pc := 102) (e := (102, 12, 0, 0, 0, 0, 0, 103)) rfl) rfl ?_
                refine e_10 (f_84 (pc := 103) (e := (103, 10, 2, 0, 0, 0, 0, 104)) rfl) rfl ?_
                refine e_130 (f_84 (pc := 104) (e := (104, 130, 91, 0, 7, 109, 993, 107)) rfl) zA (as := [yr (some 67), yi r18]) (rest := []) rfl rfl rfl rfl (Nat.le_of_ble_eq_true rfl) (Nat.le_of_ble_eq_true rfl) ⟨_, _, _, rfl, (hT 67 rfl)⟩ (mc := 0) (ms := 0) (Nat.zero_le _) (Nat.zero_le _) ?_
                refine e_K ?_ F
                rintro r h' ⟨r21, I20, rfl, rfl, F⟩
                refine e_60 (f_84 (pc := 107) (e := (107, 60, 117, 0, 0, 0, 0, 110)) rfl) (fun c22 => ?_) (fun c22 => ?_)
                · replace F := F.1 c22
                  refine e_lo [0, 1, 2] rfl ?_
                  exact F
                · replace F := F.2 c22
                  refine e_12 (f_84 (pc := 110) (e := (110, 12, 0, 0, 0, 0, 0, 111)) rfl) rfl ?_
                  refine e_10 (f_84 (pc := 111) (e := (111, 10, 1, 0, 0, 0, 0, 112)) rfl) rfl ?_
                  refine e_10 (f_84 (pc := 112) (e := (112, 10, 2, 0, 0, 0, 0, 113)) rfl) rfl ?_
                  refine e_130 (f_84 (pc := 113) (e := (113, 130, 101, 0, 7, 126, 994, 116)) rfl) zA (as := [yr (some 67), yi x1, yi r18]) (rest := []) rfl rfl rfl rfl (Nat.le_of_ble_eq_true rfl) (Nat.le_of_ble_eq_true rfl) ⟨_, _, _, rfl, (hT 67 rfl)⟩ (mc := 0) (ms := 0) (Nat.zero_le _) (Nat.zero_le _) ?_
                  refine e_K ?_ F
                  rintro r h' ⟨I23, rfl, rfl, F⟩
                  exact e_122 (f_84 (pc := 116) (e := (116, 122, 0, 0, 0, 0, 0, 117)) rfl) F
            · replace F := F.2 c14
              refine e_lo [0] rfl ?_
              exact F
        · replace F := F.2 c8
          refine e_lo [] rfl ?_
          exact F
set_option maxRecDepth 20000 in
theorem B_84_32 (hT : yLT T) (hR : yLR R) (F : K none (N, T, R, I)) :
    yW l zSS D cy zFk z d 84 bc bs K 0 0 32 [] [] (N, T, R, I) := by
  exact e_122 (f_84 (pc := 32) (e := (32, 122, 0, 0, 0, 0, 0, 33)) rfl) F
set_option maxRecDepth 20000 in
theorem B_84_73 (hT : yLT T) (hR : yLR R) (F : ∀ I1, I1 = yU I 67 7 0 → (K none (N, T, R, I1))) :
    yW l zSS D cy zFk z d 84 bc bs K 0 0 73 [(0, yr (some 67))] [] (N, T, R, I) := by
  refine e_12 (f_84 (pc := 73) (e := (73, 12, 0, 0, 0, 0, 0, 74)) rfl) rfl ?_
  refine e_0 (f_84 (pc := 74) (e := (74, 0, 0, 0, 0, 0, 0, 75)) rfl) (v := 0) rfl ?_
  refine e_91 zA (f_84 (pc := 75) (e := (75, 91, 7, 7, 2, 76, 991, 78)) rfl) rfl (hT 67 rfl) rfl rfl (.inl rfl) ?_
  replace F := F _ rfl
  exact e_122 (f_84 (pc := 78) (e := (78, 122, 0, 0, 0, 0, 0, 79)) rfl) F
set_option maxRecDepth 20000 in
theorem B_84_117 (hT : yLT T) (hR : yLR R) {x1 x2 : Int} (F : (x2 ≠ (-1) → yW l zSS D cy zFk z d 94 0 0 (fun r h' => ∃ r3 I2, r = some (yi r3) ∧ h' = (N, T, R, I2) ∧ (yW l zSS D cy zFk z d 85 0 0 (fun r h' => ∃ r5 I4, r = some (yi r5) ∧ h' = (N, T, R, I4) ∧ ((r5 = 0 → 0 ≤ x1 ∧ x1 < 8 ∧ (0 ≤ x1 ∧ x1 < 8 ∧ (∀ I11, I11 = yU I4 76 x1.toNat (ynar 1 (yadd (I4 76 x1.toNat) 1)) → (0 ≤ x1 ∧ x1 < 8 ∧ (yW l zSS D cy zFk z d 92 0 0 (fun r h' => ∃ r15 I14, r = some (yi r15) ∧ h' = (N, T, R, I14) ∧ ((r15 = 0 → yW l zSS D cy zFk z (d + 1) 84 bc bs K 0 0 205 [] [] (N, T, R, I14)) ∧ (¬ (r15 = 0) → yW l zSS D cy zFk z d 56 0 0 (fun r h' => ∃ I17, r = none ∧ h' = (N, T, R, I17) ∧ (yW l zSS D cy zFk z (d + 1) 84 bc bs K 0 0 205 [] [] (N, T, R, I17))) 0 0 0 [(0, yr (some 68)), (1, yi x1), (2, yi r3), (3, yi x2), (4, yi 0)] [] (N, T, R, I14)))) 0 0 0 [(0, yr (some 67)), (1, yi r3), (2, yi (I11 72 x1.toNat))] [] (N, T, R, I11)))))) ∧ (¬ (r5 = 0) → yW l zSS D cy zFk z d 56 0 0 (fun r h' => ∃ I18, r = none ∧ h' = (N, T, R, I18) ∧ (yW l zSS D cy zFk z d 99 0 0 (fun r h' => ∃ I19, r = none ∧ h' = (N, T, R, I19) ∧ (yW l zSS D cy zFk z d 101 0 0 (fun r h' => ∃ I20, r = none ∧ h' = (N, T, R, I20) ∧ (K none (N, T, R, I20))) 0 0 0 [(0, yr (some 67)), (1, yi x1), (2, yi x2)] [] (N, T, R, I19))) 0 0 0 [(0, yr (some 67)), (1, yi r3)] [] (N, T, R, I18))) 0 0 0 [(0, yr (some 68)), (1, yi x1), (2, yi r3), (3, yi x2), (4, yi 1)] [] (N, T, R, I4)))) 0 0 0 [(0, yr (some 67)), (1, yi r3), (2, yi x1)] [] (N, T, R, I2))) 0 0 0 [(0, yr (some 67)), (1, yi x2)] [] (N, T, R, I)) ∧ (¬ (x2 ≠ (-1)) → yW l zSS D cy zFk z d 85 0 0 (fun r h' => ∃ r22 I21, r = some (yi r22) ∧ h' = (N, T, R, I21) ∧ ((r22 = 0 → 0 ≤ x1 ∧ x1 < 8 ∧ (0 ≤ x1 ∧ x1 < 8 ∧ (∀ I28, I28 = yU I21 76 x1.toNat (ynar 1 (yadd (I21 76 x1.toNat) 1)) → (0 ≤ x1 ∧ x1 < 8 ∧ (yW l zSS D cy zFk z d 92 0 0 (fun r h' => ∃ r32 I31, r = some (yi r32) ∧ h' = (N, T, R, I31) ∧ ((r32 = 0 → yW l zSS D cy zFk z (d + 1) 84 bc bs K 0 0 205 [] [] (N, T, R, I31)) ∧ (¬ (r32 = 0) → yW l zSS D cy zFk z d 56 0 0 (fun r h' => ∃ I34, r = none ∧ h' = (N, T, R, I34) ∧ (yW l zSS D cy zFk z (d + 1) 84 bc bs K 0 0 205 [] [] (N, T, R, I34))) 0 0 0 [(0, yr (some 68)), (1, yi x1), (2, yi (-1)), (3, yi x2), (4, yi 0)] [] (N, T, R, I31)))) 0 0 0 [(0, yr (some 67)), (1, yi (-1)), (2, yi (I28 72 x1.toNat))] [] (N, T, R, I28)))))) ∧ (¬ (r22 = 0) → yW l zSS D cy zFk z d 56 0 0 (fun r h' => ∃ I35, r = none ∧ h' = (N, T, R, I35) ∧ (yW l zSS D cy zFk z d 99 0 0 (fun r h' => ∃ I36, r = none ∧ h' = (N, T, R, I36) ∧ (yW l zSS D cy zFk z d 101 0 0 (fun r h' => ∃ I37, r = none ∧ h' = (N, T, R, I37) ∧ (K none (N, T, R, I37))) 0 0 0 [(0, yr (some 67)), (1, yi x1), (2, yi x2)] [] (N, T, R, I36))) 0 0 0 [(0, yr (some 67)), (1, yi (-1))] [] (N, T, R, I35))) 0 0 0 [(0, yr (some 68)), (1, yi x1), (2, yi (-1)), (3, yi x2), (4, yi 1)] [] (N, T, R, I21)))) 0 0 0 [(0, yr (some 67)), (1, yi (-1)), (2, yi x1)] [] (N, T, R, I))) :
    yW l zSS D cy zFk z (d + 1) 84 bc bs K 0 0 117 [(0, yr (some 67)), (1, yi x1), (2, yi x2)] [] (N, T, R, I) := by
  refine e_10 (f_84 (pc := 117) (e := (117, 10, 2, 0, 0, 0, 0, 118)) rfl) rfl ?_
  refine e_0 (f_84 (pc := 118) (e := (118, 0, 4294967295, 0, 0, 0, 0, 119)) rfl) (v := (-1)) rfl ?_
  refine e_71 (f_84 (pc := 119) (e := (119, 71, 126, 0, 0, 0, 0, 122)) rfl) (fun c1 => ?_) (fun c1 => ?_)
  · replace F := F.1 c1
    refine e_12 (f_84 (pc := 126) (e := (126, 12, 0, 0, 0, 0, 0, 127)) rfl) rfl ?_
    refine e_10 (f_84 (pc := 127) (e := (127, 10, 2, 0, 0, 0, 0, 128)) rfl) rfl ?_
    refine e_130 (f_84 (pc := 128) (e := (128, 130, 94, 0, 7, 129, 995, 131)) rfl) zA (as := [yr (some 67), yi x2]) (rest := []) rfl rfl rfl rfl (Nat.le_of_ble_eq_true rfl) (Nat.le_of_ble_eq_true rfl) ⟨_, _, _, rfl, (hT 67 rfl)⟩ (mc := 0) (ms := 0) (Nat.zero_le _) (Nat.zero_le _) ?_
    refine e_K ?_ F
    rintro r h' ⟨r3, I2, rfl, rfl, F⟩
    refine e_20 (f_84 (pc := 131) (e := (131, 20, 3, 0, 0, 0, 0, 132)) rfl) ?_
    refine e_12 (f_84 (pc := 132) (e := (132, 12, 0, 0, 0, 0, 0, 133)) rfl) rfl ?_
    refine e_10 (f_84 (pc := 133) (e := (133, 10, 3, 0, 0, 0, 0, 134)) rfl) rfl ?_
    refine e_10 (f_84 (pc := 134) (e := (134, 10, 1, 0, 0, 0, 0, 135)) rfl) rfl ?_
    refine e_130 (f_84 (pc := 135) (e := (135, 130, 85, 0, 7, 133, 996, 138)) rfl) zA (as := [yr (some 67), yi r3, yi x1]) (rest := []) rfl rfl rfl rfl (Nat.le_of_ble_eq_true rfl) (Nat.le_of_ble_eq_true rfl) ⟨_, _, _, rfl, (hT 67 rfl)⟩ (mc := 0) (ms := 0) (Nat.zero_le _) (Nat.zero_le _) ?_
    refine e_K ?_ F
    rintro r h' ⟨r5, I4, rfl, rfl, F⟩
    refine e_60 (f_84 (pc := 138) (e := (138, 60, 164, 0, 0, 0, 0, 141)) rfl) (fun c6 => ?_) (fun c6 => ?_)
    · replace F := F.1 c6
      refine e_12 (f_84 (pc := 164) (e := (164, 12, 0, 0, 0, 0, 0, 165)) rfl) rfl ?_
      refine e_90r zA (f_84 (pc := 165) (e := (165, 90, 7, 2, 3, 12, 978, 168)) rfl) rfl (hT 67 rfl) rfl rfl (hR 67 2 rfl) ?_
      refine e_90r zA (f_84 (pc := 168) (e := (168, 90, 5, 8, 3, 144, 999, 171)) rfl) rfl (hT 68 rfl) rfl rfl (hR 68 8 rfl) ?_
      refine e_10 (f_84 (pc := 171) (e := (171, 10, 1, 0, 0, 0, 0, 172)) rfl) rfl ?_
      refine e_51 (f_84 (pc := 172) (e := (172, 51, 0, 0, 0, 0, 0, 173)) rfl) rfl rfl ?_
      obtain ⟨b7, b8, F⟩ := F
      refine e_110 (f_84 (pc := 173) (e := (173, 110, 0, 0, 0, 0, 0, 174)) rfl) rfl (hT 76 rfl) b7 b8 ?_
      refine e_0 (f_84 (pc := 174) (e := (174, 0, 1, 0, 0, 0, 0, 175)) rfl) (v := 1) rfl ?_
      refine e_30 (f_84 (pc := 175) (e := (175, 30, 0, 0, 0, 0, 0, 176)) rfl) ?_
      obtain ⟨b9, b10, F⟩ := F
      refine e_111 (f_84 (pc := 176) (e := (176, 111, 0, 0, 0, 0, 0, 177)) rfl) rfl (hT 76 rfl) b9 b10 ?_
      replace F := F _ rfl
      refine e_12 (f_84 (pc := 177) (e := (177, 12, 0, 0, 0, 0, 0, 178)) rfl) rfl ?_
      refine e_10 (f_84 (pc := 178) (e := (178, 10, 3, 0, 0, 0, 0, 179)) rfl) rfl ?_
      refine e_12 (f_84 (pc := 179) (e := (179, 12, 0, 0, 0, 0, 0, 180)) rfl) rfl ?_
      refine e_90r zA (f_84 (pc := 180) (e := (180, 90, 7, 2, 3, 12, 978, 183)) rfl) rfl (hT 67 rfl) rfl rfl (hR 67 2 rfl) ?_
      refine e_90r zA (f_84 (pc := 183) (e := (183, 90, 5, 4, 3, 100, 987, 186)) rfl) rfl (hT 68 rfl) rfl rfl (hR 68 4 rfl) ?_
      refine e_10 (f_84 (pc := 186) (e := (186, 10, 1, 0, 0, 0, 0, 187)) rfl) rfl ?_
      obtain ⟨b12, b13, F⟩ := F
      refine e_110 (f_84 (pc := 187) (e := (187, 110, 0, 0, 0, 0, 0, 188)) rfl) rfl (hT 72 rfl) b12 b13 ?_
      refine e_130 (f_84 (pc := 188) (e := (188, 130, 92, 0, 7, 147, 1000, 191)) rfl) zA (as := [yr (some 67), yi r3, yi _]) (rest := []) rfl rfl rfl rfl (Nat.le_of_ble_eq_true rfl) (Nat.le_of_ble_eq_true rfl) ⟨_, _, _, rfl, (hT 67 rfl)⟩ (mc := 0) (ms := 0) (Nat.zero_le _) (Nat.zero_le _) ?_
      refine e_K ?_ F
      rintro r h' ⟨r15, I14, rfl, rfl, F⟩
      refine e_60 (f_84 (pc := 191) (e := (191, 60, 205, 0, 0, 0, 0, 194)) rfl) (fun c16 => ?_) (fun c16 => ?_)
      · replace F := F.1 c16
        refine e_lo [] rfl ?_
        exact F
      · replace F := F.2 c16
        refine e_12 (f_84 (pc := 194) (e := (194, 12, 0, 0, 0, 0, 0, 195)) rfl) rfl ?_
        refine e_90r zA (f_84 (pc := 195) (e := (195, 90, 7, 2, 3, 12, 978, 198)) rfl) rfl (hT 67 rfl) rfl rfl (hR 67 2 rfl) ?_
        refine e_10 (f_84 (pc := 198) (e := (198, 10, 1, 0, 0, 0, 0, 199)) rfl) rfl ?_
        refine e_10 (f_84 (pc := 199) (e := (199, 10, 3, 0, 0, 0, 0, 200)) rfl) rfl ?_
        refine e_10 (f_84 (pc := 200) (e := (200, 10, 2, 0, 0, 0, 0, 201)) rfl) rfl ?_
        refine e_0 (f_84 (pc := 201) (e := (201, 0, 0, 0, 0, 0, 0, 202)) rfl) (v := 0) rfl ?_
        refine e_130 (f_84 (pc := 202) (e := (202, 130, 56, 0, 5, 137, 997, 205)) rfl) zA (as := [yr (some 68), yi x1, yi r3, yi x2, yi 0]) (rest := []) rfl rfl rfl rfl (Nat.le_of_ble_eq_true rfl) (Nat.le_of_ble_eq_true rfl) ⟨_, _, _, rfl, (hT 68 rfl)⟩ (mc := 0) (ms := 0) (Nat.zero_le _) (Nat.zero_le _) ?_
        refine e_K ?_ F
        rintro r h' ⟨I17, rfl, rfl, F⟩
        refine e_lo [] rfl ?_
        exact F
    · replace F := F.2 c6
      refine e_12 (f_84 (pc := 141) (e := (141, 12, 0, 0, 0, 0, 0, 142)) rfl) rfl ?_
      refine e_90r zA (f_84 (pc := 142) (e := (142, 90, 7, 2, 3, 12, 978, 145)) rfl) rfl (hT 67 rfl) rfl rfl (hR 67 2 rfl) ?_
      refine e_10 (f_84 (pc := 145) (e := (145, 10, 1, 0, 0, 0, 0, 146)) rfl) rfl ?_
      refine e_10 (f_84 (pc := 146) (e := (146, 10, 3, 0, 0, 0, 0, 147)) rfl) rfl ?_
      refine e_10 (f_84 (pc := 147) (e := (147, 10, 2, 0, 0, 0, 0, 148)) rfl) rfl ?_
      refine e_0 (f_84 (pc := 148) (e := (148, 0, 1, 0, 0, 0, 0, 149)) rfl) (v := 1) rfl ?_
      refine e_130 (f_84 (pc := 149) (e := (149, 130, 56, 0, 5, 137, 997, 152)) rfl) zA (as := [yr (some 68), yi x1, yi r3, yi x2, yi 1]) (rest := []) rfl rfl rfl rfl (Nat.le_of_ble_eq_true rfl) (Nat.le_of_ble_eq_true rfl) ⟨_, _, _, rfl, (hT 68 rfl)⟩ (mc := 0) (ms := 0) (Nat.zero_le _) (Nat.zero_le _) ?_
      refine e_K ?_ F
      rintro r h' ⟨I18, rfl, rfl, F⟩
      refine e_12 (f_84 (pc := 152) (e := (152, 12, 0, 0, 0, 0, 0, 153)) rfl) rfl ?_
      refine e_10 (f_84 (pc := 153) (e := (153, 10, 3, 0, 0, 0, 0, 154)) rfl) rfl ?_
      refine e_130 (f_84 (pc := 154) (e := (154, 130, 99, 0, 7, 141, 998, 157)) rfl) zA (as := [yr (some 67), yi r3]) (rest := []) rfl rfl rfl rfl (Nat.le_of_ble_eq_true rfl) (Nat.le_of_ble_eq_true rfl) ⟨_, _, _, rfl, (hT 67 rfl)⟩ (mc := 0) (ms := 0) (Nat.zero_le _) (Nat.zero_le _) ?_
      refine e_K ?_ F
      rintro r h' ⟨I19, rfl, rfl, F⟩
      refine e_12 (f_84 (pc := 157) (e := (157, 12, 0, 0, 0, 0, 0, 158)) rfl) rfl ?_
      refine e_10 (f_84 (pc := 158) (e := (158, 10, 1, 0, 0, 0, 0, 159)) rfl) rfl ?_
      refine e_10 (f_84 (pc := 159) (e := (159, 10, 2, 0, 0, 0, 0, 160)) rfl) rfl ?_
      refine e_130 (f_84 (pc := 160) (e := (160, 130, 101, 0, 7, 126, 994, 163)) rfl) zA (as := [yr (some 67), yi x1, yi x2]) (rest := []) rfl rfl rfl rfl (Nat.le_of_ble_eq_true rfl) (Nat.le_of_ble_eq_true rfl) ⟨_, _, _, rfl, (hT 67 rfl)⟩ (mc := 0) (ms := 0) (Nat.zero_le _) (Nat.zero_le _) ?_
      refine e_K ?_ F
      rintro r h' ⟨I20, rfl, rfl, F⟩
      exact e_122 (f_84 (pc := 163) (e := (163, 122, 0, 0, 0, 0, 0, 164)) rfl) F
  · replace F := F.2 c1
    refine e_0 (f_84 (pc := 122) (e := (122, 0, 4294967295, 0, 0, 0, 0, 123)) rfl) (v := (-1)) rfl ?_
    refine e_80 (f_84 (pc := 123) (e := (123, 80, 131, 0, 0, 0, 0, 126)) rfl) ?_
    refine e_20 (f_84 (pc := 131) (e := (131, 20, 3, 0, 0, 0, 0, 132)) rfl) ?_
    refine e_12 (f_84 (pc := 132) (e := (132, 12, 0, 0, 0, 0, 0, 133)) rfl) rfl ?_
    refine e_10 (f_84 (pc := 133) (e := (133, 10, 3, 0, 0, 0, 0, 134)) rfl) rfl ?_
    refine e_10 (f_84 (pc := 134) (e := (134, 10, 1, 0, 0, 0, 0, 135)) rfl) rfl ?_
    refine e_130 (f_84 (pc := 135) (e := (135, 130, 85, 0, 7, 133, 996, 138)) rfl) zA (as := [yr (some 67), yi (-1), yi x1]) (rest := []) rfl rfl rfl rfl (Nat.le_of_ble_eq_true rfl) (Nat.le_of_ble_eq_true rfl) ⟨_, _, _, rfl, (hT 67 rfl)⟩ (mc := 0) (ms := 0) (Nat.zero_le _) (Nat.zero_le _) ?_
    refine e_K ?_ F
    rintro r h' ⟨r22, I21, rfl, rfl, F⟩
    refine e_60 (f_84 (pc := 138) (e := (138, 60, 164, 0, 0, 0, 0, 141)) rfl) (fun c23 => ?_) (fun c23 => ?_)
    · replace F := F.1 c23
      refine e_12 (f_84 (pc := 164) (e := (164, 12, 0, 0, 0, 0, 0, 165)) rfl) rfl ?_
      refine e_90r zA (f_84 (pc := 165) (e := (165, 90, 7, 2, 3, 12, 978, 168)) rfl) rfl (hT 67 rfl) rfl rfl (hR 67 2 rfl) ?_
      refine e_90r zA (f_84 (pc := 168) (e := (168, 90, 5, 8, 3, 144, 999, 171)) rfl) rfl (hT 68 rfl) rfl rfl (hR 68 8 rfl) ?_
      refine e_10 (f_84 (pc := 171) (e := (171, 10, 1, 0, 0, 0, 0, 172)) rfl) rfl ?_
      refine e_51 (f_84 (pc := 172) (e := (172, 51, 0, 0, 0, 0, 0, 173)) rfl) rfl rfl ?_
      obtain ⟨b24, b25, F⟩ := F
      refine e_110 (f_84 (pc := 173) (e := (173, 110, 0, 0, 0, 0, 0, 174)) rfl) rfl (hT 76 rfl) b24 b25 ?_
      refine e_0 (f_84 (pc := 174) (e := (174, 0, 1, 0, 0, 0, 0, 175)) rfl) (v := 1) rfl ?_
      refine e_30 (f_84 (pc := 175) (e := (175, 30, 0, 0, 0, 0, 0, 176)) rfl) ?_
      obtain ⟨b26, b27, F⟩ := F
      refine e_111 (f_84 (pc := 176) (e := (176, 111, 0, 0, 0, 0, 0, 177)) rfl) rfl (hT 76 rfl) b26 b27 ?_
      replace F := F _ rfl
      refine e_12 (f_84 (pc := 177) (e := (177, 12, 0, 0, 0, 0, 0, 178)) rfl) rfl ?_
      refine e_10 (f_84 (pc := 178) (e := (178, 10, 3, 0, 0, 0, 0, 179)) rfl) rfl ?_
      refine e_12 (f_84 (pc := 179) (e := (179, 12, 0, 0, 0, 0, 0, 180)) rfl) rfl ?_
      refine e_90r zA (f_84 (pc := 180) (e := (180, 90, 7, 2, 3, 12, 978, 183)) rfl) rfl (hT 67 rfl) rfl rfl (hR 67 2 rfl) ?_
      refine e_90r zA (f_84 (pc := 183) (e := (183, 90, 5, 4, 3, 100, 987, 186)) rfl) rfl (hT 68 rfl) rfl rfl (hR 68 4 rfl) ?_
      refine e_10 (f_84 (pc := 186) (e := (186, 10, 1, 0, 0, 0, 0, 187)) rfl) rfl ?_
      obtain ⟨b29, b30, F⟩ := F
      refine e_110 (f_84 (pc := 187) (e := (187, 110, 0, 0, 0, 0, 0, 188)) rfl) rfl (hT 72 rfl) b29 b30 ?_
      refine e_130 (f_84 (pc := 188) (e := (188, 130, 92, 0, 7, 147, 1000, 191)) rfl) zA (as := [yr (some 67), yi (-1), yi _]) (rest := []) rfl rfl rfl rfl (Nat.le_of_ble_eq_true rfl) (Nat.le_of_ble_eq_true rfl) ⟨_, _, _, rfl, (hT 67 rfl)⟩ (mc := 0) (ms := 0) (Nat.zero_le _) (Nat.zero_le _) ?_
      refine e_K ?_ F
      rintro r h' ⟨r32, I31, rfl, rfl, F⟩
      refine e_60 (f_84 (pc := 191) (e := (191, 60, 205, 0, 0, 0, 0, 194)) rfl) (fun c33 => ?_) (fun c33 => ?_)
      · replace F := F.1 c33
        refine e_lo [] rfl ?_
        exact F
      · replace F := F.2 c33
        refine e_12 (f_84 (pc := 194) (e := (194, 12, 0, 0, 0, 0, 0, 195)) rfl) rfl ?_
        refine e_90r zA (f_84 (pc := 195) (e := (195, 90, 7, 2, 3, 12, 978, 198)) rfl) rfl (hT 67 rfl) rfl rfl (hR 67 2 rfl) ?_
        refine e_10 (f_84 (pc := 198) (e := (198, 10, 1, 0, 0, 0, 0, 199)) rfl) rfl ?_
        refine e_10 (f_84 (pc := 199) (e := (199, 10, 3, 0, 0, 0, 0, 200)) rfl) rfl ?_
        refine e_10 (f_84 (pc := 200) (e := (200, 10, 2, 0, 0, 0, 0, 201)) rfl) rfl ?_
        refine e_0 (f_84 (pc := 201) (e := (201, 0, 0, 0, 0, 0, 0, 202)) rfl) (v := 0) rfl ?_
        refine e_130 (f_84 (pc := 202) (e := (202, 130, 56, 0, 5, 137, 997, 205)) rfl) zA (as := [yr (some 68), yi x1, yi (-1), yi x2, yi 0]) (rest := []) rfl rfl rfl rfl (Nat.le_of_ble_eq_true rfl) (Nat.le_of_ble_eq_true rfl) ⟨_, _, _, rfl, (hT 68 rfl)⟩ (mc := 0) (ms := 0) (Nat.zero_le _) (Nat.zero_le _) ?_
        refine e_K ?_ F
        rintro r h' ⟨I34, rfl, rfl, F⟩
        refine e_lo [] rfl ?_
        exact F
    · replace F := F.2 c23
      refine e_12 (f_84 (pc := 141) (e := (141, 12, 0, 0, 0, 0, 0, 142)) rfl) rfl ?_
      refine e_90r zA (f_84 (pc := 142) (e := (142, 90, 7, 2, 3, 12, 978, 145)) rfl) rfl (hT 67 rfl) rfl rfl (hR 67 2 rfl) ?_
      refine e_10 (f_84 (pc := 145) (e := (145, 10, 1, 0, 0, 0, 0, 146)) rfl) rfl ?_
      refine e_10 (f_84 (pc := 146) (e := (146, 10, 3, 0, 0, 0, 0, 147)) rfl) rfl ?_
      refine e_10 (f_84 (pc := 147) (e := (147, 10, 2, 0, 0, 0, 0, 148)) rfl) rfl ?_
      refine e_0 (f_84 (pc := 148) (e := (148, 0, 1, 0, 0, 0, 0, 149)) rfl) (v := 1) rfl ?_
      refine e_130 (f_84 (pc := 149) (e := (149, 130, 56, 0, 5, 137, 997, 152)) rfl) zA (as := [yr (some 68), yi x1, yi (-1), yi x2, yi 1]) (rest := []) rfl rfl rfl rfl (Nat.le_of_ble_eq_true rfl) (Nat.le_of_ble_eq_true rfl) ⟨_, _, _, rfl, (hT 68 rfl)⟩ (mc := 0) (ms := 0) (Nat.zero_le _) (Nat.zero_le _) ?_
      refine e_K ?_ F
      rintro r h' ⟨I35, rfl, rfl, F⟩
      refine e_12 (f_84 (pc := 152) (e := (152, 12, 0, 0, 0, 0, 0, 153)) rfl) rfl ?_
      refine e_10 (f_84 (pc := 153) (e := (153, 10, 3, 0, 0, 0, 0, 154)) rfl) rfl ?_
      refine e_130 (f_84 (pc := 154) (e := (154, 130, 99, 0, 7, 141, 998, 157)) rfl) zA (as := [yr (some 67), yi (-1)]) (rest := []) rfl rfl rfl rfl (Nat.le_of_ble_eq_true rfl) (Nat.le_of_ble_eq_true rfl) ⟨_, _, _, rfl, (hT 67 rfl)⟩ (mc := 0) (ms := 0) (Nat.zero_le _) (Nat.zero_le _) ?_
      refine e_K ?_ F
      rintro r h' ⟨I36, rfl, rfl, F⟩
      refine e_12 (f_84 (pc := 157) (e := (157, 12, 0, 0, 0, 0, 0, 158)) rfl) rfl ?_
      refine e_10 (f_84 (pc := 158) (e := (158, 10, 1, 0, 0, 0, 0, 159)) rfl) rfl ?_
      refine e_10 (f_84 (pc := 159) (e := (159, 10, 2, 0, 0, 0, 0, 160)) rfl) rfl ?_
      refine e_130 (f_84 (pc := 160) (e := (160, 130, 101, 0, 7, 126, 994, 163)) rfl) zA (as := [yr (some 67), yi x1, yi x2]) (rest := []) rfl rfl rfl rfl (Nat.le_of_ble_eq_true rfl) (Nat.le_of_ble_eq_true rfl) ⟨_, _, _, rfl, (hT 67 rfl)⟩ (mc := 0) (ms := 0) (Nat.zero_le _) (Nat.zero_le _) ?_
      refine e_K ?_ F
      rintro r h' ⟨I37, rfl, rfl, F⟩
      exact e_122 (f_84 (pc := 163) (e := (163, 122, 0, 0, 0, 0, 0, 164)) rfl) F
set_option maxRecDepth 20000 in
theorem B_84_205 (hT : yLT T) (hR : yLR R) (F : K none (N, T, R, I)) :
    yW l zSS D cy zFk z d 84 bc bs K 0 0 205 [] [] (N, T, R, I) := by
  exact e_122 (f_84 (pc := 205) (e := (205, 122, 0, 0, 0, 0, 0, 0)) rfl) F

/-! ChairAlley$Walk.canBePushed(II)Z -/
set_option maxRecDepth 20000 in
theorem B_85_0 (hT : yLT T) (hR : yLR R) {x1 x2 : Int} (F : (x1 < 0 → K (some (yi 0)) (N, T, R, I)) ∧ (¬ (x1 < 0) → (8 ≤ x1 → K (some (yi 0)) (N, T, R, I)) ∧ (¬ (8 ≤ x1) → (x2 < 0 → K (some (yi 0)) (N, T, R, I)) ∧ (¬ (x2 < 0) → (x2 < 8 → 0 ≤ x1 ∧ x1 < 8 ∧ (((I 84 x1.toNat) ≠ 0 → K (some (yi 0)) (N, T, R, I)) ∧ (¬ ((I 84 x1.toNat) ≠ 0) → 0 ≤ x1 ∧ x1 < 8 ∧ (((I 73 x1.toNat) ≠ (-1) → 0 ≤ x1 ∧ x1 < 8 ∧ (0 ≤ x2 ∧ x2 < 8 ∧ (((I 82 x1.toNat) ≤ (I 82 x2.toNat) → K (some (yi 0)) (N, T, R, I)) ∧ (¬ ((I 82 x1.toNat) ≤ (I 82 x2.toNat)) → 0 ≤ x1 ∧ x1 < 8 ∧ (yW l zSS D cy zFk z d 91 0 0 (fun r h' => ∃ r19 I18, r = some (yi r19) ∧ h' = (N, T, R, I18) ∧ ((r19 = 0 → K (some (yi 0)) (N, T, R, I18)) ∧ (¬ (r19 = 0) → K (some (yi 1)) (N, T, R, I18)))) 0 0 0 [(0, yr (some 67)), (1, yi (I 73 x1.toNat))] [] (N, T, R, I)))))) ∧ (¬ ((I 73 x1.toNat) ≠ (-1)) → K (some (yi 0)) (N, T, R, I)))))) ∧ (¬ (x2 < 8) → K (some (yi 0)) (N, T, R, I)))))) :
    yW l zSS D cy zFk z (d + 1) 85 bc bs K 0 0 0 [(0, yr (some 67)), (1, yi x1), (2, yi x2)] [] (N, T, R, I) := by
  refine e_10 (f_85 (pc := 0) (e := (0, 10, 1, 0, 0, 0, 0, 1)) rfl) rfl ?_
  refine e_62 (f_85 (pc := 1) (e := (1, 62, 20, 0, 0, 0, 0, 4)) rfl) (fun c1 => ?_) (fun c1 => ?_)
  · replace F := F.1 c1
    refine e_0 (f_85 (pc := 20) (e := (20, 0, 0, 0, 0, 0, 0, 21)) rfl) (v := 0) rfl ?_
    exact e_121 (f_85 (pc := 21) (e := (21, 121, 0, 0, 0, 0, 0, 22)) rfl) (.inl rfl) F
  · replace F := F.2 c1
    refine e_10 (f_85 (pc := 4) (e := (4, 10, 1, 0, 0, 0, 0, 5)) rfl) rfl ?_
    refine e_1 (f_85 (pc := 5) (e := (5, 1, 8, 0, 0, 0, 0, 7)) rfl) (v := 8) rfl ?_
    refine e_73 (f_85 (pc := 7) (e := (7, 73, 20, 0, 0, 0, 0, 10)) rfl) (fun c2 => ?_) (fun c2 => ?_)
    · replace F := F.1 c2
      refine e_0 (f_85 (pc := 20) (e := (20, 0, 0, 0, 0, 0, 0, 21)) rfl) (v := 0) rfl ?_
      exact e_121 (f_85 (pc := 21) (e := (21, 121, 0, 0, 0, 0, 0, 22)) rfl) (.inl rfl) F
    · replace F := F.2 c2
      refine e_10 (f_85 (pc := 10) (e := (10, 10, 2, 0, 0, 0, 0, 11)) rfl) rfl ?_
      refine e_62 (f_85 (pc := 11) (e := (11, 62, 20, 0, 0, 0, 0, 14)) rfl) (fun c3 => ?_) (fun c3 => ?_)
      · replace F := F.1 c3
        refine e_0 (f_85 (pc := 20) (e := (20, 0, 0, 0, 0, 0, 0, 21)) rfl) (v := 0) rfl ?_
        exact e_121 (f_85 (pc := 21) (e := (21, 121, 0, 0, 0, 0, 0, 22)) rfl) (.inl rfl) F
      · replace F := F.2 c3
        refine e_10 (f_85 (pc := 14) (e := (14, 10, 2, 0, 0, 0, 0, 15)) rfl) rfl ?_
        refine e_1 (f_85 (pc := 15) (e := (15, 1, 8, 0, 0, 0, 0, 17)) rfl) (v := 8) rfl ?_
        refine e_72 (f_85 (pc := 17) (e := (17, 72, 22, 0, 0, 0, 0, 20)) rfl) (fun c4 => ?_) (fun c4 => ?_)
        · replace F := F.1 c4
          refine e_12 (f_85 (pc := 22) (e := (22, 12, 0, 0, 0, 0, 0, 23)) rfl) rfl ?_
          refine e_90r zA (f_85 (pc := 23) (e := (23, 90, 7, 6, 3, 29, 982, 26)) rfl) rfl (hT 67 rfl) rfl rfl (hR 67 6 rfl) ?_
          refine e_10 (f_85 (pc := 26) (e := (26, 10, 1, 0, 0, 0, 0, 27)) rfl) rfl ?_
          obtain ⟨b5, b6, F⟩ := F
          refine e_112 (f_85 (pc := 27) (e := (27, 112, 0, 0, 0, 0, 0, 28)) rfl) rfl (hT 84 rfl) b5 b6 (.inr rfl) ?_
          refine e_61 (f_85 (pc := 28) (e := (28, 61, 44, 0, 0, 0, 0, 31)) rfl) (fun c7 => ?_) (fun c7 => ?_)
          · replace F := F.1 c7
            refine e_0 (f_85 (pc := 44) (e := (44, 0, 0, 0, 0, 0, 0, 45)) rfl) (v := 0) rfl ?_
            exact e_121 (f_85 (pc := 45) (e := (45, 121, 0, 0, 0, 0, 0, 46)) rfl) (.inl rfl) F
          · replace F := F.2 c7
            refine e_12 (f_85 (pc := 31) (e := (31, 12, 0, 0, 0, 0, 0, 32)) rfl) rfl ?_
            refine e_90r zA (f_85 (pc := 32) (e := (32, 90, 7, 2, 3, 12, 978, 35)) rfl) rfl (hT 67 rfl) rfl rfl (hR 67 2 rfl) ?_
            refine e_90r zA (f_85 (pc := 35) (e := (35, 90, 5, 5, 3, 113, 1001, 38)) rfl) rfl (hT 68 rfl) rfl rfl (hR 68 5 rfl) ?_
            refine e_10 (f_85 (pc := 38) (e := (38, 10, 1, 0, 0, 0, 0, 39)) rfl) rfl ?_
            obtain ⟨b8, b9, F⟩ := F
            refine e_110 (f_85 (pc := 39) (e := (39, 110, 0, 0, 0, 0, 0, 40)) rfl) rfl (hT 73 rfl) b8 b9 ?_
            refine e_0 (f_85 (pc := 40) (e := (40, 0, 4294967295, 0, 0, 0, 0, 41)) rfl) (v := (-1)) rfl ?_
            refine e_71 (f_85 (pc := 41) (e := (41, 71, 46, 0, 0, 0, 0, 44)) rfl) (fun c10 => ?_) (fun c10 => ?_)
            · replace F := F.1 c10
              refine e_12 (f_85 (pc := 46) (e := (46, 12, 0, 0, 0, 0, 0, 47)) rfl) rfl ?_
              refine e_90r zA (f_85 (pc := 47) (e := (47, 90, 7, 4, 3, 22, 980, 50)) rfl) rfl (hT 67 rfl) rfl rfl (hR 67 4 rfl) ?_
              refine e_10 (f_85 (pc := 50) (e := (50, 10, 1, 0, 0, 0, 0, 51)) rfl) rfl ?_
              obtain ⟨b11, b12, F⟩ := F
              refine e_110 (f_85 (pc := 51) (e := (51, 110, 0, 0, 0, 0, 0, 52)) rfl) rfl (hT 82 rfl) b11 b12 ?_
              refine e_12 (f_85 (pc := 52) (e := (52, 12, 0, 0, 0, 0, 0, 53)) rfl) rfl ?_
              refine e_90r zA (f_85 (pc := 53) (e := (53, 90, 7, 4, 3, 22, 980, 56)) rfl) rfl (hT 67 rfl) rfl rfl (hR 67 4 rfl) ?_
              refine e_10 (f_85 (pc := 56) (e := (56, 10, 2, 0, 0, 0, 0, 57)) rfl) rfl ?_
              obtain ⟨b13, b14, F⟩ := F
              refine e_110 (f_85 (pc := 57) (e := (57, 110, 0, 0, 0, 0, 0, 58)) rfl) rfl (hT 82 rfl) b13 b14 ?_
              refine e_75 (f_85 (pc := 58) (e := (58, 75, 81, 0, 0, 0, 0, 61)) rfl) (fun c15 => ?_) (fun c15 => ?_)
              · replace F := F.1 c15
                refine e_0 (f_85 (pc := 81) (e := (81, 0, 0, 0, 0, 0, 0, 82)) rfl) (v := 0) rfl ?_
                exact e_121 (f_85 (pc := 82) (e := (82, 121, 0, 0, 0, 0, 0, 0)) rfl) (.inl rfl) F
              · replace F := F.2 c15
                refine e_12 (f_85 (pc := 61) (e := (61, 12, 0, 0, 0, 0, 0, 62)) rfl) rfl ?_
                refine e_12 (f_85 (pc := 62) (e := (62, 12, 0, 0, 0, 0, 0, 63)) rfl) rfl ?_
                refine e_90r zA (f_85 (pc := 63) (e := (63, 90, 7, 2, 3, 12, 978, 66)) rfl) rfl (hT 67 rfl) rfl rfl (hR 67 2 rfl) ?_
                refine e_90r zA (f_85 (pc := 66) (e := (66, 90, 5, 5, 3, 113, 1001, 69)) rfl) rfl (hT 68 rfl) rfl rfl (hR 68 5 rfl) ?_
                refine e_10 (f_85 (pc := 69) (e := (69, 10, 1, 0, 0, 0, 0, 70)) rfl) rfl ?_
                obtain ⟨b16, b17, F⟩ := F
                refine e_110 (f_85 (pc := 70) (e := (70, 110, 0, 0, 0, 0, 0, 71)) rfl) rfl (hT 73 rfl) b16 b17 ?_
                refine e_130 (f_85 (pc := 71) (e := (71, 130, 91, 0, 7, 109, 993, 74)) rfl) zA (as := [yr (some 67), yi _]) (rest := []) rfl rfl rfl rfl (Nat.le_of_ble_eq_true rfl) (Nat.le_of_ble_eq_true rfl) ⟨_, _, _, rfl, (hT 67 rfl)⟩ (mc := 0) (ms := 0) (Nat.zero_le _) (Nat.zero_le _) ?_
                refine e_K ?_ F
                rintro r h' ⟨r19, I18, rfl, rfl, F⟩
                refine e_60 (f_85 (pc := 74) (e := (74, 60, 81, 0, 0, 0, 0, 77)) rfl) (fun c20 => ?_) (fun c20 => ?_)
                · replace F := F.1 c20
                  refine e_0 (f_85 (pc := 81) (e := (81, 0, 0, 0, 0, 0, 0, 82)) rfl) (v := 0) rfl ?_
                  exact e_121 (f_85 (pc := 82) (e := (82, 121, 0, 0, 0, 0, 0, 0)) rfl) (.inl rfl) F
                · replace F := F.2 c20
                  refine e_0 (f_85 (pc := 77) (e := (77, 0, 1, 0, 0, 0, 0, 78)) rfl) (v := 1) rfl ?_
                  refine e_80 (f_85 (pc := 78) (e := (78, 80, 82, 0, 0, 0, 0, 81)) rfl) ?_
                  exact e_121 (f_85 (pc := 82) (e := (82, 121, 0, 0, 0, 0, 0, 0)) rfl) (.inr rfl) F
            · replace F := F.2 c10
              refine e_0 (f_85 (pc := 44) (e := (44, 0, 0, 0, 0, 0, 0, 45)) rfl) (v := 0) rfl ?_
              exact e_121 (f_85 (pc := 45) (e := (45, 121, 0, 0, 0, 0, 0, 46)) rfl) (.inl rfl) F
        · replace F := F.2 c4
          refine e_0 (f_85 (pc := 20) (e := (20, 0, 0, 0, 0, 0, 0, 21)) rfl) (v := 0) rfl ?_
          exact e_121 (f_85 (pc := 21) (e := (21, 121, 0, 0, 0, 0, 0, 22)) rfl) (.inl rfl) F

/-! ChairAlley$Walk.comeOut(I)V -/
set_option maxRecDepth 20000 in
theorem B_86_0 (hT : yLT T) (hR : yLR R) {x1 : Int} (F : (x1 < 0 → K none (N, T, R, I)) ∧ (¬ (x1 < 0) → (8 ≤ x1 → K none (N, T, R, I)) ∧ (¬ (8 ≤ x1) → 0 ≤ x1 ∧ x1 < 8 ∧ (((I 72 x1.toNat) ≠ (-1) → K none (N, T, R, I)) ∧ (¬ ((I 72 x1.toNat) ≠ (-1)) → 0 ≤ x1 ∧ x1 < 8 ∧ (((I 77 x1.toNat) = (-1) → 0 ≤ x1 ∧ x1 < 8 ∧ (((I 70 x1.toNat) ≤ (I 68 0) → 0 ≤ x1 ∧ x1 < 8 ∧ (0 ≤ x1 ∧ x1 < 8 ∧ (((I 9 x1.toNat) ≠ (I 10 x1.toNat) → 0 ≤ x1 ∧ x1 < 8 ∧ (yW l zSS D cy zFk z d 91 0 0 (fun r h' => ∃ r20 I19, r = some (yi r20) ∧ h' = (N, T, R, I19) ∧ ((r20 = 0 → K none (N, T, R, I19)) ∧ (¬ (r20 = 0) → ∀ I22, I22 = yU I19 67 7 0 → (0 ≤ x1 ∧ x1 < 8 ∧ (0 ≤ x1 ∧ x1 < 8 ∧ (∀ I27, I27 = yU I22 72 x1.toNat (ynar 1 (I22 9 x1.toNat)) → (0 ≤ x1 ∧ x1 < 8 ∧ (∀ I30, I30 = yU I27 73 x1.toNat (ynar 1 (-1)) → (K none (N, T, R, I30)))))))))) 0 0 0 [(0, yr (some 67)), (1, yi (I 9 x1.toNat))] [] (N, T, R, I))) ∧ (¬ ((I 9 x1.toNat) ≠ (I 10 x1.toNat)) → ∀ I31, I31 = yU I 67 7 0 → (0 ≤ x1 ∧ x1 < 8 ∧ (∀ I34, I34 = yU I31 77 x1.toNat (ynar 1 (I31 68 0)) → (K none (N, T, R, I34)))))))) ∧ (¬ ((I 70 x1.toNat) ≤ (I 68 0)) → ∀ I35, I35 = yU I 67 7 0 → (K none (N, T, R, I35))))) ∧ (¬ ((I 77 x1.toNat) = (-1)) → K none (N, T, R, I)))))))) :
    yW l zSS D cy zFk z (d + 1) 86 bc bs K 0 0 0 [(0, yr (some 67)), (1, yi x1)] [] (N, T, R, I) := by
  refine e_10 (f_86 (pc := 0) (e := (0, 10, 1, 0, 0, 0, 0, 1)) rfl) rfl ?_
  refine e_62 (f_86 (pc := 1) (e := (1, 62, 36, 0, 0, 0, 0, 4)) rfl) (fun c1 => ?_) (fun c1 => ?_)
  · replace F := F.1 c1
    exact e_122 (f_86 (pc := 36) (e := (36, 122, 0, 0, 0, 0, 0, 37)) rfl) F
  · replace F := F.2 c1
    refine e_10 (f_86 (pc := 4) (e := (4, 10, 1, 0, 0, 0, 0, 5)) rfl) rfl ?_
    refine e_1 (f_86 (pc := 5) (e := (5, 1, 8, 0, 0, 0, 0, 7)) rfl) (v := 8) rfl ?_
    refine e_73 (f_86 (pc := 7) (e := (7, 73, 36, 0, 0, 0, 0, 10)) rfl) (fun c2 => ?_) (fun c2 => ?_)
    · replace F := F.1 c2
      exact e_122 (f_86 (pc := 36) (e := (36, 122, 0, 0, 0, 0, 0, 37)) rfl) F
    · replace F := F.2 c2
      refine e_12 (f_86 (pc := 10) (e := (10, 12, 0, 0, 0, 0, 0, 11)) rfl) rfl ?_
      refine e_90r zA (f_86 (pc := 11) (e := (11, 90, 7, 2, 3, 12, 978, 14)) rfl) rfl (hT 67 rfl) rfl rfl (hR 67 2 rfl) ?_
      refine e_90r zA (f_86 (pc := 14) (e := (14, 90, 5, 4, 3, 100, 987, 17)) rfl) rfl (hT 68 rfl) rfl rfl (hR 68 4 rfl) ?_
      refine e_10 (f_86 (pc := 17) (e := (17, 10, 1, 0, 0, 0, 0, 18)) rfl) rfl ?_
      obtain ⟨b3, b4, F⟩ := F
      refine e_110 (f_86 (pc := 18) (e := (18, 110, 0, 0, 0, 0, 0, 19)) rfl) rfl (hT 72 rfl) b3 b4 ?_
      refine e_0 (f_86 (pc := 19) (e := (19, 0, 4294967295, 0, 0, 0, 0, 20)) rfl) (v := (-1)) rfl ?_
      refine e_71 (f_86 (pc := 20) (e := (20, 71, 36, 0, 0, 0, 0, 23)) rfl) (fun c5 => ?_) (fun c5 => ?_)
      · replace F := F.1 c5
        exact e_122 (f_86 (pc := 36) (e := (36, 122, 0, 0, 0, 0, 0, 37)) rfl) F
      · replace F := F.2 c5
        refine e_12 (f_86 (pc := 23) (e := (23, 12, 0, 0, 0, 0, 0, 24)) rfl) rfl ?_
        refine e_90r zA (f_86 (pc := 24) (e := (24, 90, 7, 2, 3, 12, 978, 27)) rfl) rfl (hT 67 rfl) rfl rfl (hR 67 2 rfl) ?_
        refine e_90r zA (f_86 (pc := 27) (e := (27, 90, 5, 9, 3, 59, 1002, 30)) rfl) rfl (hT 68 rfl) rfl rfl (hR 68 9 rfl) ?_
        refine e_10 (f_86 (pc := 30) (e := (30, 10, 1, 0, 0, 0, 0, 31)) rfl) rfl ?_
        obtain ⟨b6, b7, F⟩ := F
        refine e_110 (f_86 (pc := 31) (e := (31, 110, 0, 0, 0, 0, 0, 32)) rfl) rfl (hT 77 rfl) b6 b7 ?_
        refine e_0 (f_86 (pc := 32) (e := (32, 0, 4294967295, 0, 0, 0, 0, 33)) rfl) (v := (-1)) rfl ?_
        refine e_70 (f_86 (pc := 33) (e := (33, 70, 37, 0, 0, 0, 0, 36)) rfl) (fun c8 => ?_) (fun c8 => ?_)
        · replace F := F.1 c8
          refine e_12 (f_86 (pc := 37) (e := (37, 12, 0, 0, 0, 0, 0, 38)) rfl) rfl ?_
          refine e_90r zA (f_86 (pc := 38) (e := (38, 90, 7, 2, 3, 12, 978, 41)) rfl) rfl (hT 67 rfl) rfl rfl (hR 67 2 rfl) ?_
          refine e_90r zA (f_86 (pc := 41) (e := (41, 90, 5, 2, 3, 103, 1003, 44)) rfl) rfl (hT 68 rfl) rfl rfl (hR 68 2 rfl) ?_
          refine e_10 (f_86 (pc := 44) (e := (44, 10, 1, 0, 0, 0, 0, 45)) rfl) rfl ?_
          obtain ⟨b9, b10, F⟩ := F
          refine e_110 (f_86 (pc := 45) (e := (45, 110, 0, 0, 0, 0, 0, 46)) rfl) rfl (hT 70 rfl) b9 b10 ?_
          refine e_12 (f_86 (pc := 46) (e := (46, 12, 0, 0, 0, 0, 0, 47)) rfl) rfl ?_
          refine e_90r zA (f_86 (pc := 47) (e := (47, 90, 7, 2, 3, 12, 978, 50)) rfl) rfl (hT 67 rfl) rfl rfl (hR 67 2 rfl) ?_
          refine e_90 zA (f_86 (pc := 50) (e := (50, 90, 5, 0, 0, 97, 988, 53)) rfl) rfl (hT 68 rfl) rfl rfl ?_
          refine e_75 (f_86 (pc := 53) (e := (53, 75, 64, 0, 0, 0, 0, 56)) rfl) (fun c11 => ?_) (fun c11 => ?_)
          · replace F := F.1 c11
            refine e_12 (f_86 (pc := 64) (e := (64, 12, 0, 0, 0, 0, 0, 65)) rfl) rfl ?_
            refine e_90r zA (f_86 (pc := 65) (e := (65, 90, 7, 0, 3, 33, 983, 68)) rfl) rfl (hT 67 rfl) rfl rfl (hR 67 0 rfl) ?_
            refine e_90r zA (f_86 (pc := 68) (e := (68, 90, 1, 7, 3, 106, 1004, 71)) rfl) rfl (hT 4 rfl) rfl rfl (hR 4 7 rfl) ?_
            refine e_10 (f_86 (pc := 71) (e := (71, 10, 1, 0, 0, 0, 0, 72)) rfl) rfl ?_
            obtain ⟨b12, b13, F⟩ := F
            refine e_110 (f_86 (pc := 72) (e := (72, 110, 0, 0, 0, 0, 0, 73)) rfl) rfl (hT 9 rfl) b12 b13 ?_
            refine e_12 (f_86 (pc := 73) (e := (73, 12, 0, 0, 0, 0, 0, 74)) rfl) rfl ?_
            refine e_90r zA (f_86 (pc := 74) (e := (74, 90, 7, 0, 3, 33, 983, 77)) rfl) rfl (hT 67 rfl) rfl rfl (hR 67 0 rfl) ?_
            refine e_90r zA (f_86 (pc := 77) (e := (77, 90, 1, 8, 3, 65, 1005, 80)) rfl) rfl (hT 4 rfl) rfl rfl (hR 4 8 rfl) ?_
            refine e_10 (f_86 (pc := 80) (e := (80, 10, 1, 0, 0, 0, 0, 81)) rfl) rfl ?_
            obtain ⟨b14, b15, F⟩ := F
            refine e_110 (f_86 (pc := 81) (e := (81, 110, 0, 0, 0, 0, 0, 82)) rfl) rfl (hT 10 rfl) b14 b15 ?_
            refine e_71 (f_86 (pc := 82) (e := (82, 71, 109, 0, 0, 0, 0, 85)) rfl) (fun c16 => ?_) (fun c16 => ?_)
            · replace F := F.1 c16
              refine e_12 (f_86 (pc := 109) (e := (109, 12, 0, 0, 0, 0, 0, 110)) rfl) rfl ?_
              refine e_12 (f_86 (pc := 110) (e := (110, 12, 0, 0, 0, 0, 0, 111)) rfl) rfl ?_
              refine e_90r zA (f_86 (pc := 111) (e := (111, 90, 7, 0, 3, 33, 983, 114)) rfl) rfl (hT 67 rfl) rfl rfl (hR 67 0 rfl) ?_
              refine e_90r zA (f_86 (pc := 114) (e := (114, 90, 1, 7, 3, 106, 1004, 117)) rfl) rfl (hT 4 rfl) rfl rfl (hR 4 7 rfl) ?_
              refine e_10 (f_86 (pc := 117) (e := (117, 10, 1, 0, 0, 0, 0, 118)) rfl) rfl ?_
              obtain ⟨b17, b18, F⟩ := F
              refine e_110 (f_86 (pc := 118) (e := (118, 110, 0, 0, 0, 0, 0, 119)) rfl) rfl (hT 9 rfl) b17 b18 ?_
              refine e_130 (f_86 (pc := 119) (e := (119, 130, 91, 0, 7, 109, 993, 122)) rfl) zA (as := [yr (some 67), yi _]) (rest := []) rfl rfl rfl rfl (Nat.le_of_ble_eq_true rfl) (Nat.le_of_ble_eq_true rfl) ⟨_, _, _, rfl, (hT 67 rfl)⟩ (mc := 0) (ms := 0) (Nat.zero_le _) (Nat.zero_le _) ?_
              refine e_K ?_ F
              rintro r h' ⟨r20, I19, rfl, rfl, F⟩
              refine e_60 (f_86 (pc := 122) (e := (122, 60, 158, 0, 0, 0, 0, 125)) rfl) (fun c21 => ?_) (fun c21 => ?_)
              · replace F := F.1 c21
                exact e_122 (f_86 (pc := 158) (e := (158, 122, 0, 0, 0, 0, 0, 0)) rfl) F
              · replace F := F.2 c21
                refine e_12 (f_86 (pc := 125) (e := (125, 12, 0, 0, 0, 0, 0, 126)) rfl) rfl ?_
                refine e_0 (f_86 (pc := 126) (e := (126, 0, 0, 0, 0, 0, 0, 127)) rfl) (v := 0) rfl ?_
                refine e_91 zA (f_86 (pc := 127) (e := (127, 91, 7, 7, 2, 76, 991, 130)) rfl) rfl (hT 67 rfl) rfl rfl (.inl rfl) ?_
                replace F := F _ rfl
                refine e_12 (f_86 (pc := 130) (e := (130, 12, 0, 0, 0, 0, 0, 131)) rfl) rfl ?_
                refine e_90r zA (f_86 (pc := 131) (e := (131, 90, 7, 2, 3, 12, 978, 134)) rfl) rfl (hT 67 rfl) rfl rfl (hR 67 2 rfl) ?_
                refine e_90r zA (f_86 (pc := 134) (e := (134, 90, 5, 4, 3, 100, 987, 137)) rfl) rfl (hT 68 rfl) rfl rfl (hR 68 4 rfl) ?_
                refine e_10 (f_86 (pc := 137) (e := (137, 10, 1, 0, 0, 0, 0, 138)) rfl) rfl ?_
                refine e_12 (f_86 (pc := 138) (e := (138, 12, 0, 0, 0, 0, 0, 139)) rfl) rfl ?_
                refine e_90r zA (f_86 (pc := 139) (e := (139, 90, 7, 0, 3, 33, 983, 142)) rfl) rfl (hT 67 rfl) rfl rfl (hR 67 0 rfl) ?_
                refine e_90r zA (f_86 (pc := 142) (e := (142, 90, 1, 7, 3, 106, 1004, 145)) rfl) rfl (hT 4 rfl) rfl rfl (hR 4 7 rfl) ?_
                refine e_10 (f_86 (pc := 145) (e := (145, 10, 1, 0, 0, 0, 0, 146)) rfl) rfl ?_
                obtain ⟨b23, b24, F⟩ := F
                refine e_110 (f_86 (pc := 146) (e := (146, 110, 0, 0, 0, 0, 0, 147)) rfl) rfl (hT 9 rfl) b23 b24 ?_
                obtain ⟨b25, b26, F⟩ := F
                refine e_111 (f_86 (pc := 147) (e := (147, 111, 0, 0, 0, 0, 0, 148)) rfl) rfl (hT 72 rfl) b25 b26 ?_
                replace F := F _ rfl
                refine e_12 (f_86 (pc := 148) (e := (148, 12, 0, 0, 0, 0, 0, 149)) rfl) rfl ?_
                refine e_90r zA (f_86 (pc := 149) (e := (149, 90, 7, 2, 3, 12, 978, 152)) rfl) rfl (hT 67 rfl) rfl rfl (hR 67 2 rfl) ?_
                refine e_90r zA (f_86 (pc := 152) (e := (152, 90, 5, 5, 3, 113, 1001, 155)) rfl) rfl (hT 68 rfl) rfl rfl (hR 68 5 rfl) ?_
                refine e_10 (f_86 (pc := 155) (e := (155, 10, 1, 0, 0, 0, 0, 156)) rfl) rfl ?_
                refine e_0 (f_86 (pc := 156) (e := (156, 0, 4294967295, 0, 0, 0, 0, 157)) rfl) (v := (-1)) rfl ?_
                obtain ⟨b28, b29, F⟩ := F
                refine e_111 (f_86 (pc := 157) (e := (157, 111, 0, 0, 0, 0, 0, 158)) rfl) rfl (hT 73 rfl) b28 b29 ?_
                replace F := F _ rfl
                exact e_122 (f_86 (pc := 158) (e := (158, 122, 0, 0, 0, 0, 0, 0)) rfl) F
            · replace F := F.2 c16
              refine e_12 (f_86 (pc := 85) (e := (85, 12, 0, 0, 0, 0, 0, 86)) rfl) rfl ?_
              refine e_0 (f_86 (pc := 86) (e := (86, 0, 0, 0, 0, 0, 0, 87)) rfl) (v := 0) rfl ?_
              refine e_91 zA (f_86 (pc := 87) (e := (87, 91, 7, 7, 2, 76, 991, 90)) rfl) rfl (hT 67 rfl) rfl rfl (.inl rfl) ?_
              replace F := F _ rfl
              refine e_12 (f_86 (pc := 90) (e := (90, 12, 0, 0, 0, 0, 0, 91)) rfl) rfl ?_
              refine e_90r zA (f_86 (pc := 91) (e := (91, 90, 7, 2, 3, 12, 978, 94)) rfl) rfl (hT 67 rfl) rfl rfl (hR 67 2 rfl) ?_
              refine e_90r zA (f_86 (pc := 94) (e := (94, 90, 5, 9, 3, 59, 1002, 97)) rfl) rfl (hT 68 rfl) rfl rfl (hR 68 9 rfl) ?_
              refine e_10 (f_86 (pc := 97) (e := (97, 10, 1, 0, 0, 0, 0, 98)) rfl) rfl ?_
              refine e_12 (f_86 (pc := 98) (e := (98, 12, 0, 0, 0, 0, 0, 99)) rfl) rfl ?_
              refine e_90r zA (f_86 (pc := 99) (e := (99, 90, 7, 2, 3, 12, 978, 102)) rfl) rfl (hT 67 rfl) rfl rfl (hR 67 2 rfl) ?_
              refine e_90 zA (f_86 (pc := 102) (e := (102, 90, 5, 0, 0, 97, 988, 105)) rfl) rfl (hT 68 rfl) rfl rfl ?_
              obtain ⟨b32, b33, F⟩ := F
              refine e_111 (f_86 (pc := 105) (e := (105, 111, 0, 0, 0, 0, 0, 106)) rfl) rfl (hT 77 rfl) b32 b33 ?_
              replace F := F _ rfl
              refine e_80 (f_86 (pc := 106) (e := (106, 80, 158, 0, 0, 0, 0, 109)) rfl) ?_
              exact e_122 (f_86 (pc := 158) (e := (158, 122, 0, 0, 0, 0, 0, 0)) rfl) F
          · replace F := F.2 c11
            refine e_12 (f_86 (pc := 56) (e := (56, 12, 0, 0, 0, 0, 0, 57)) rfl) rfl ?_
            refine e_0 (f_86 (pc := 57) (e := (57, 0, 0, 0, 0, 0, 0, 58)) rfl) (v := 0) rfl ?_
            refine e_91 zA (f_86 (pc := 58) (e := (58, 91, 7, 7, 2, 76, 991, 61)) rfl) rfl (hT 67 rfl) rfl rfl (.inl rfl) ?_
            replace F := F _ rfl
            refine e_80 (f_86 (pc := 61) (e := (61, 80, 158, 0, 0, 0, 0, 64)) rfl) ?_
            exact e_122 (f_86 (pc := 158) (e := (158, 122, 0, 0, 0, 0, 0, 0)) rfl) F
        · replace F := F.2 c8
          exact e_122 (f_86 (pc := 36) (e := (36, 122, 0, 0, 0, 0, 0, 37)) rfl) F

/-! ChairAlley$Walk.doPlanned(I)I -/
set_option maxRecDepth 20000 in
theorem B_87_0 (hT : yLT T) (hR : yLR R) {x1 : Int} (F : (x1 < 0 → K (some (yi 1)) (N, T, R, I)) ∧ (¬ (x1 < 0) → yW l zSS D cy zFk z d 11 0 0 (fun r h' => ∃ r3 I2, r = some (yi r3) ∧ h' = (N, T, R, I2) ∧ ((r3 = 0 → K (some (yi 1)) (N, T, R, I2)) ∧ (¬ (r3 = 0) → 0 ≤ (ydiv x1 4) ∧ (ydiv x1 4) < 8 ∧ (((I2 72 (ydiv x1 4).toNat) ≠ (-1) → 0 ≤ (ydiv x1 4) ∧ (ydiv x1 4) < 8 ∧ (yW l zSS D cy zFk z d 25 0 0 (fun r h' => ∃ r11 I10, r = some (yi r11) ∧ h' = (N, T, R, I10) ∧ ((r11 ≠ (-1) → yW l zSS D cy zFk z d 91 0 0 (fun r h' => ∃ r14 I13, r = some (yi r14) ∧ h' = (N, T, R, I13) ∧ ((r14 ≠ 0 → 0 ≤ (ydiv x1 4) ∧ (ydiv x1 4) < 8 ∧ (0 ≤ (ydiv x1 4) ∧ (ydiv x1 4) < 8 ∧ (∀ I20, I20 = yU I13 74 ((ydiv x1 4).toNat) (ynar 1 (yadd (I13 74 (ydiv x1 4).toNat) 1)) → (0 ≤ (ydiv x1 4) ∧ (ydiv x1 4) < 8 ∧ (0 ≤ (ydiv x1 4) ∧ (ydiv x1 4) < 8 ∧ (∀ I25, I25 = yU I20 73 ((ydiv x1 4).toNat) (ynar 1 (I20 72 (ydiv x1 4).toNat)) → (0 ≤ (ydiv x1 4) ∧ (ydiv x1 4) < 8 ∧ (∀ I28, I28 = yU I25 72 ((ydiv x1 4).toNat) (ynar 1 r11) → (yW l zSS D cy zFk z d 95 0 0 (fun r h' => ∃ I29, r = none ∧ h' = (N, T, R, I29) ∧ (K (some (yi 0)) (N, T, R, I29))) 0 0 0 [(0, yr (some 67)), (1, yi (ydiv x1 4))] [] (N, T, R, I28)))))))))) ∧ (¬ (r14 ≠ 0) → K (some (yi 3)) (N, T, R, I13)))) 0 0 0 [(0, yr (some 67)), (1, yi r11)] [] (N, T, R, I10)) ∧ (¬ (r11 ≠ (-1)) → K (some (yi 2)) (N, T, R, I10)))) 0 0 0 [(0, yr (some 4)), (1, yr (some 69)), (2, yi (I2 72 (ydiv x1 4).toNat)), (3, yi (yrem x1 4))] [] (N, T, R, I2))) ∧ (¬ ((I2 72 (ydiv x1 4).toNat) ≠ (-1)) → K (some (yi 1)) (N, T, R, I2)))))) 0 0 0 [(0, yr (some 4)), (1, yi (ydiv x1 4))] [] (N, T, R, I))) :
    yW l zSS D cy zFk z (d + 1) 87 bc bs K 0 0 0 [(0, yr (some 67)), (1, yi x1)] [] (N, T, R, I) := by
  refine e_10 (f_87 (pc := 0) (e := (0, 10, 1, 0, 0, 0, 0, 1)) rfl) rfl ?_
  refine e_0 (f_87 (pc := 1) (e := (1, 0, 4, 0, 0, 0, 0, 2)) rfl) (v := 4) rfl ?_
  refine e_33 (f_87 (pc := 2) (e := (2, 33, 0, 0, 0, 0, 0, 3)) rfl) (by decide) ?_
  refine e_20 (f_87 (pc := 3) (e := (3, 20, 2, 0, 0, 0, 0, 4)) rfl) ?_
  refine e_10 (f_87 (pc := 4) (e := (4, 10, 1, 0, 0, 0, 0, 5)) rfl) rfl ?_
  refine e_62 (f_87 (pc := 5) (e := (5, 62, 32, 0, 0, 0, 0, 8)) rfl) (fun c1 => ?_) (fun c1 => ?_)
  · replace F := F.1 c1
    refine e_0 (f_87 (pc := 32) (e := (32, 0, 1, 0, 0, 0, 0, 33)) rfl) (v := 1) rfl ?_
    exact e_120 (f_87 (pc := 33) (e := (33, 120, 0, 0, 0, 0, 0, 34)) rfl) F
  · replace F := F.2 c1
    refine e_12 (f_87 (pc := 8) (e := (8, 12, 0, 0, 0, 0, 0, 9)) rfl) rfl ?_
    refine e_90r zA (f_87 (pc := 9) (e := (9, 90, 7, 0, 3, 33, 983, 12)) rfl) rfl (hT 67 rfl) rfl rfl (hR 67 0 rfl) ?_
    refine e_10 (f_87 (pc := 12) (e := (12, 10, 2, 0, 0, 0, 0, 13)) rfl) rfl ?_
    refine e_130 (f_87 (pc := 13) (e := (13, 130, 11, 0, 1, 192, 1006, 16)) rfl) zA (as := [yr (some 4), yi _]) (rest := []) rfl rfl rfl rfl (Nat.le_of_ble_eq_true rfl) (Nat.le_of_ble_eq_true rfl) ⟨_, _, _, rfl, (hT 4 rfl)⟩ (mc := 0) (ms := 0) (Nat.zero_le _) (Nat.zero_le _) ?_
    refine e_K ?_ F
    rintro r h' ⟨r3, I2, rfl, rfl, F⟩
    refine e_60 (f_87 (pc := 16) (e := (16, 60, 32, 0, 0, 0, 0, 19)) rfl) (fun c4 => ?_) (fun c4 => ?_)
    · replace F := F.1 c4
      refine e_0 (f_87 (pc := 32) (e := (32, 0, 1, 0, 0, 0, 0, 33)) rfl) (v := 1) rfl ?_
      exact e_120 (f_87 (pc := 33) (e := (33, 120, 0, 0, 0, 0, 0, 34)) rfl) F
    · replace F := F.2 c4
      refine e_12 (f_87 (pc := 19) (e := (19, 12, 0, 0, 0, 0, 0, 20)) rfl) rfl ?_
      refine e_90r zA (f_87 (pc := 20) (e := (20, 90, 7, 2, 3, 12, 978, 23)) rfl) rfl (hT 67 rfl) rfl rfl (hR 67 2 rfl) ?_
      refine e_90r zA (f_87 (pc := 23) (e := (23, 90, 5, 4, 3, 100, 987, 26)) rfl) rfl (hT 68 rfl) rfl rfl (hR 68 4 rfl) ?_
      refine e_10 (f_87 (pc := 26) (e := (26, 10, 2, 0, 0, 0, 0, 27)) rfl) rfl ?_
      obtain ⟨b5, b6, F⟩ := F
      refine e_110 (f_87 (pc := 27) (e := (27, 110, 0, 0, 0, 0, 0, 28)) rfl) rfl (hT 72 rfl) b5 b6 ?_
      refine e_0 (f_87 (pc := 28) (e := (28, 0, 4294967295, 0, 0, 0, 0, 29)) rfl) (v := (-1)) rfl ?_
      refine e_71 (f_87 (pc := 29) (e := (29, 71, 34, 0, 0, 0, 0, 32)) rfl) (fun c7 => ?_) (fun c7 => ?_)
      · replace F := F.1 c7
        refine e_12 (f_87 (pc := 34) (e := (34, 12, 0, 0, 0, 0, 0, 35)) rfl) rfl ?_
        refine e_90r zA (f_87 (pc := 35) (e := (35, 90, 7, 0, 3, 33, 983, 38)) rfl) rfl (hT 67 rfl) rfl rfl (hR 67 0 rfl) ?_
        refine e_12 (f_87 (pc := 38) (e := (38, 12, 0, 0, 0, 0, 0, 39)) rfl) rfl ?_
        refine e_90r zA (f_87 (pc := 39) (e := (39, 90, 7, 2, 3, 12, 978, 42)) rfl) rfl (hT 67 rfl) rfl rfl (hR 67 2 rfl) ?_
        refine e_90r zA (f_87 (pc := 42) (e := (42, 90, 5, 1, 3, 62, 1007, 45)) rfl) rfl (hT 68 rfl) rfl rfl (hR 68 1 rfl) ?_
        refine e_12 (f_87 (pc := 45) (e := (45, 12, 0, 0, 0, 0, 0, 46)) rfl) rfl ?_
        refine e_90r zA (f_87 (pc := 46) (e := (46, 90, 7, 2, 3, 12, 978, 49)) rfl) rfl (hT 67 rfl) rfl rfl (hR 67 2 rfl) ?_
        refine e_90r zA (f_87 (pc := 49) (e := (49, 90, 5, 4, 3, 100, 987, 52)) rfl) rfl (hT 68 rfl) rfl rfl (hR 68 4 rfl) ?_
        refine e_10 (f_87 (pc := 52) (e := (52, 10, 2, 0, 0, 0, 0, 53)) rfl) rfl ?_
        obtain ⟨b8, b9, F⟩ := F
        refine e_110 (f_87 (pc := 53) (e := (53, 110, 0, 0, 0, 0, 0, 54)) rfl) rfl (hT 72 rfl) b8 b9 ?_
        refine e_10 (f_87 (pc := 54) (e := (54, 10, 1, 0, 0, 0, 0, 55)) rfl) rfl ?_
        refine e_0 (f_87 (pc := 55) (e := (55, 0, 4, 0, 0, 0, 0, 56)) rfl) (v := 4) rfl ?_
        refine e_34 (f_87 (pc := 56) (e := (56, 34, 0, 0, 0, 0, 0, 57)) rfl) (by decide) ?_
        refine e_130 (f_87 (pc := 57) (e := (57, 130, 25, 0, 1, 195, 1008, 60)) rfl) zA (as := [yr (some 4), yr (some 69), yi _, yi _]) (rest := []) rfl rfl rfl rfl (Nat.le_of_ble_eq_true rfl) (Nat.le_of_ble_eq_true rfl) ⟨_, _, _, rfl, (hT 4 rfl)⟩ (mc := 0) (ms := 0) (Nat.zero_le _) (Nat.zero_le _) ?_
        refine e_K ?_ F
        rintro r h' ⟨r11, I10, rfl, rfl, F⟩
        refine e_20 (f_87 (pc := 60) (e := (60, 20, 3, 0, 0, 0, 0, 61)) rfl) ?_
        refine e_10 (f_87 (pc := 61) (e := (61, 10, 3, 0, 0, 0, 0, 62)) rfl) rfl ?_
        refine e_0 (f_87 (pc := 62) (e := (62, 0, 4294967295, 0, 0, 0, 0, 63)) rfl) (v := (-1)) rfl ?_
        refine e_71 (f_87 (pc := 63) (e := (63, 71, 68, 0, 0, 0, 0, 66)) rfl) (fun c12 => ?_) (fun c12 => ?_)
        · replace F := F.1 c12
          refine e_12 (f_87 (pc := 68) (e := (68, 12, 0, 0, 0, 0, 0, 69)) rfl) rfl ?_
          refine e_10 (f_87 (pc := 69) (e := (69, 10, 3, 0, 0, 0, 0, 70)) rfl) rfl ?_
          refine e_130 (f_87 (pc := 70) (e := (70, 130, 91, 0, 7, 109, 993, 73)) rfl) zA (as := [yr (some 67), yi r11]) (rest := []) rfl rfl rfl rfl (Nat.le_of_ble_eq_true rfl) (Nat.le_of_ble_eq_true rfl) ⟨_, _, _, rfl, (hT 67 rfl)⟩ (mc := 0) (ms := 0) (Nat.zero_le _) (Nat.zero_le _) ?_
          refine e_K ?_ F
          rintro r h' ⟨r14, I13, rfl, rfl, F⟩
          refine e_61 (f_87 (pc := 73) (e := (73, 61, 78, 0, 0, 0, 0, 76)) rfl) (fun c15 => ?_) (fun c15 => ?_)
          · replace F := F.1 c15
            refine e_12 (f_87 (pc := 78) (e := (78, 12, 0, 0, 0, 0, 0, 79)) rfl) rfl ?_
            refine e_90r zA (f_87 (pc := 79) (e := (79, 90, 7, 2, 3, 12, 978, 82)) rfl) rfl (hT 67 rfl) rfl rfl (hR 67 2 rfl) ?_
            refine e_90r zA (f_87 (pc := 82) (e := (82, 90, 5, 6, 3, 156, 1009, 85)) rfl) rfl (hT 68 rfl) rfl rfl (hR 68 6 rfl) ?_
            refine e_10 (f_87 (pc := 85) (e := (85, 10, 2, 0, 0, 0, 0, 86)) rfl) rfl ?_
            refine e_51 (f_87 (pc := 86) (e := (86, 51, 0, 0, 0, 0, 0, 87)) rfl) rfl rfl ?_
            obtain ⟨b16, b17, F⟩ := F
            refine e_110 (f_87 (pc := 87) (e := (87, 110, 0, 0, 0, 0, 0, 88)) rfl) rfl (hT 74 rfl) b16 b17 ?_
            refine e_0 (f_87 (pc := 88) (e := (88, 0, 1, 0, 0, 0, 0, 89)) rfl) (v := 1) rfl ?_
            refine e_30 (f_87 (pc := 89) (e := (89, 30, 0, 0, 0, 0, 0, 90)) rfl) ?_
            obtain ⟨b18, b19, F⟩ := F
            refine e_111 (f_87 (pc := 90) (e := (90, 111, 0, 0, 0, 0, 0, 91)) rfl) rfl (hT 74 rfl) b18 b19 ?_
            replace F := F _ rfl
            refine e_12 (f_87 (pc := 91) (e := (91, 12, 0, 0, 0, 0, 0, 92)) rfl) rfl ?_
            refine e_90r zA (f_87 (pc := 92) (e := (92, 90, 7, 2, 3, 12, 978, 95)) rfl) rfl (hT 67 rfl) rfl rfl (hR 67 2 rfl) ?_
            refine e_90r zA (f_87 (pc := 95) (e := (95, 90, 5, 5, 3, 113, 1001, 98)) rfl) rfl (hT 68 rfl) rfl rfl (hR 68 5 rfl) ?_
            refine e_10 (f_87 (pc := 98) (e := (98, 10, 2, 0, 0, 0, 0, 99)) rfl) rfl ?_
            refine e_12 (f_87 (pc := 99) (e := (99, 12, 0, 0, 0, 0, 0, 100)) rfl) rfl ?_
            refine e_90r zA (f_87 (pc := 100) (e := (100, 90, 7, 2, 3, 12, 978, 103)) rfl) rfl (hT 67 rfl) rfl rfl (hR 67 2 rfl) ?_
            refine e_90r zA (f_87 (pc := 103) (e := (103, 90, 5, 4, 3, 100, 987, 106)) rfl) rfl (hT 68 rfl) rfl rfl (hR 68 4 rfl) ?_
            refine e_10 (f_87 (pc := 106) (e := (106, 10, 2, 0, 0, 0, 0, 107)) rfl) rfl ?_
            obtain ⟨b21, b22, F⟩ := F
            refine e_110 (f_87 (pc := 107) (e := (107, 110, 0, 0, 0, 0, 0, 108)) rfl) rfl (hT 72 rfl) b21 b22 ?_
            obtain ⟨b23, b24, F⟩ := F
            refine e_111 (f_87 (pc := 108) (e := (108, 111, 0, 0, 0, 0, 0, 109)) rfl) rfl (hT 73 rfl) b23 b24 ?_
            replace F := F _ rfl
            refine e_12 (f_87 (pc := 109) (e := (109, 12, 0, 0, 0, 0, 0, 110)) rfl) rfl ?_
            refine e_90r zA (f_87 (pc := 110) (e := (110, 90, 7, 2, 3, 12, 978, 113)) rfl) rfl (hT 67 rfl) rfl rfl (hR 67 2 rfl) ?_
            refine e_90r zA (f_87 (pc := 113) (e := (113, 90, 5, 4, 3, 100, 987, 116)) rfl) rfl (hT 68 rfl) rfl rfl (hR 68 4 rfl) ?_
            refine e_10 (f_87 (pc := 116) (e := (116, 10, 2, 0, 0, 0, 0, 117)) rfl) rfl ?_
            refine e_10 (f_87 (pc := 117) (e := (117, 10, 3, 0, 0, 0, 0, 118)) rfl) rfl ?_
            obtain ⟨b26, b27, F⟩ := F
            refine e_111 (f_87 (pc := 118) (e := (118, 111, 0, 0, 0, 0, 0, 119)) rfl) rfl (hT 72 rfl) b26 b27 ?_
            replace F := F _ rfl
            refine e_12 (f_87 (pc := 119) (e := (119, 12, 0, 0, 0, 0, 0, 120)) rfl) rfl ?_
            refine e_10 (f_87 (pc := 120) (e := (120, 10, 2, 0, 0, 0, 0, 121)) rfl) rfl ?_
            refine e_130 (f_87 (pc := 121) (e := (121, 130, 95, 0, 7, 94, 1010, 124)) rfl) zA (as := [yr (some 67), yi _]) (rest := []) rfl rfl rfl rfl (Nat.le_of_ble_eq_true rfl) (Nat.le_of_ble_eq_true rfl) ⟨_, _, _, rfl, (hT 67 rfl)⟩ (mc := 0) (ms := 0) (Nat.zero_le _) (Nat.zero_le _) ?_
            refine e_K ?_ F
            rintro r h' ⟨I29, rfl, rfl, F⟩
            refine e_0 (f_87 (pc := 124) (e := (124, 0, 0, 0, 0, 0, 0, 125)) rfl) (v := 0) rfl ?_
            exact e_120 (f_87 (pc := 125) (e := (125, 120, 0, 0, 0, 0, 0, 0)) rfl) F
          · replace F := F.2 c15
            refine e_0 (f_87 (pc := 76) (e := (76, 0, 3, 0, 0, 0, 0, 77)) rfl) (v := 3) rfl ?_
            exact e_120 (f_87 (pc := 77) (e := (77, 120, 0, 0, 0, 0, 0, 78)) rfl) F
        · replace F := F.2 c12
          refine e_0 (f_87 (pc := 66) (e := (66, 0, 2, 0, 0, 0, 0, 67)) rfl) (v := 2) rfl ?_
          exact e_120 (f_87 (pc := 67) (e := (67, 120, 0, 0, 0, 0, 0, 68)) rfl) F
      · replace F := F.2 c7
        refine e_0 (f_87 (pc := 32) (e := (32, 0, 1, 0, 0, 0, 0, 33)) rfl) (v := 1) rfl ?_
        exact e_120 (f_87 (pc := 33) (e := (33, 120, 0, 0, 0, 0, 0, 34)) rfl) F

/-! ChairAlley$Walk.goOneMinute()V -/
set_option maxRecDepth 20000 in
theorem B_88_0 (hT : yLT T) (hR : yLR R) (F : ∀ I1, I1 = yU I 67 7 1 → (yW l zSS D cy zFk z d 88 bc bs K 0 0 7 [(0, yr (some 67)), (1, yi 0)] [] (N, T, R, I1))) :
    yW l zSS D cy zFk z d 88 bc bs K 0 0 0 [(0, yr (some 67))] [] (N, T, R, I) := by
  refine e_12 (f_88 (pc := 0) (e := (0, 12, 0, 0, 0, 0, 0, 1)) rfl) rfl ?_
  refine e_0 (f_88 (pc := 1) (e := (1, 0, 1, 0, 0, 0, 0, 2)) rfl) (v := 1) rfl ?_
  refine e_91 zA (f_88 (pc := 2) (e := (2, 91, 7, 7, 2, 76, 991, 5)) rfl) rfl (hT 67 rfl) rfl rfl (.inr rfl) ?_
  replace F := F _ rfl
  refine e_0 (f_88 (pc := 5) (e := (5, 0, 0, 0, 0, 0, 0, 6)) rfl) (v := 0) rfl ?_
  refine e_20 (f_88 (pc := 6) (e := (6, 20, 1, 0, 0, 0, 0, 7)) rfl) ?_
  refine e_lo [0, 1] rfl ?_
  exact F
set_option maxRecDepth 20000 in
theorem B_88_7 (hT : yLT T) (hR : yLR R) {x1 : Int} (F : ((I 4 5) ≤ x1 → yW l zSS D cy zFk z d 100 0 0 (fun r h' => ∃ I2, r = none ∧ h' = (N, T, R, I2) ∧ (yW l zSS D cy zFk z (d + 1) 88 bc bs K 0 0 48 [(0, yr (some 67)), (1, yi 0)] [] (N, T, R, I2))) 0 0 0 [(0, yr (some 67))] [] (N, T, R, I)) ∧ (¬ ((I 4 5) ≤ x1) → (8 ≤ x1 → yW l zSS D cy zFk z d 100 0 0 (fun r h' => ∃ I4, r = none ∧ h' = (N, T, R, I4) ∧ (yW l zSS D cy zFk z (d + 1) 88 bc bs K 0 0 48 [(0, yr (some 67)), (1, yi 0)] [] (N, T, R, I4))) 0 0 0 [(0, yr (some 67))] [] (N, T, R, I)) ∧ (¬ (8 ≤ x1) → 0 ≤ x1 ∧ x1 < 8 ∧ (∀ I7, I7 = yU I 84 x1.toNat (ynar 3 0) → (yW l zSS D cy zFk z d 86 0 0 (fun r h' => ∃ I8, r = none ∧ h' = (N, T, R, I8) ∧ (yW l zSS D cy zFk z (d + 1) 88 bc bs K 0 0 7 [(0, yr (some 67)), (1, yi (yadd x1 1))] [] (N, T, R, I8))) 0 0 0 [(0, yr (some 67)), (1, yi x1)] [] (N, T, R, I7)))))) :
    yW l zSS D cy zFk z (d + 1) 88 bc bs K 0 0 7 [(0, yr (some 67)), (1, yi x1)] [] (N, T, R, I) := by
  refine e_10 (f_88 (pc := 7) (e := (7, 10, 1, 0, 0, 0, 0, 8)) rfl) rfl ?_
  refine e_12 (f_88 (pc := 8) (e := (8, 12, 0, 0, 0, 0, 0, 9)) rfl) rfl ?_
  refine e_90r zA (f_88 (pc := 9) (e := (9, 90, 7, 0, 3, 33, 983, 12)) rfl) rfl (hT 67 rfl) rfl rfl (hR 67 0 rfl) ?_
  refine e_90 zA (f_88 (pc := 12) (e := (12, 90, 1, 5, 0, 53, 1011, 15)) rfl) rfl (hT 4 rfl) rfl rfl ?_
  refine e_73 (f_88 (pc := 15) (e := (15, 73, 42, 0, 0, 0, 0, 18)) rfl) (fun c1 => ?_) (fun c1 => ?_)
  · replace F := F.1 c1
    refine e_12 (f_88 (pc := 42) (e := (42, 12, 0, 0, 0, 0, 0, 43)) rfl) rfl ?_
    refine e_130 (f_88 (pc := 43) (e := (43, 130, 100, 0, 7, 84, 1013, 46)) rfl) zA (as := [yr (some 67)]) (rest := []) rfl rfl rfl rfl (Nat.le_of_ble_eq_true rfl) (Nat.le_of_ble_eq_true rfl) ⟨_, _, _, rfl, (hT 67 rfl)⟩ (mc := 0) (ms := 0) (Nat.zero_le _) (Nat.zero_le _) ?_
    refine e_K ?_ F
    rintro r h' ⟨I2, rfl, rfl, F⟩
    refine e_0 (f_88 (pc := 46) (e := (46, 0, 0, 0, 0, 0, 0, 47)) rfl) (v := 0) rfl ?_
    refine e_20 (f_88 (pc := 47) (e := (47, 20, 1, 0, 0, 0, 0, 48)) rfl) ?_
    refine e_lo [0, 1] rfl ?_
    exact F
  · replace F := F.2 c1
    refine e_10 (f_88 (pc := 18) (e := (18, 10, 1, 0, 0, 0, 0, 19)) rfl) rfl ?_
    refine e_1 (f_88 (pc := 19) (e := (19, 1, 8, 0, 0, 0, 0, 21)) rfl) (v := 8) rfl ?_
    refine e_73 (f_88 (pc := 21) (e := (21, 73, 42, 0, 0, 0, 0, 24)) rfl) (fun c3 => ?_) (fun c3 => ?_)
    · replace F := F.1 c3
      refine e_12 (f_88 (pc := 42) (e := (42, 12, 0, 0, 0, 0, 0, 43)) rfl) rfl ?_
      refine e_130 (f_88 (pc := 43) (e := (43, 130, 100, 0, 7, 84, 1013, 46)) rfl) zA (as := [yr (some 67)]) (rest := []) rfl rfl rfl rfl (Nat.le_of_ble_eq_true rfl) (Nat.le_of_ble_eq_true rfl) ⟨_, _, _, rfl, (hT 67 rfl)⟩ (mc := 0) (ms := 0) (Nat.zero_le _) (Nat.zero_le _) ?_
      refine e_K ?_ F
      rintro r h' ⟨I4, rfl, rfl, F⟩
      refine e_0 (f_88 (pc := 46) (e := (46, 0, 0, 0, 0, 0, 0, 47)) rfl) (v := 0) rfl ?_
      refine e_20 (f_88 (pc := 47) (e := (47, 20, 1, 0, 0, 0, 0, 48)) rfl) ?_
      refine e_lo [0, 1] rfl ?_
      exact F
    · replace F := F.2 c3
      refine e_12 (f_88 (pc := 24) (e := (24, 12, 0, 0, 0, 0, 0, 25)) rfl) rfl ?_
      refine e_90r zA (f_88 (pc := 25) (e := (25, 90, 7, 6, 3, 29, 982, 28)) rfl) rfl (hT 67 rfl) rfl rfl (hR 67 6 rfl) ?_
      refine e_10 (f_88 (pc := 28) (e := (28, 10, 1, 0, 0, 0, 0, 29)) rfl) rfl ?_
      refine e_0 (f_88 (pc := 29) (e := (29, 0, 0, 0, 0, 0, 0, 30)) rfl) (v := 0) rfl ?_
      obtain ⟨b5, b6, F⟩ := F
      refine e_113 (f_88 (pc := 30) (e := (30, 113, 0, 0, 0, 0, 0, 31)) rfl) rfl (hT 84 rfl) b5 b6 (.inr rfl) ?_
      replace F := F _ rfl
      refine e_12 (f_88 (pc := 31) (e := (31, 12, 0, 0, 0, 0, 0, 32)) rfl) rfl ?_
      refine e_10 (f_88 (pc := 32) (e := (32, 10, 1, 0, 0, 0, 0, 33)) rfl) rfl ?_
      refine e_130 (f_88 (pc := 33) (e := (33, 130, 86, 0, 7, 80, 1012, 36)) rfl) zA (as := [yr (some 67), yi x1]) (rest := []) rfl rfl rfl rfl (Nat.le_of_ble_eq_true rfl) (Nat.le_of_ble_eq_true rfl) ⟨_, _, _, rfl, (hT 67 rfl)⟩ (mc := 0) (ms := 0) (Nat.zero_le _) (Nat.zero_le _) ?_
      refine e_K ?_ F
      rintro r h' ⟨I8, rfl, rfl, F⟩
      refine e_26 (f_88 (pc := 36) (e := (36, 26, 1, 1, 0, 0, 0, 39)) rfl) (w := 1) rfl rfl ?_
      refine e_80 (f_88 (pc := 39) (e := (39, 80, 7, 0, 0, 0, 0, 42)) rfl) ?_
      refine e_lo [0, 1] rfl ?_
      exact F
set_option maxRecDepth 20000 in
theorem B_88_48 (hT : yLT T) (hR : yLR R) {x1 : Int} (F : ((I 4 5) ≤ x1 → yW l zSS D cy zFk z (d + 1) 88 bc bs K 0 0 84 [(0, yr (some 67)), (1, yi 0)] [] (N, T, R, I)) ∧ (¬ ((I 4 5) ≤ x1) → (8 ≤ x1 → yW l zSS D cy zFk z (d + 1) 88 bc bs K 0 0 84 [(0, yr (some 67)), (1, yi 0)] [] (N, T, R, I)) ∧ (¬ (8 ≤ x1) → 0 ≤ x1 ∧ x1 < 8 ∧ (yW l zSS D cy zFk z d 98 0 0 (fun r h' => ∃ I5, r = none ∧ h' = (N, T, R, I5) ∧ (yW l zSS D cy zFk z (d + 1) 88 bc bs K 0 0 48 [(0, yr (some 67)), (1, yi (yadd x1 1))] [] (N, T, R, I5))) 0 0 0 [(0, yr (some 67)), (1, yi (I 81 x1.toNat)), (2, yi x1)] [] (N, T, R, I))))) :
    yW l zSS D cy zFk z (d + 1) 88 bc bs K 0 0 48 [(0, yr (some 67)), (1, yi x1)] [] (N, T, R, I) := by
  refine e_10 (f_88 (pc := 48) (e := (48, 10, 1, 0, 0, 0, 0, 49)) rfl) rfl ?_
  refine e_12 (f_88 (pc := 49) (e := (49, 12, 0, 0, 0, 0, 0, 50)) rfl) rfl ?_
  refine e_90r zA (f_88 (pc := 50) (e := (50, 90, 7, 0, 3, 33, 983, 53)) rfl) rfl (hT 67 rfl) rfl rfl (hR 67 0 rfl) ?_
  refine e_90 zA (f_88 (pc := 53) (e := (53, 90, 1, 5, 0, 53, 1011, 56)) rfl) rfl (hT 4 rfl) rfl rfl ?_
  refine e_73 (f_88 (pc := 56) (e := (56, 73, 82, 0, 0, 0, 0, 59)) rfl) (fun c1 => ?_) (fun c1 => ?_)
  · replace F := F.1 c1
    refine e_0 (f_88 (pc := 82) (e := (82, 0, 0, 0, 0, 0, 0, 83)) rfl) (v := 0) rfl ?_
    refine e_20 (f_88 (pc := 83) (e := (83, 20, 1, 0, 0, 0, 0, 84)) rfl) ?_
    refine e_lo [0, 1] rfl ?_
    exact F
  · replace F := F.2 c1
    refine e_10 (f_88 (pc := 59) (e := (59, 10, 1, 0, 0, 0, 0, 60)) rfl) rfl ?_
    refine e_1 (f_88 (pc := 60) (e := (60, 1, 8, 0, 0, 0, 0, 62)) rfl) (v := 8) rfl ?_
    refine e_73 (f_88 (pc := 62) (e := (62, 73, 82, 0, 0, 0, 0, 65)) rfl) (fun c2 => ?_) (fun c2 => ?_)
    · replace F := F.1 c2
      refine e_0 (f_88 (pc := 82) (e := (82, 0, 0, 0, 0, 0, 0, 83)) rfl) (v := 0) rfl ?_
      refine e_20 (f_88 (pc := 83) (e := (83, 20, 1, 0, 0, 0, 0, 84)) rfl) ?_
      refine e_lo [0, 1] rfl ?_
      exact F
    · replace F := F.2 c2
      refine e_12 (f_88 (pc := 65) (e := (65, 12, 0, 0, 0, 0, 0, 66)) rfl) rfl ?_
      refine e_12 (f_88 (pc := 66) (e := (66, 12, 0, 0, 0, 0, 0, 67)) rfl) rfl ?_
      refine e_90r zA (f_88 (pc := 67) (e := (67, 90, 7, 3, 3, 18, 979, 70)) rfl) rfl (hT 67 rfl) rfl rfl (hR 67 3 rfl) ?_
      refine e_10 (f_88 (pc := 70) (e := (70, 10, 1, 0, 0, 0, 0, 71)) rfl) rfl ?_
      obtain ⟨b3, b4, F⟩ := F
      refine e_110 (f_88 (pc := 71) (e := (71, 110, 0, 0, 0, 0, 0, 72)) rfl) rfl (hT 81 rfl) b3 b4 ?_
      refine e_10 (f_88 (pc := 72) (e := (72, 10, 1, 0, 0, 0, 0, 73)) rfl) rfl ?_
      refine e_130 (f_88 (pc := 73) (e := (73, 130, 98, 0, 7, 87, 1014, 76)) rfl) zA (as := [yr (some 67), yi _, yi x1]) (rest := []) rfl rfl rfl rfl (Nat.le_of_ble_eq_true rfl) (Nat.le_of_ble_eq_true rfl) ⟨_, _, _, rfl, (hT 67 rfl)⟩ (mc := 0) (ms := 0) (Nat.zero_le _) (Nat.zero_le _) ?_
      refine e_K ?_ F
      rintro r h' ⟨I5, rfl, rfl, F⟩
      refine e_26 (f_88 (pc := 76) (e := (76, 26, 1, 1, 0, 0, 0, 79)) rfl) (w := 1) rfl rfl ?_
      refine e_80 (f_88 (pc := 79) (e := (79, 80, 48, 0, 0, 0, 0, 82)) rfl) ?_
      refine e_lo [0, 1] rfl ?_
      exact F
set_option maxRecDepth 20000 in
theorem B_88_84 (hT : yLT T) (hR : yLR R) {x1 : Int} (F : ((I 4 5) ≤ x1 → yW l zSS D cy zFk z (d + 1) 88 bc bs K 0 0 119 [(0, yr (some 67)), (1, yi 0)] [] (N, T, R, I)) ∧ (¬ ((I 4 5) ≤ x1) → (8 ≤ x1 → yW l zSS D cy zFk z (d + 1) 88 bc bs K 0 0 119 [(0, yr (some 67)), (1, yi 0)] [] (N, T, R, I)) ∧ (¬ (8 ≤ x1) → 0 ≤ x1 ∧ x1 < 8 ∧ (yW l zSS D cy zFk z d 84 0 0 (fun r h' => ∃ I5, r = none ∧ h' = (N, T, R, I5) ∧ (yW l zSS D cy zFk z (d + 1) 88 bc bs K 0 0 84 [(0, yr (some 67)), (1, yi (yadd x1 1))] [] (N, T, R, I5))) 0 0 0 [(0, yr (some 67)), (1, yi (I 81 x1.toNat))] [] (N, T, R, I))))) :
    yW l zSS D cy zFk z (d + 1) 88 bc bs K 0 0 84 [(0, yr (some 67)), (1, yi x1)] [] (N, T, R, I) := by
  refine e_10 (f_88 (pc := 84) (e := (84, 10, 1, 0, 0, 0, 0, 85)) rfl) rfl ?_
  refine e_12 (f_88 (pc := 85) (e := (85, 12, 0, 0, 0, 0, 0, 86)) rfl) rfl ?_
  refine e_90r zA (f_88 (pc := 86) (e := (86, 90, 7, 0, 3, 33, 983, 89)) rfl) rfl (hT 67 rfl) rfl rfl (hR 67 0 rfl) ?_
  refine e_90 zA (f_88 (pc := 89) (e := (89, 90, 1, 5, 0, 53, 1011, 92)) rfl) rfl (hT 4 rfl) rfl rfl ?_
  refine e_73 (f_88 (pc := 92) (e := (92, 73, 117, 0, 0, 0, 0, 95)) rfl) (fun c1 => ?_) (fun c1 => ?_)
  · replace F := F.1 c1
    refine e_0 (f_88 (pc := 117) (e := (117, 0, 0, 0, 0, 0, 0, 118)) rfl) (v := 0) rfl ?_
    refine e_20 (f_88 (pc := 118) (e := (118, 20, 1, 0, 0, 0, 0, 119)) rfl) ?_
    refine e_lo [0, 1] rfl ?_
    exact F
  · replace F := F.2 c1
    refine e_10 (f_88 (pc := 95) (e := (95, 10, 1, 0, 0, 0, 0, 96)) rfl) rfl ?_
    refine e_1 (f_88 (pc := 96) (e := (96, 1, 8, 0, 0, 0, 0, 98)) rfl) (v := 8) rfl ?_
    refine e_73 (f_88 (pc := 98) (e := (98, 73, 117, 0, 0, 0, 0, 101)) rfl) (fun c2 => ?_) (fun c2 => ?_)
    · replace F := F.1 c2
      refine e_0 (f_88 (pc := 117) (e := (117, 0, 0, 0, 0, 0, 0, 118)) rfl) (v := 0) rfl ?_
      refine e_20 (f_88 (pc := 118) (e := (118, 20, 1, 0, 0, 0, 0, 119)) rfl) ?_
      refine e_lo [0, 1] rfl ?_
      exact F
    · replace F := F.2 c2
      refine e_12 (f_88 (pc := 101) (e := (101, 12, 0, 0, 0, 0, 0, 102)) rfl) rfl ?_
      refine e_12 (f_88 (pc := 102) (e := (102, 12, 0, 0, 0, 0, 0, 103)) rfl) rfl ?_
      refine e_90r zA (f_88 (pc := 103) (e := (103, 90, 7, 3, 3, 18, 979, 106)) rfl) rfl (hT 67 rfl) rfl rfl (hR 67 3 rfl) ?_
      refine e_10 (f_88 (pc := 106) (e := (106, 10, 1, 0, 0, 0, 0, 107)) rfl) rfl ?_
      obtain ⟨b3, b4, F⟩ := F
      refine e_110 (f_88 (pc := 107) (e := (107, 110, 0, 0, 0, 0, 0, 108)) rfl) rfl (hT 81 rfl) b3 b4 ?_
      refine e_130 (f_88 (pc := 108) (e := (108, 130, 84, 0, 7, 91, 1015, 111)) rfl) zA (as := [yr (some 67), yi _]) (rest := []) rfl rfl rfl rfl (Nat.le_of_ble_eq_true rfl) (Nat.le_of_ble_eq_true rfl) ⟨_, _, _, rfl, (hT 67 rfl)⟩ (mc := 0) (ms := 0) (Nat.zero_le _) (Nat.zero_le _) ?_
      refine e_K ?_ F
      rintro r h' ⟨I5, rfl, rfl, F⟩
      refine e_26 (f_88 (pc := 111) (e := (111, 26, 1, 1, 0, 0, 0, 114)) rfl) (w := 1) rfl rfl ?_
      refine e_80 (f_88 (pc := 114) (e := (114, 80, 84, 0, 0, 0, 0, 117)) rfl) ?_
      refine e_lo [0, 1] rfl ?_
      exact F
set_option maxRecDepth 20000 in
theorem B_88_119 (hT : yLT T) (hR : yLR R) {x1 : Int} (F : ((I 4 5) ≤ x1 → ∀ I2, I2 = yU I 68 0 (yadd (I 68 0) 1) → (K none (N, T, R, I2))) ∧ (¬ ((I 4 5) ≤ x1) → (8 ≤ x1 → ∀ I4, I4 = yU I 68 0 (yadd (I 68 0) 1) → (K none (N, T, R, I4))) ∧ (¬ (8 ≤ x1) → yW l zSS D cy zFk z d 95 0 0 (fun r h' => ∃ I5, r = none ∧ h' = (N, T, R, I5) ∧ (yW l zSS D cy zFk z (d + 1) 88 bc bs K 0 0 119 [(0, yr (some 67)), (1, yi (yadd x1 1))] [] (N, T, R, I5))) 0 0 0 [(0, yr (some 67)), (1, yi x1)] [] (N, T, R, I)))) :
    yW l zSS D cy zFk z (d + 1) 88 bc bs K 0 0 119 [(0, yr (some 67)), (1, yi x1)] [] (N, T, R, I) := by
  refine e_10 (f_88 (pc := 119) (e := (119, 10, 1, 0, 0, 0, 0, 120)) rfl) rfl ?_
  refine e_12 (f_88 (pc := 120) (e := (120, 12, 0, 0, 0, 0, 0, 121)) rfl) rfl ?_
  refine e_90r zA (f_88 (pc := 121) (e := (121, 90, 7, 0, 3, 33, 983, 124)) rfl) rfl (hT 67 rfl) rfl rfl (hR 67 0 rfl) ?_
  refine e_90 zA (f_88 (pc := 124) (e := (124, 90, 1, 5, 0, 53, 1011, 127)) rfl) rfl (hT 4 rfl) rfl rfl ?_
  refine e_73 (f_88 (pc := 127) (e := (127, 73, 147, 0, 0, 0, 0, 130)) rfl) (fun c1 => ?_) (fun c1 => ?_)
  · replace F := F.1 c1
    refine e_12 (f_88 (pc := 147) (e := (147, 12, 0, 0, 0, 0, 0, 148)) rfl) rfl ?_
    refine e_90r zA (f_88 (pc := 148) (e := (148, 90, 7, 2, 3, 12, 978, 151)) rfl) rfl (hT 67 rfl) rfl rfl (hR 67 2 rfl) ?_
    refine e_50 (f_88 (pc := 151) (e := (151, 50, 0, 0, 0, 0, 0, 152)) rfl) rfl ?_
    refine e_90 zA (f_88 (pc := 152) (e := (152, 90, 5, 0, 0, 97, 988, 155)) rfl) rfl (hT 68 rfl) rfl rfl ?_
    refine e_0 (f_88 (pc := 155) (e := (155, 0, 1, 0, 0, 0, 0, 156)) rfl) (v := 1) rfl ?_
    refine e_30 (f_88 (pc := 156) (e := (156, 30, 0, 0, 0, 0, 0, 157)) rfl) ?_
    refine e_91 zA (f_88 (pc := 157) (e := (157, 91, 5, 0, 0, 97, 988, 160)) rfl) rfl (hT 68 rfl) rfl rfl trivial ?_
    replace F := F _ rfl
    exact e_122 (f_88 (pc := 160) (e := (160, 122, 0, 0, 0, 0, 0, 0)) rfl) F
  · replace F := F.2 c1
    refine e_10 (f_88 (pc := 130) (e := (130, 10, 1, 0, 0, 0, 0, 131)) rfl) rfl ?_
    refine e_1 (f_88 (pc := 131) (e := (131, 1, 8, 0, 0, 0, 0, 133)) rfl) (v := 8) rfl ?_
    refine e_73 (f_88 (pc := 133) (e := (133, 73, 147, 0, 0, 0, 0, 136)) rfl) (fun c3 => ?_) (fun c3 => ?_)
    · replace F := F.1 c3
      refine e_12 (f_88 (pc := 147) (e := (147, 12, 0, 0, 0, 0, 0, 148)) rfl) rfl ?_
      refine e_90r zA (f_88 (pc := 148) (e := (148, 90, 7, 2, 3, 12, 978, 151)) rfl) rfl (hT 67 rfl) rfl rfl (hR 67 2 rfl) ?_
      refine e_50 (f_88 (pc := 151) (e := (151, 50, 0, 0, 0, 0, 0, 152)) rfl) rfl ?_
      refine e_90 zA (f_88 (pc := 152) (e := (152, 90, 5, 0, 0, 97, 988, 155)) rfl) rfl (hT 68 rfl) rfl rfl ?_
      refine e_0 (f_88 (pc := 155) (e := (155, 0, 1, 0, 0, 0, 0, 156)) rfl) (v := 1) rfl ?_
      refine e_30 (f_88 (pc := 156) (e := (156, 30, 0, 0, 0, 0, 0, 157)) rfl) ?_
      refine e_91 zA (f_88 (pc := 157) (e := (157, 91, 5, 0, 0, 97, 988, 160)) rfl) rfl (hT 68 rfl) rfl rfl trivial ?_
      replace F := F _ rfl
      exact e_122 (f_88 (pc := 160) (e := (160, 122, 0, 0, 0, 0, 0, 0)) rfl) F
    · replace F := F.2 c3
      refine e_12 (f_88 (pc := 136) (e := (136, 12, 0, 0, 0, 0, 0, 137)) rfl) rfl ?_
      refine e_10 (f_88 (pc := 137) (e := (137, 10, 1, 0, 0, 0, 0, 138)) rfl) rfl ?_
      refine e_130 (f_88 (pc := 138) (e := (138, 130, 95, 0, 7, 94, 1010, 141)) rfl) zA (as := [yr (some 67), yi x1]) (rest := []) rfl rfl rfl rfl (Nat.le_of_ble_eq_true rfl) (Nat.le_of_ble_eq_true rfl) ⟨_, _, _, rfl, (hT 67 rfl)⟩ (mc := 0) (ms := 0) (Nat.zero_le _) (Nat.zero_le _) ?_
      refine e_K ?_ F
      rintro r h' ⟨I5, rfl, rfl, F⟩
      refine e_26 (f_88 (pc := 141) (e := (141, 26, 1, 1, 0, 0, 0, 144)) rfl) (w := 1) rfl rfl ?_
      refine e_80 (f_88 (pc := 144) (e := (144, 80, 119, 0, 0, 0, 0, 147)) rfl) ?_
      refine e_lo [0, 1] rfl ?_
      exact F

/-! ChairAlley$Walk.goTill(I)V -/
set_option maxRecDepth 20000 in
theorem B_89_0 (hT : yLT T) (hR : yLR R) {x1 : Int} (F : yW l zSS D cy zFk z (d + 1) 89 bc bs K 0 0 10 [(0, yr (some 67)), (2, yi (ymin x1 500)), (3, yi 0)] [] (N, T, R, I)) :
    yW l zSS D cy zFk z (d + 1) 89 bc bs K 0 0 0 [(0, yr (some 67)), (1, yi x1)] [] (N, T, R, I) := by
  refine e_10 (f_89 (pc := 0) (e := (0, 10, 1, 0, 0, 0, 0, 1)) rfl) rfl ?_
  refine e_2 (f_89 (pc := 1) (e := (1, 2, 500, 0, 0, 0, 0, 4)) rfl) (v := 500) rfl ?_
  refine e_136 (f_89 (pc := 4) (e := (4, 136, 0, 0, 0, 165, 1016, 7)) rfl) zA (Nat.succ_pos _) (Nat.le_of_ble_eq_true rfl) ?_
  refine e_20 (f_89 (pc := 7) (e := (7, 20, 2, 0, 0, 0, 0, 8)) rfl) ?_
  refine e_0 (f_89 (pc := 8) (e := (8, 0, 0, 0, 0, 0, 0, 9)) rfl) (v := 0) rfl ?_
  refine e_20 (f_89 (pc := 9) (e := (9, 20, 3, 0, 0, 0, 0, 10)) rfl) ?_
  refine e_lo [0, 2, 3] rfl ?_
  exact F
set_option maxRecDepth 20000 in
theorem B_89_10 (hT : yLT T) (hR : yLR R) {x2 x3 : Int} (F : (500 ≤ x3 → K none (N, T, R, I)) ∧ (¬ (500 ≤ x3) → (x2 ≤ (I 68 0) → K none (N, T, R, I)) ∧ (¬ (x2 ≤ (I 68 0)) → yW l zSS D cy zFk z d 61 0 0 (fun r h' => ∃ r4 I3, r = some (yi r4) ∧ h' = (N, T, R, I3) ∧ ((r4 ≠ (I3 4 5) → yW l zSS D cy zFk z d 88 0 0 (fun r h' => ∃ I6, r = none ∧ h' = (N, T, R, I6) ∧ (((I6 67 7) = 0 → yW l zSS D cy zFk z (d + 1) 89 bc bs K 0 0 10 [(0, yr (some 67)), (2, yi x2), (3, yi (yadd x3 1))] [] (N, T, R, I6)) ∧ (¬ ((I6 67 7) = 0) → yW l zSS D cy zFk z d 104 0 0 (fun r h' => ∃ I8, r = none ∧ h' = (N, T, R, I8) ∧ (yW l zSS D cy zFk z (d + 1) 89 bc bs K 0 0 10 [(0, yr (some 67)), (2, yi x2), (3, yi (yadd x3 1))] [] (N, T, R, I8))) 0 0 0 [(0, yr (some 67)), (1, yi x2)] [] (N, T, R, I6)))) 0 0 0 [(0, yr (some 67))] [] (N, T, R, I3)) ∧ (¬ (r4 ≠ (I3 4 5)) → K none (N, T, R, I3)))) 0 0 0 [(0, yr (some 68)), (1, yi (I 4 5))] [] (N, T, R, I)))) :
    yW l zSS D cy zFk z (d + 1) 89 bc bs K 0 0 10 [(0, yr (some 67)), (2, yi x2), (3, yi x3)] [] (N, T, R, I) := by
  refine e_10 (f_89 (pc := 10) (e := (10, 10, 3, 0, 0, 0, 0, 11)) rfl) rfl ?_
  refine e_2 (f_89 (pc := 11) (e := (11, 2, 500, 0, 0, 0, 0, 14)) rfl) (v := 500) rfl ?_
  refine e_73 (f_89 (pc := 14) (e := (14, 73, 75, 0, 0, 0, 0, 17)) rfl) (fun c1 => ?_) (fun c1 => ?_)
  · replace F := F.1 c1
    exact e_122 (f_89 (pc := 75) (e := (75, 122, 0, 0, 0, 0, 0, 0)) rfl) F
  · replace F := F.2 c1
    refine e_12 (f_89 (pc := 17) (e := (17, 12, 0, 0, 0, 0, 0, 18)) rfl) rfl ?_
    refine e_90r zA (f_89 (pc := 18) (e := (18, 90, 7, 2, 3, 12, 978, 21)) rfl) rfl (hT 67 rfl) rfl rfl (hR 67 2 rfl) ?_
    refine e_90 zA (f_89 (pc := 21) (e := (21, 90, 5, 0, 0, 97, 988, 24)) rfl) rfl (hT 68 rfl) rfl rfl ?_
    refine e_10 (f_89 (pc := 24) (e := (24, 10, 2, 0, 0, 0, 0, 25)) rfl) rfl ?_
    refine e_73 (f_89 (pc := 25) (e := (25, 73, 75, 0, 0, 0, 0, 28)) rfl) (fun c2 => ?_) (fun c2 => ?_)
    · replace F := F.1 c2
      exact e_122 (f_89 (pc := 75) (e := (75, 122, 0, 0, 0, 0, 0, 0)) rfl) F
    · replace F := F.2 c2
      refine e_12 (f_89 (pc := 28) (e := (28, 12, 0, 0, 0, 0, 0, 29)) rfl) rfl ?_
      refine e_90r zA (f_89 (pc := 29) (e := (29, 90, 7, 2, 3, 12, 978, 32)) rfl) rfl (hT 67 rfl) rfl rfl (hR 67 2 rfl) ?_
      refine e_12 (f_89 (pc := 32) (e := (32, 12, 0, 0, 0, 0, 0, 33)) rfl) rfl ?_
      refine e_90r zA (f_89 (pc := 33) (e := (33, 90, 7, 0, 3, 33, 983, 36)) rfl) rfl (hT 67 rfl) rfl rfl (hR 67 0 rfl) ?_
      refine e_90 zA (f_89 (pc := 36) (e := (36, 90, 1, 5, 0, 53, 1011, 39)) rfl) rfl (hT 4 rfl) rfl rfl ?_
      refine e_130 (f_89 (pc := 39) (e := (39, 130, 61, 0, 5, 170, 1017, 42)) rfl) zA (as := [yr (some 68), yi _]) (rest := []) rfl rfl rfl rfl (Nat.le_of_ble_eq_true rfl) (Nat.le_of_ble_eq_true rfl) ⟨_, _, _, rfl, (hT 68 rfl)⟩ (mc := 0) (ms := 0) (Nat.zero_le _) (Nat.zero_le _) ?_
      refine e_K ?_ F
      rintro r h' ⟨r4, I3, rfl, rfl, F⟩
      refine e_12 (f_89 (pc := 42) (e := (42, 12, 0, 0, 0, 0, 0, 43)) rfl) rfl ?_
      refine e_90r zA (f_89 (pc := 43) (e := (43, 90, 7, 0, 3, 33, 983, 46)) rfl) rfl (hT 67 rfl) rfl rfl (hR 67 0 rfl) ?_
      refine e_90 zA (f_89 (pc := 46) (e := (46, 90, 1, 5, 0, 53, 1011, 49)) rfl) rfl (hT 4 rfl) rfl rfl ?_
      refine e_71 (f_89 (pc := 49) (e := (49, 71, 53, 0, 0, 0, 0, 52)) rfl) (fun c5 => ?_) (fun c5 => ?_)
      · replace F := F.1 c5
        refine e_12 (f_89 (pc := 53) (e := (53, 12, 0, 0, 0, 0, 0, 54)) rfl) rfl ?_
        refine e_130 (f_89 (pc := 54) (e := (54, 130, 88, 0, 7, 173, 1018, 57)) rfl) zA (as := [yr (some 67)]) (rest := []) rfl rfl rfl rfl (Nat.le_of_ble_eq_true rfl) (Nat.le_of_ble_eq_true rfl) ⟨_, _, _, rfl, (hT 67 rfl)⟩ (mc := 0) (ms := 0) (Nat.zero_le _) (Nat.zero_le _) ?_
        refine e_K ?_ F
        rintro r h' ⟨I6, rfl, rfl, F⟩
        refine e_12 (f_89 (pc := 57) (e := (57, 12, 0, 0, 0, 0, 0, 58)) rfl) rfl ?_
        refine e_90 zA (f_89 (pc := 58) (e := (58, 90, 7, 7, 2, 76, 991, 61)) rfl) rfl (hT 67 rfl) rfl rfl ?_
        refine e_60 (f_89 (pc := 61) (e := (61, 60, 69, 0, 0, 0, 0, 64)) rfl) (fun c7 => ?_) (fun c7 => ?_)
        · replace F := F.1 c7
          refine e_26 (f_89 (pc := 69) (e := (69, 26, 3, 1, 0, 0, 0, 72)) rfl) (w := 1) rfl rfl ?_
          refine e_80 (f_89 (pc := 72) (e := (72, 80, 10, 0, 0, 0, 0, 75)) rfl) ?_
          refine e_lo [0, 2, 3] rfl ?_
          exact F
        · replace F := F.2 c7
          refine e_12 (f_89 (pc := 64) (e := (64, 12, 0, 0, 0, 0, 0, 65)) rfl) rfl ?_
          refine e_10 (f_89 (pc := 65) (e := (65, 10, 2, 0, 0, 0, 0, 66)) rfl) rfl ?_
          refine e_130 (f_89 (pc := 66) (e := (66, 130, 104, 0, 7, 176, 1019, 69)) rfl) zA (as := [yr (some 67), yi x2]) (rest := []) rfl rfl rfl rfl (Nat.le_of_ble_eq_true rfl) (Nat.le_of_ble_eq_true rfl) ⟨_, _, _, rfl, (hT 67 rfl)⟩ (mc := 0) (ms := 0) (Nat.zero_le _) (Nat.zero_le _) ?_
          refine e_K ?_ F
          rintro r h' ⟨I8, rfl, rfl, F⟩
          refine e_26 (f_89 (pc := 69) (e := (69, 26, 3, 1, 0, 0, 0, 72)) rfl) (w := 1) rfl rfl ?_
          refine e_80 (f_89 (pc := 72) (e := (72, 80, 10, 0, 0, 0, 0, 75)) rfl) ?_
          refine e_lo [0, 2, 3] rfl ?_
          exact F
      · replace F := F.2 c5
        exact e_122 (f_89 (pc := 52) (e := (52, 122, 0, 0, 0, 0, 0, 53)) rfl) F

/-! ChairAlley$Walk.hasEarlyMeeting()Z -/
set_option maxRecDepth 20000 in
theorem B_90_0 (hT : yLT T) (hR : yLR R) (F : ∀ I1, I1 = yU I 67 7 0 → (yW l zSS D cy zFk z d 90 bc bs K 0 0 7 [(0, yr (some 67)), (1, yi 0)] [] (N, T, R, I1))) :
    yW l zSS D cy zFk z d 90 bc bs K 0 0 0 [(0, yr (some 67))] [] (N, T, R, I) := by
  refine e_12 (f_90 (pc := 0) (e := (0, 12, 0, 0, 0, 0, 0, 1)) rfl) rfl ?_
  refine e_0 (f_90 (pc := 1) (e := (1, 0, 0, 0, 0, 0, 0, 2)) rfl) (v := 0) rfl ?_
  refine e_91 zA (f_90 (pc := 2) (e := (2, 91, 7, 7, 2, 76, 991, 5)) rfl) rfl (hT 67 rfl) rfl rfl (.inl rfl) ?_
  replace F := F _ rfl
  refine e_0 (f_90 (pc := 5) (e := (5, 0, 0, 0, 0, 0, 0, 6)) rfl) (v := 0) rfl ?_
  refine e_20 (f_90 (pc := 6) (e := (6, 20, 1, 0, 0, 0, 0, 7)) rfl) ?_
  refine e_lo [0, 1] rfl ?_
  exact F
set_option maxRecDepth 20000 in
theorem B_90_7 (hT : yLT T) (hR : yLR R) {x1 : Int} (F : (100 ≤ x1 → ((I 68 12) ≤ 0 → K (some (yi 0)) (N, T, R, I)) ∧ (¬ ((I 68 12) ≤ 0) → K (some (yi 1)) (N, T, R, I))) ∧ (¬ (100 ≤ x1) → ((I 68 12) ≠ 0 → ((I 68 12) ≤ 0 → K (some (yi 0)) (N, T, R, I)) ∧ (¬ ((I 68 12) ≤ 0) → K (some (yi 1)) (N, T, R, I))) ∧ (¬ ((I 68 12) ≠ 0) → ((I 67 7) ≠ 0 → ((I 68 12) ≤ 0 → K (some (yi 0)) (N, T, R, I)) ∧ (¬ ((I 68 12) ≤ 0) → K (some (yi 1)) (N, T, R, I))) ∧ (¬ ((I 67 7) ≠ 0) → yW l zSS D cy zFk z d 88 0 0 (fun r h' => ∃ I7, r = none ∧ h' = (N, T, R, I7) ∧ (yW l zSS D cy zFk z (d + 1) 90 bc bs K 0 0 7 [(0, yr (some 67)), (1, yi (yadd x1 1))] [] (N, T, R, I7))) 0 0 0 [(0, yr (some 67))] [] (N, T, R, I))))) :
    yW l zSS D cy zFk z (d + 1) 90 bc bs K 0 0 7 [(0, yr (some 67)), (1, yi x1)] [] (N, T, R, I) := by
  refine e_10 (f_90 (pc := 7) (e := (7, 10, 1, 0, 0, 0, 0, 8)) rfl) rfl ?_
  refine e_1 (f_90 (pc := 8) (e := (8, 1, 100, 0, 0, 0, 0, 10)) rfl) (v := 100) rfl ?_
  refine e_73 (f_90 (pc := 10) (e := (10, 73, 40, 0, 0, 0, 0, 13)) rfl) (fun c1 => ?_) (fun c1 => ?_)
  · replace F := F.1 c1
    refine e_12 (f_90 (pc := 40) (e := (40, 12, 0, 0, 0, 0, 0, 41)) rfl) rfl ?_
    refine e_90r zA (f_90 (pc := 41) (e := (41, 90, 7, 2, 3, 12, 978, 44)) rfl) rfl (hT 67 rfl) rfl rfl (hR 67 2 rfl) ?_
    refine e_90 zA (f_90 (pc := 44) (e := (44, 90, 5, 12, 0, 179, 1020, 47)) rfl) rfl (hT 68 rfl) rfl rfl ?_
    refine e_65 (f_90 (pc := 47) (e := (47, 65, 54, 0, 0, 0, 0, 50)) rfl) (fun c2 => ?_) (fun c2 => ?_)
    · replace F := F.1 c2
      refine e_0 (f_90 (pc := 54) (e := (54, 0, 0, 0, 0, 0, 0, 55)) rfl) (v := 0) rfl ?_
      exact e_121 (f_90 (pc := 55) (e := (55, 121, 0, 0, 0, 0, 0, 0)) rfl) (.inl rfl) F
    · replace F := F.2 c2
      refine e_0 (f_90 (pc := 50) (e := (50, 0, 1, 0, 0, 0, 0, 51)) rfl) (v := 1) rfl ?_
      refine e_80 (f_90 (pc := 51) (e := (51, 80, 55, 0, 0, 0, 0, 54)) rfl) ?_
      exact e_121 (f_90 (pc := 55) (e := (55, 121, 0, 0, 0, 0, 0, 0)) rfl) (.inr rfl) F
  · replace F := F.2 c1
    refine e_12 (f_90 (pc := 13) (e := (13, 12, 0, 0, 0, 0, 0, 14)) rfl) rfl ?_
    refine e_90r zA (f_90 (pc := 14) (e := (14, 90, 7, 2, 3, 12, 978, 17)) rfl) rfl (hT 67 rfl) rfl rfl (hR 67 2 rfl) ?_
    refine e_90 zA (f_90 (pc := 17) (e := (17, 90, 5, 12, 0, 179, 1020, 20)) rfl) rfl (hT 68 rfl) rfl rfl ?_
    refine e_61 (f_90 (pc := 20) (e := (20, 61, 40, 0, 0, 0, 0, 23)) rfl) (fun c3 => ?_) (fun c3 => ?_)
    · replace F := F.1 c3
      refine e_12 (f_90 (pc := 40) (e := (40, 12, 0, 0, 0, 0, 0, 41)) rfl) rfl ?_
      refine e_90r zA (f_90 (pc := 41) (e := (41, 90, 7, 2, 3, 12, 978, 44)) rfl) rfl (hT 67 rfl) rfl rfl (hR 67 2 rfl) ?_
      refine e_90 zA (f_90 (pc := 44) (e := (44, 90, 5, 12, 0, 179, 1020, 47)) rfl) rfl (hT 68 rfl) rfl rfl ?_
      refine e_65 (f_90 (pc := 47) (e := (47, 65, 54, 0, 0, 0, 0, 50)) rfl) (fun c4 => ?_) (fun c4 => ?_)
      · replace F := F.1 c4
        refine e_0 (f_90 (pc := 54) (e := (54, 0, 0, 0, 0, 0, 0, 55)) rfl) (v := 0) rfl ?_
        exact e_121 (f_90 (pc := 55) (e := (55, 121, 0, 0, 0, 0, 0, 0)) rfl) (.inl rfl) F
      · replace F := F.2 c4
        refine e_0 (f_90 (pc := 50) (e := (50, 0, 1, 0, 0, 0, 0, 51)) rfl) (v := 1) rfl ?_
        refine e_80 (f_90 (pc := 51) (e := (51, 80, 55, 0, 0, 0, 0, 54)) rfl) ?_
        exact e_121 (f_90 (pc := 55) (e := (55, 121, 0, 0, 0, 0, 0, 0)) rfl) (.inr rfl) F
    · replace F := F.2 c3
      refine e_12 (f_90 (pc := 23) (e := (23, 12, 0, 0, 0, 0, 0, 24)) rfl) rfl ?_
      refine e_90 zA (f_90 (pc := 24) (e := (24, 90, 7, 7, 2, 76, 991, 27)) rfl) rfl (hT 67 rfl) rfl rfl ?_
      refine e_61 (f_90 (pc := 27) (e := (27, 61, 40, 0, 0, 0, 0, 30)) rfl) (fun c5 => ?_) (fun c5 => ?_)
      · replace F := F.1 c5
        refine e_12 (f_90 (pc := 40) (e := (40, 12, 0, 0, 0, 0, 0, 41)) rfl) rfl ?_
        refine e_90r zA (f_90 (pc := 41) (e := (41, 90, 7, 2, 3, 12, 978, 44)) rfl) rfl (hT 67 rfl) rfl rfl (hR 67 2 rfl) ?_
        refine e_90 zA (f_90 (pc := 44) (e := (44, 90, 5, 12, 0, 179, 1020, 47)) rfl) rfl (hT 68 rfl) rfl rfl ?_
        refine e_65 (f_90 (pc := 47) (e := (47, 65, 54, 0, 0, 0, 0, 50)) rfl) (fun c6 => ?_) (fun c6 => ?_)
        · replace F := F.1 c6
          refine e_0 (f_90 (pc := 54) (e := (54, 0, 0, 0, 0, 0, 0, 55)) rfl) (v := 0) rfl ?_
          exact e_121 (f_90 (pc := 55) (e := (55, 121, 0, 0, 0, 0, 0, 0)) rfl) (.inl rfl) F
        · replace F := F.2 c6
          refine e_0 (f_90 (pc := 50) (e := (50, 0, 1, 0, 0, 0, 0, 51)) rfl) (v := 1) rfl ?_
          refine e_80 (f_90 (pc := 51) (e := (51, 80, 55, 0, 0, 0, 0, 54)) rfl) ?_
          exact e_121 (f_90 (pc := 55) (e := (55, 121, 0, 0, 0, 0, 0, 0)) rfl) (.inr rfl) F
      · replace F := F.2 c5
        refine e_12 (f_90 (pc := 30) (e := (30, 12, 0, 0, 0, 0, 0, 31)) rfl) rfl ?_
        refine e_130 (f_90 (pc := 31) (e := (31, 130, 88, 0, 7, 173, 1018, 34)) rfl) zA (as := [yr (some 67)]) (rest := []) rfl rfl rfl rfl (Nat.le_of_ble_eq_true rfl) (Nat.le_of_ble_eq_true rfl) ⟨_, _, _, rfl, (hT 67 rfl)⟩ (mc := 0) (ms := 0) (Nat.zero_le _) (Nat.zero_le _) ?_
        refine e_K ?_ F
        rintro r h' ⟨I7, rfl, rfl, F⟩
        refine e_26 (f_90 (pc := 34) (e := (34, 26, 1, 1, 0, 0, 0, 37)) rfl) (w := 1) rfl rfl ?_
        refine e_80 (f_90 (pc := 37) (e := (37, 80, 7, 0, 0, 0, 0, 40)) rfl) ?_
        refine e_lo [0, 1] rfl ?_
        exact F

/-! ChairAlley$Walk.hasRoom(I)Z -/
set_option maxRecDepth 20000 in
theorem B_91_0 (hT : yLT T) (hR : yLR R) {x1 : Int} (F : yW l zSS D cy zFk z d 59 0 0 (fun r h' => ∃ r2 I1, r = some (yi r2) ∧ h' = (N, T, R, I1) ∧ (yW l zSS D cy zFk z d 12 0 0 (fun r h' => ∃ r4 I3, r = some (yi r4) ∧ h' = (N, T, R, I3) ∧ ((r4 = 0 → (1 ≤ r2 → K (some (yi 0)) (N, T, R, I3)) ∧ (¬ (1 ≤ r2) → K (some (yi 1)) (N, T, R, I3))) ∧ (¬ (r4 = 0) → (2 ≤ r2 → K (some (yi 0)) (N, T, R, I3)) ∧ (¬ (2 ≤ r2) → K (some (yi 1)) (N, T, R, I3))))) 0 0 0 [(0, yr (some 4)), (1, yi x1), (2, yi 3)] [] (N, T, R, I1))) 0 0 0 [(0, yr (some 68)), (1, yi x1)] [] (N, T, R, I)) :
    yW l zSS D cy zFk z (d + 1) 91 bc bs K 0 0 0 [(0, yr (some 67)), (1, yi x1)] [] (N, T, R, I) := by
  refine e_12 (f_91 (pc := 0) (e := (0, 12, 0, 0, 0, 0, 0, 1)) rfl) rfl ?_
  refine e_90r zA (f_91 (pc := 1) (e := (1, 90, 7, 2, 3, 12, 978, 4)) rfl) rfl (hT 67 rfl) rfl rfl (hR 67 2 rfl) ?_
  refine e_10 (f_91 (pc := 4) (e := (4, 10, 1, 0, 0, 0, 0, 5)) rfl) rfl ?_
  refine e_130 (f_91 (pc := 5) (e := (5, 130, 59, 0, 5, 162, 1021, 8)) rfl) zA (as := [yr (some 68), yi x1]) (rest := []) rfl rfl rfl rfl (Nat.le_of_ble_eq_true rfl) (Nat.le_of_ble_eq_true rfl) ⟨_, _, _, rfl, (hT 68 rfl)⟩ (mc := 0) (ms := 0) (Nat.zero_le _) (Nat.zero_le _) ?_
  refine e_K ?_ F
  rintro r h' ⟨r2, I1, rfl, rfl, F⟩
  refine e_12 (f_91 (pc := 8) (e := (8, 12, 0, 0, 0, 0, 0, 9)) rfl) rfl ?_
  refine e_90r zA (f_91 (pc := 9) (e := (9, 90, 7, 0, 3, 33, 983, 12)) rfl) rfl (hT 67 rfl) rfl rfl (hR 67 0 rfl) ?_
  refine e_10 (f_91 (pc := 12) (e := (12, 10, 1, 0, 0, 0, 0, 13)) rfl) rfl ?_
  refine e_0 (f_91 (pc := 13) (e := (13, 0, 3, 0, 0, 0, 0, 14)) rfl) (v := 3) rfl ?_
  refine e_130 (f_91 (pc := 14) (e := (14, 130, 12, 0, 1, 159, 1022, 17)) rfl) zA (as := [yr (some 4), yi x1, yi 3]) (rest := [yi r2]) rfl rfl rfl rfl (Nat.le_of_ble_eq_true rfl) (Nat.le_of_ble_eq_true rfl) ⟨_, _, _, rfl, (hT 4 rfl)⟩ (mc := 0) (ms := 0) (Nat.zero_le _) (Nat.zero_le _) ?_
  refine e_K ?_ F
  rintro r h' ⟨r4, I3, rfl, rfl, F⟩
  refine e_60 (f_91 (pc := 17) (e := (17, 60, 24, 0, 0, 0, 0, 20)) rfl) (fun c5 => ?_) (fun c5 => ?_)
  · replace F := F.1 c5
    refine e_0 (f_91 (pc := 24) (e := (24, 0, 1, 0, 0, 0, 0, 25)) rfl) (v := 1) rfl ?_
    refine e_73 (f_91 (pc := 25) (e := (25, 73, 32, 0, 0, 0, 0, 28)) rfl) (fun c6 => ?_) (fun c6 => ?_)
    · replace F := F.1 c6
      refine e_0 (f_91 (pc := 32) (e := (32, 0, 0, 0, 0, 0, 0, 33)) rfl) (v := 0) rfl ?_
      exact e_121 (f_91 (pc := 33) (e := (33, 121, 0, 0, 0, 0, 0, 0)) rfl) (.inl rfl) F
    · replace F := F.2 c6
      refine e_0 (f_91 (pc := 28) (e := (28, 0, 1, 0, 0, 0, 0, 29)) rfl) (v := 1) rfl ?_
      refine e_80 (f_91 (pc := 29) (e := (29, 80, 33, 0, 0, 0, 0, 32)) rfl) ?_
      exact e_121 (f_91 (pc := 33) (e := (33, 121, 0, 0, 0, 0, 0, 0)) rfl) (.inr rfl) F
  · replace F := F.2 c5
    refine e_0 (f_91 (pc := 20) (e := (20, 0, 2, 0, 0, 0, 0, 21)) rfl) (v := 2) rfl ?_
    refine e_80 (f_91 (pc := 21) (e := (21, 80, 25, 0, 0, 0, 0, 24)) rfl) ?_
    refine e_73 (f_91 (pc := 25) (e := (25, 73, 32, 0, 0, 0, 0, 28)) rfl) (fun c7 => ?_) (fun c7 => ?_)
    · replace F := F.1 c7
      refine e_0 (f_91 (pc := 32) (e := (32, 0, 0, 0, 0, 0, 0, 33)) rfl) (v := 0) rfl ?_
      exact e_121 (f_91 (pc := 33) (e := (33, 121, 0, 0, 0, 0, 0, 0)) rfl) (.inl rfl) F
    · replace F := F.2 c7
      refine e_0 (f_91 (pc := 28) (e := (28, 0, 1, 0, 0, 0, 0, 29)) rfl) (v := 1) rfl ?_
      refine e_80 (f_91 (pc := 29) (e := (29, 80, 33, 0, 0, 0, 0, 32)) rfl) ?_
      exact e_121 (f_91 (pc := 33) (e := (33, 121, 0, 0, 0, 0, 0, 0)) rfl) (.inr rfl) F

/-! ChairAlley$Walk.isBoundFor(II)Z -/
set_option maxRecDepth 20000 in
theorem B_92_0 (hT : yLT T) (hR : yLR R) {x1 x2 : Int} (F : (x1 < 0 → K (some (yi 0)) (N, T, R, I)) ∧ (¬ (x1 < 0) → (8 ≤ x1 → K (some (yi 0)) (N, T, R, I)) ∧ (¬ (8 ≤ x1) → 0 ≤ x1 ∧ x1 < 8 ∧ (yW l zSS D cy zFk z d 108 0 0 (fun r h' => ∃ r6 I5, r = some (yi r6) ∧ h' = (N, T, R, I5) ∧ ((r6 ≠ x2 → K (some (yi 0)) (N, T, R, I5)) ∧ (¬ (r6 ≠ x2) → K (some (yi 1)) (N, T, R, I5)))) 0 0 0 [(0, yr (some 85)), (1, yi x1), (2, yi (I 72 x1.toNat))] [] (N, T, R, I))))) :
    yW l zSS D cy zFk z (d + 1) 92 bc bs K 0 0 0 [(0, yr (some 67)), (1, yi x1), (2, yi x2)] [] (N, T, R, I) := by
  refine e_10 (f_92 (pc := 0) (e := (0, 10, 1, 0, 0, 0, 0, 1)) rfl) rfl ?_
  refine e_62 (f_92 (pc := 1) (e := (1, 62, 35, 0, 0, 0, 0, 4)) rfl) (fun c1 => ?_) (fun c1 => ?_)
  · replace F := F.1 c1
    refine e_0 (f_92 (pc := 35) (e := (35, 0, 0, 0, 0, 0, 0, 36)) rfl) (v := 0) rfl ?_
    exact e_121 (f_92 (pc := 36) (e := (36, 121, 0, 0, 0, 0, 0, 0)) rfl) (.inl rfl) F
  · replace F := F.2 c1
    refine e_10 (f_92 (pc := 4) (e := (4, 10, 1, 0, 0, 0, 0, 5)) rfl) rfl ?_
    refine e_1 (f_92 (pc := 5) (e := (5, 1, 8, 0, 0, 0, 0, 7)) rfl) (v := 8) rfl ?_
    refine e_73 (f_92 (pc := 7) (e := (7, 73, 35, 0, 0, 0, 0, 10)) rfl) (fun c2 => ?_) (fun c2 => ?_)
    · replace F := F.1 c2
      refine e_0 (f_92 (pc := 35) (e := (35, 0, 0, 0, 0, 0, 0, 36)) rfl) (v := 0) rfl ?_
      exact e_121 (f_92 (pc := 36) (e := (36, 121, 0, 0, 0, 0, 0, 0)) rfl) (.inl rfl) F
    · replace F := F.2 c2
      refine e_12 (f_92 (pc := 10) (e := (10, 12, 0, 0, 0, 0, 0, 11)) rfl) rfl ?_
      refine e_90r zA (f_92 (pc := 11) (e := (11, 90, 7, 1, 3, 42, 986, 14)) rfl) rfl (hT 67 rfl) rfl rfl (hR 67 1 rfl) ?_
      refine e_10 (f_92 (pc := 14) (e := (14, 10, 1, 0, 0, 0, 0, 15)) rfl) rfl ?_
      refine e_12 (f_92 (pc := 15) (e := (15, 12, 0, 0, 0, 0, 0, 16)) rfl) rfl ?_
      refine e_90r zA (f_92 (pc := 16) (e := (16, 90, 7, 2, 3, 12, 978, 19)) rfl) rfl (hT 67 rfl) rfl rfl (hR 67 2 rfl) ?_
      refine e_90r zA (f_92 (pc := 19) (e := (19, 90, 5, 4, 3, 100, 987, 22)) rfl) rfl (hT 68 rfl) rfl rfl (hR 68 4 rfl) ?_
      refine e_10 (f_92 (pc := 22) (e := (22, 10, 1, 0, 0, 0, 0, 23)) rfl) rfl ?_
      obtain ⟨b3, b4, F⟩ := F
      refine e_110 (f_92 (pc := 23) (e := (23, 110, 0, 0, 0, 0, 0, 24)) rfl) rfl (hT 72 rfl) b3 b4 ?_
      refine e_130 (f_92 (pc := 24) (e := (24, 130, 108, 0, 8, 122, 992, 27)) rfl) zA (as := [yr (some 85), yi x1, yi _]) (rest := []) rfl rfl rfl rfl (Nat.le_of_ble_eq_true rfl) (Nat.le_of_ble_eq_true rfl) ⟨_, _, _, rfl, (hT 85 rfl)⟩ (mc := 0) (ms := 0) (Nat.zero_le _) (Nat.zero_le _) ?_
      refine e_K ?_ F
      rintro r h' ⟨r6, I5, rfl, rfl, F⟩
      refine e_10 (f_92 (pc := 27) (e := (27, 10, 2, 0, 0, 0, 0, 28)) rfl) rfl ?_
      refine e_71 (f_92 (pc := 28) (e := (28, 71, 35, 0, 0, 0, 0, 31)) rfl) (fun c7 => ?_) (fun c7 => ?_)
      · replace F := F.1 c7
        refine e_0 (f_92 (pc := 35) (e := (35, 0, 0, 0, 0, 0, 0, 36)) rfl) (v := 0) rfl ?_
        exact e_121 (f_92 (pc := 36) (e := (36, 121, 0, 0, 0, 0, 0, 0)) rfl) (.inl rfl) F
      · replace F := F.2 c7
        refine e_0 (f_92 (pc := 31) (e := (31, 0, 1, 0, 0, 0, 0, 32)) rfl) (v := 1) rfl ?_
        refine e_80 (f_92 (pc := 32) (e := (32, 80, 36, 0, 0, 0, 0, 35)) rfl) ?_
        exact e_121 (f_92 (pc := 36) (e := (36, 121, 0, 0, 0, 0, 0, 0)) rfl) (.inr rfl) F

/-! ChairAlley$Walk.lastThere()I -/
set_option maxRecDepth 20000 in
theorem B_93_0 (hT : yLT T) (hR : yLR R) (F : yW l zSS D cy zFk z d 93 bc bs K 0 0 4 [(0, yr (some 67)), (1, yi (-1)), (2, yi 0)] [] (N, T, R, I)) :
    yW l zSS D cy zFk z d 93 bc bs K 0 0 0 [(0, yr (some 67))] [] (N, T, R, I) := by
  refine e_0 (f_93 (pc := 0) (e := (0, 0, 4294967295, 0, 0, 0, 0, 1)) rfl) (v := (-1)) rfl ?_
  refine e_20 (f_93 (pc := 1) (e := (1, 20, 1, 0, 0, 0, 0, 2)) rfl) ?_
  refine e_0 (f_93 (pc := 2) (e := (2, 0, 0, 0, 0, 0, 0, 3)) rfl) (v := 0) rfl ?_
  refine e_20 (f_93 (pc := 3) (e := (3, 20, 2, 0, 0, 0, 0, 4)) rfl) ?_
  refine e_lo [0, 1, 2] rfl ?_
  exact F
set_option maxRecDepth 20000 in
theorem B_93_4 (hT : yLT T) (hR : yLR R) {x1 x2 : Int} (F : ((I 4 5) ≤ x2 → K (some (yi x1)) (N, T, R, I)) ∧ (¬ ((I 4 5) ≤ x2) → (8 ≤ x2 → K (some (yi x1)) (N, T, R, I)) ∧ (¬ (8 ≤ x2) → yW l zSS D cy zFk z d 106 0 0 (fun r h' => ∃ r4 I3, r = some (yi r4) ∧ h' = (N, T, R, I3) ∧ (yW l zSS D cy zFk z (d + 1) 93 bc bs K 0 0 4 [(0, yr (some 67)), (1, yi (ymax x1 r4)), (2, yi (yadd x2 1))] [] (N, T, R, I3))) 0 0 0 [(0, yr (some 67)), (1, yi x2)] [] (N, T, R, I)))) :
    yW l zSS D cy zFk z (d + 1) 93 bc bs K 0 0 4 [(0, yr (some 67)), (1, yi x1), (2, yi x2)] [] (N, T, R, I) := by
  refine e_10 (f_93 (pc := 4) (e := (4, 10, 2, 0, 0, 0, 0, 5)) rfl) rfl ?_
  refine e_12 (f_93 (pc := 5) (e := (5, 12, 0, 0, 0, 0, 0, 6)) rfl) rfl ?_
  refine e_90r zA (f_93 (pc := 6) (e := (6, 90, 7, 0, 3, 33, 983, 9)) rfl) rfl (hT 67 rfl) rfl rfl (hR 67 0 rfl) ?_
  refine e_90 zA (f_93 (pc := 9) (e := (9, 90, 1, 5, 0, 53, 1011, 12)) rfl) rfl (hT 4 rfl) rfl rfl ?_
  refine e_73 (f_93 (pc := 12) (e := (12, 73, 37, 0, 0, 0, 0, 15)) rfl) (fun c1 => ?_) (fun c1 => ?_)
  · replace F := F.1 c1
    refine e_10 (f_93 (pc := 37) (e := (37, 10, 1, 0, 0, 0, 0, 38)) rfl) rfl ?_
    exact e_120 (f_93 (pc := 38) (e := (38, 120, 0, 0, 0, 0, 0, 0)) rfl) F
  · replace F := F.2 c1
    refine e_10 (f_93 (pc := 15) (e := (15, 10, 2, 0, 0, 0, 0, 16)) rfl) rfl ?_
    refine e_1 (f_93 (pc := 16) (e := (16, 1, 8, 0, 0, 0, 0, 18)) rfl) (v := 8) rfl ?_
    refine e_73 (f_93 (pc := 18) (e := (18, 73, 37, 0, 0, 0, 0, 21)) rfl) (fun c2 => ?_) (fun c2 => ?_)
    · replace F := F.1 c2
      refine e_10 (f_93 (pc := 37) (e := (37, 10, 1, 0, 0, 0, 0, 38)) rfl) rfl ?_
      exact e_120 (f_93 (pc := 38) (e := (38, 120, 0, 0, 0, 0, 0, 0)) rfl) F
    · replace F := F.2 c2
      refine e_10 (f_93 (pc := 21) (e := (21, 10, 1, 0, 0, 0, 0, 22)) rfl) rfl ?_
      refine e_12 (f_93 (pc := 22) (e := (22, 12, 0, 0, 0, 0, 0, 23)) rfl) rfl ?_
      refine e_10 (f_93 (pc := 23) (e := (23, 10, 2, 0, 0, 0, 0, 24)) rfl) rfl ?_
      refine e_130 (f_93 (pc := 24) (e := (24, 130, 106, 0, 7, 182, 1023, 27)) rfl) zA (as := [yr (some 67), yi x2]) (rest := [yi x1]) rfl rfl rfl rfl (Nat.le_of_ble_eq_true rfl) (Nat.le_of_ble_eq_true rfl) ⟨_, _, _, rfl, (hT 67 rfl)⟩ (mc := 0) (ms := 0) (Nat.zero_le _) (Nat.zero_le _) ?_
      refine e_K ?_ F
      rintro r h' ⟨r4, I3, rfl, rfl, F⟩
      refine e_137 (f_93 (pc := 27) (e := (27, 137, 0, 0, 0, 185, 1024, 30)) rfl) zA (Nat.succ_pos _) (Nat.le_of_ble_eq_true rfl) ?_
      refine e_20 (f_93 (pc := 30) (e := (30, 20, 1, 0, 0, 0, 0, 31)) rfl) ?_
      refine e_26 (f_93 (pc := 31) (e := (31, 26, 2, 1, 0, 0, 0, 34)) rfl) (w := 1) rfl rfl ?_
      refine e_80 (f_93 (pc := 34) (e := (34, 80, 4, 0, 0, 0, 0, 37)) rfl) ?_
      refine e_lo [0, 1, 2] rfl ?_
      exact F

/-! ChairAlley$Walk.latestOn(I)I -/
set_option maxRecDepth 20000 in
theorem B_94_0 (hT : yLT T) (hR : yLR R) {x1 : Int} (F : yW l zSS D cy zFk z d 94 bc bs K 0 0 4 [(0, yr (some 67)), (1, yi x1), (2, yi (-1)), (3, yi 0)] [] (N, T, R, I)) :
    yW l zSS D cy zFk z d 94 bc bs K 0 0 0 [(0, yr (some 67)), (1, yi x1)] [] (N, T, R, I) := by
  refine e_0 (f_94 (pc := 0) (e := (0, 0, 4294967295, 0, 0, 0, 0, 1)) rfl) (v := (-1)) rfl ?_
  refine e_20 (f_94 (pc := 1) (e := (1, 20, 2, 0, 0, 0, 0, 2)) rfl) ?_
  refine e_0 (f_94 (pc := 2) (e := (2, 0, 0, 0, 0, 0, 0, 3)) rfl) (v := 0) rfl ?_
  refine e_20 (f_94 (pc := 3) (e := (3, 20, 3, 0, 0, 0, 0, 4)) rfl) ?_
  refine e_lo [0, 1, 2, 3] rfl ?_
  exact F
set_option maxRecDepth 20000 in
theorem B_94_4 (hT : yLT T) (hR : yLR R) {x1 x2 x3 : Int} (F : ((I 4 5) ≤ x3 → K (some (yi x2)) (N, T, R, I)) ∧ (¬ ((I 4 5) ≤ x3) → (8 ≤ x3 → K (some (yi x2)) (N, T, R, I)) ∧ (¬ (8 ≤ x3) → 0 ≤ x3 ∧ x3 < 8 ∧ (((I 72 x3.toNat) ≠ x1 → yW l zSS D cy zFk z d 94 bc bs K 0 0 4 [(0, yr (some 67)), (1, yi x1), (2, yi x2), (3, yi (yadd x3 1))] [] (N, T, R, I)) ∧ (¬ ((I 72 x3.toNat) ≠ x1) → (x2 = (-1) → yW l zSS D cy zFk z d 94 bc bs K 0 0 4 [(0, yr (some 67)), (1, yi x1), (2, yi x3), (3, yi (yadd x3 1))] [] (N, T, R, I)) ∧ (¬ (x2 = (-1)) → 0 ≤ x3 ∧ x3 < 8 ∧ (0 ≤ x2 ∧ x2 < 8 ∧ (((I 82 x3.toNat) ≤ (I 82 x2.toNat) → yW l zSS D cy zFk z d 94 bc bs K 0 0 4 [(0, yr (some 67)), (1, yi x1), (2, yi x2), (3, yi (yadd x3 1))] [] (N, T, R, I)) ∧ (¬ ((I 82 x3.toNat) ≤ (I 82 x2.toNat)) → yW l zSS D cy zFk z d 94 bc bs K 0 0 4 [(0, yr (some 67)), (1, yi x1), (2, yi x3), (3, yi (yadd x3 1))] [] (N, T, R, I)))))))))) :
    yW l zSS D cy zFk z d 94 bc bs K 0 0 4 [(0, yr (some 67)), (1, yi x1), (2, yi x2), (3, yi x3)] [] (N, T, R, I) := by
  refine e_10 (f_94 (pc := 4) (e := (4, 10, 3, 0, 0, 0, 0, 5)) rfl) rfl ?_
  refine e_12 (f_94 (pc := 5) (e := (5, 12, 0, 0, 0, 0, 0, 6)) rfl) rfl ?_
  refine e_90r zA (f_94 (pc := 6) (e := (6, 90, 7, 0, 3, 33, 983, 9)) rfl) rfl (hT 67 rfl) rfl rfl (hR 67 0 rfl) ?_
  refine e_90 zA (f_94 (pc := 9) (e := (9, 90, 1, 5, 0, 53, 1011, 12)) rfl) rfl (hT 4 rfl) rfl rfl ?_
  refine e_73 (f_94 (pc := 12) (e := (12, 73, 62, 0, 0, 0, 0, 15)) rfl) (fun c1 => ?_) (fun c1 => ?_)
  · replace F := F.1 c1
    refine e_10 (f_94 (pc := 62) (e := (62, 10, 2, 0, 0, 0, 0, 63)) rfl) rfl ?_
    exact e_120 (f_94 (pc := 63) (e := (63, 120, 0, 0, 0, 0, 0, 0)) rfl) F
  · replace F := F.2 c1
    refine e_10 (f_94 (pc := 15) (e := (15, 10, 3, 0, 0, 0, 0, 16)) rfl) rfl ?_
    refine e_1 (f_94 (pc := 16) (e := (16, 1, 8, 0, 0, 0, 0, 18)) rfl) (v := 8) rfl ?_
    refine e_73 (f_94 (pc := 18) (e := (18, 73, 62, 0, 0, 0, 0, 21)) rfl) (fun c2 => ?_) (fun c2 => ?_)
    · replace F := F.1 c2
      refine e_10 (f_94 (pc := 62) (e := (62, 10, 2, 0, 0, 0, 0, 63)) rfl) rfl ?_
      exact e_120 (f_94 (pc := 63) (e := (63, 120, 0, 0, 0, 0, 0, 0)) rfl) F
    · replace F := F.2 c2
      refine e_12 (f_94 (pc := 21) (e := (21, 12, 0, 0, 0, 0, 0, 22)) rfl) rfl ?_
      refine e_90r zA (f_94 (pc := 22) (e := (22, 90, 7, 2, 3, 12, 978, 25)) rfl) rfl (hT 67 rfl) rfl rfl (hR 67 2 rfl) ?_
      refine e_90r zA (f_94 (pc := 25) (e := (25, 90, 5, 4, 3, 100, 987, 28)) rfl) rfl (hT 68 rfl) rfl rfl (hR 68 4 rfl) ?_
      refine e_10 (f_94 (pc := 28) (e := (28, 10, 3, 0, 0, 0, 0, 29)) rfl) rfl ?_
      obtain ⟨b3, b4, F⟩ := F
      refine e_110 (f_94 (pc := 29) (e := (29, 110, 0, 0, 0, 0, 0, 30)) rfl) rfl (hT 72 rfl) b3 b4 ?_
      refine e_10 (f_94 (pc := 30) (e := (30, 10, 1, 0, 0, 0, 0, 31)) rfl) rfl ?_
      refine e_71 (f_94 (pc := 31) (e := (31, 71, 56, 0, 0, 0, 0, 34)) rfl) (fun c5 => ?_) (fun c5 => ?_)
      · replace F := F.1 c5
        refine e_26 (f_94 (pc := 56) (e := (56, 26, 3, 1, 0, 0, 0, 59)) rfl) (w := 1) rfl rfl ?_
        refine e_80 (f_94 (pc := 59) (e := (59, 80, 4, 0, 0, 0, 0, 62)) rfl) ?_
        refine e_lo [0, 1, 2, 3] rfl ?_
        exact F
      · replace F := F.2 c5
        refine e_10 (f_94 (pc := 34) (e := (34, 10, 2, 0, 0, 0, 0, 35)) rfl) rfl ?_
        refine e_0 (f_94 (pc := 35) (e := (35, 0, 4294967295, 0, 0, 0, 0, 36)) rfl) (v := (-1)) rfl ?_
        refine e_70 (f_94 (pc := 36) (e := (36, 70, 54, 0, 0, 0, 0, 39)) rfl) (fun c6 => ?_) (fun c6 => ?_)
        · replace F := F.1 c6
          refine e_10 (f_94 (pc := 54) (e := (54, 10, 3, 0, 0, 0, 0, 55)) rfl) rfl ?_
          refine e_20 (f_94 (pc := 55) (e := (55, 20, 2, 0, 0, 0, 0, 56)) rfl) ?_
          refine e_26 (f_94 (pc := 56) (e := (56, 26, 3, 1, 0, 0, 0, 59)) rfl) (w := 1) rfl rfl ?_
          refine e_80 (f_94 (pc := 59) (e := (59, 80, 4, 0, 0, 0, 0, 62)) rfl) ?_
          refine e_lo [0, 1, 2, 3] rfl ?_
          exact F
        · replace F := F.2 c6
          refine e_12 (f_94 (pc := 39) (e := (39, 12, 0, 0, 0, 0, 0, 40)) rfl) rfl ?_
          refine e_90r zA (f_94 (pc := 40) (e := (40, 90, 7, 4, 3, 22, 980, 43)) rfl) rfl (hT 67 rfl) rfl rfl (hR 67 4 rfl) ?_
          refine e_10 (f_94 (pc := 43) (e := (43, 10, 3, 0, 0, 0, 0, 44)) rfl) rfl ?_
          obtain ⟨b7, b8, F⟩ := F
          refine e_110 (f_94 (pc := 44) (e := (44, 110, 0, 0, 0, 0, 0, 45)) rfl) rfl (hT 82 rfl) b7 b8 ?_
          refine e_12 (f_94 (pc := 45) (e := (45, 12, 0, 0, 0, 0, 0, 46)) rfl) rfl ?_
          refine e_90r zA (f_94 (pc := 46) (e := (46, 90, 7, 4, 3, 22, 980, 49)) rfl) rfl (hT 67 rfl) rfl rfl (hR 67 4 rfl) ?_
          refine e_10 (f_94 (pc := 49) (e := (49, 10, 2, 0, 0, 0, 0, 50)) rfl) rfl ?_
          obtain ⟨b9, b10, F⟩ := F
          refine e_110 (f_94 (pc := 50) (e := (50, 110, 0, 0, 0, 0, 0, 51)) rfl) rfl (hT 82 rfl) b9 b10 ?_
          refine e_75 (f_94 (pc := 51) (e := (51, 75, 56, 0, 0, 0, 0, 54)) rfl) (fun c11 => ?_) (fun c11 => ?_)
          · replace F := F.1 c11
            refine e_26 (f_94 (pc := 56) (e := (56, 26, 3, 1, 0, 0, 0, 59)) rfl) (w := 1) rfl rfl ?_
            refine e_80 (f_94 (pc := 59) (e := (59, 80, 4, 0, 0, 0, 0, 62)) rfl) ?_
            refine e_lo [0, 1, 2, 3] rfl ?_
            exact F
          · replace F := F.2 c11
            refine e_10 (f_94 (pc := 54) (e := (54, 10, 3, 0, 0, 0, 0, 55)) rfl) rfl ?_
            refine e_20 (f_94 (pc := 55) (e := (55, 20, 2, 0, 0, 0, 0, 56)) rfl) ?_
            refine e_26 (f_94 (pc := 56) (e := (56, 26, 3, 1, 0, 0, 0, 59)) rfl) (w := 1) rfl rfl ?_
            refine e_80 (f_94 (pc := 59) (e := (59, 80, 4, 0, 0, 0, 0, 62)) rfl) ?_
            refine e_lo [0, 1, 2, 3] rfl ?_
            exact F

/-! ChairAlley$Walk.leaveIfThere(I)V -/
set_option maxRecDepth 20000 in
theorem B_95_0 (hT : yLT T) (hR : yLR R) {x1 : Int} (F : (x1 < 0 → K none (N, T, R, I)) ∧ (¬ (x1 < 0) → (8 ≤ x1 → K none (N, T, R, I)) ∧ (¬ (8 ≤ x1) → 0 ≤ x1 ∧ x1 < 8 ∧ (((I 72 x1.toNat) = (-1) → K none (N, T, R, I)) ∧ (¬ ((I 72 x1.toNat) = (-1)) → 0 ≤ x1 ∧ x1 < 8 ∧ (0 ≤ x1 ∧ x1 < 8 ∧ (((I 72 x1.toNat) ≠ (I 10 x1.toNat) → K none (N, T, R, I)) ∧ (¬ ((I 72 x1.toNat) ≠ (I 10 x1.toNat)) → 0 ≤ x1 ∧ x1 < 8 ∧ (∀ I13, I13 = yU I 77 x1.toNat (ynar 1 (I 68 0)) → (0 ≤ x1 ∧ x1 < 8 ∧ (∀ I16, I16 = yU I13 72 x1.toNat (ynar 1 (-1)) → (K none (N, T, R, I16))))))))))))) :
    yW l zSS D cy zFk z d 95 bc bs K 0 0 0 [(0, yr (some 67)), (1, yi x1)] [] (N, T, R, I) := by
  refine e_10 (f_95 (pc := 0) (e := (0, 10, 1, 0, 0, 0, 0, 1)) rfl) rfl ?_
  refine e_62 (f_95 (pc := 1) (e := (1, 62, 70, 0, 0, 0, 0, 4)) rfl) (fun c1 => ?_) (fun c1 => ?_)
  · replace F := F.1 c1
    exact e_122 (f_95 (pc := 70) (e := (70, 122, 0, 0, 0, 0, 0, 0)) rfl) F
  · replace F := F.2 c1
    refine e_10 (f_95 (pc := 4) (e := (4, 10, 1, 0, 0, 0, 0, 5)) rfl) rfl ?_
    refine e_1 (f_95 (pc := 5) (e := (5, 1, 8, 0, 0, 0, 0, 7)) rfl) (v := 8) rfl ?_
    refine e_73 (f_95 (pc := 7) (e := (7, 73, 70, 0, 0, 0, 0, 10)) rfl) (fun c2 => ?_) (fun c2 => ?_)
    · replace F := F.1 c2
      exact e_122 (f_95 (pc := 70) (e := (70, 122, 0, 0, 0, 0, 0, 0)) rfl) F
    · replace F := F.2 c2
      refine e_12 (f_95 (pc := 10) (e := (10, 12, 0, 0, 0, 0, 0, 11)) rfl) rfl ?_
      refine e_90r zA (f_95 (pc := 11) (e := (11, 90, 7, 2, 3, 12, 978, 14)) rfl) rfl (hT 67 rfl) rfl rfl (hR 67 2 rfl) ?_
      refine e_90r zA (f_95 (pc := 14) (e := (14, 90, 5, 4, 3, 100, 987, 17)) rfl) rfl (hT 68 rfl) rfl rfl (hR 68 4 rfl) ?_
      refine e_10 (f_95 (pc := 17) (e := (17, 10, 1, 0, 0, 0, 0, 18)) rfl) rfl ?_
      obtain ⟨b3, b4, F⟩ := F
      refine e_110 (f_95 (pc := 18) (e := (18, 110, 0, 0, 0, 0, 0, 19)) rfl) rfl (hT 72 rfl) b3 b4 ?_
      refine e_0 (f_95 (pc := 19) (e := (19, 0, 4294967295, 0, 0, 0, 0, 20)) rfl) (v := (-1)) rfl ?_
      refine e_70 (f_95 (pc := 20) (e := (20, 70, 70, 0, 0, 0, 0, 23)) rfl) (fun c5 => ?_) (fun c5 => ?_)
      · replace F := F.1 c5
        exact e_122 (f_95 (pc := 70) (e := (70, 122, 0, 0, 0, 0, 0, 0)) rfl) F
      · replace F := F.2 c5
        refine e_12 (f_95 (pc := 23) (e := (23, 12, 0, 0, 0, 0, 0, 24)) rfl) rfl ?_
        refine e_90r zA (f_95 (pc := 24) (e := (24, 90, 7, 2, 3, 12, 978, 27)) rfl) rfl (hT 67 rfl) rfl rfl (hR 67 2 rfl) ?_
        refine e_90r zA (f_95 (pc := 27) (e := (27, 90, 5, 4, 3, 100, 987, 30)) rfl) rfl (hT 68 rfl) rfl rfl (hR 68 4 rfl) ?_
        refine e_10 (f_95 (pc := 30) (e := (30, 10, 1, 0, 0, 0, 0, 31)) rfl) rfl ?_
        obtain ⟨b6, b7, F⟩ := F
        refine e_110 (f_95 (pc := 31) (e := (31, 110, 0, 0, 0, 0, 0, 32)) rfl) rfl (hT 72 rfl) b6 b7 ?_
        refine e_12 (f_95 (pc := 32) (e := (32, 12, 0, 0, 0, 0, 0, 33)) rfl) rfl ?_
        refine e_90r zA (f_95 (pc := 33) (e := (33, 90, 7, 0, 3, 33, 983, 36)) rfl) rfl (hT 67 rfl) rfl rfl (hR 67 0 rfl) ?_
        refine e_90r zA (f_95 (pc := 36) (e := (36, 90, 1, 8, 3, 65, 1005, 39)) rfl) rfl (hT 4 rfl) rfl rfl (hR 4 8 rfl) ?_
        refine e_10 (f_95 (pc := 39) (e := (39, 10, 1, 0, 0, 0, 0, 40)) rfl) rfl ?_
        obtain ⟨b8, b9, F⟩ := F
        refine e_110 (f_95 (pc := 40) (e := (40, 110, 0, 0, 0, 0, 0, 41)) rfl) rfl (hT 10 rfl) b8 b9 ?_
        refine e_71 (f_95 (pc := 41) (e := (41, 71, 70, 0, 0, 0, 0, 44)) rfl) (fun c10 => ?_) (fun c10 => ?_)
        · replace F := F.1 c10
          exact e_122 (f_95 (pc := 70) (e := (70, 122, 0, 0, 0, 0, 0, 0)) rfl) F
        · replace F := F.2 c10
          refine e_12 (f_95 (pc := 44) (e := (44, 12, 0, 0, 0, 0, 0, 45)) rfl) rfl ?_
          refine e_90r zA (f_95 (pc := 45) (e := (45, 90, 7, 2, 3, 12, 978, 48)) rfl) rfl (hT 67 rfl) rfl rfl (hR 67 2 rfl) ?_
          refine e_90r zA (f_95 (pc := 48) (e := (48, 90, 5, 9, 3, 59, 1002, 51)) rfl) rfl (hT 68 rfl) rfl rfl (hR 68 9 rfl) ?_
          refine e_10 (f_95 (pc := 51) (e := (51, 10, 1, 0, 0, 0, 0, 52)) rfl) rfl ?_
          refine e_12 (f_95 (pc := 52) (e := (52, 12, 0, 0, 0, 0, 0, 53)) rfl) rfl ?_
          refine e_90r zA (f_95 (pc := 53) (e := (53, 90, 7, 2, 3, 12, 978, 56)) rfl) rfl (hT 67 rfl) rfl rfl (hR 67 2 rfl) ?_
          refine e_90 zA (f_95 (pc := 56) (e := (56, 90, 5, 0, 0, 97, 988, 59)) rfl) rfl (hT 68 rfl) rfl rfl ?_
          obtain ⟨b11, b12, F⟩ := F
          refine e_111 (f_95 (pc := 59) (e := (59, 111, 0, 0, 0, 0, 0, 60)) rfl) rfl (hT 77 rfl) b11 b12 ?_
          replace F := F _ rfl
          refine e_12 (f_95 (pc := 60) (e := (60, 12, 0, 0, 0, 0, 0, 61)) rfl) rfl ?_
          refine e_90r zA (f_95 (pc := 61) (e := (61, 90, 7, 2, 3, 12, 978, 64)) rfl) rfl (hT 67 rfl) rfl rfl (hR 67 2 rfl) ?_
          refine e_90r zA (f_95 (pc := 64) (e := (64, 90, 5, 4, 3, 100, 987, 67)) rfl) rfl (hT 68 rfl) rfl rfl (hR 68 4 rfl) ?_
          refine e_10 (f_95 (pc := 67) (e := (67, 10, 1, 0, 0, 0, 0, 68)) rfl) rfl ?_
          refine e_0 (f_95 (pc := 68) (e := (68, 0, 4294967295, 0, 0, 0, 0, 69)) rfl) (v := (-1)) rfl ?_
          obtain ⟨b14, b15, F⟩ := F
          refine e_111 (f_95 (pc := 69) (e := (69, 111, 0, 0, 0, 0, 0, 70)) rfl) rfl (hT 72 rfl) b14 b15 ?_
          replace F := F _ rfl
          exact e_122 (f_95 (pc := 70) (e := (70, 122, 0, 0, 0, 0, 0, 0)) rfl) F
end Sy
