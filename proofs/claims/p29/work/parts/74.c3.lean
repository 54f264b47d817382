/-! BLOCKS of the class, printed by wip/whole/y/gen74.py (3) -/
section Sy
variable {l : Launch} {D : va_G} {cy : Nat → ClassId} {z d bc bs N : Nat} {T : Nat → Nat × Nat} {R : Nat → Nat → Option Nat} {I : Nat → Nat → Int} {K : yKo}
/-! ChairAlley$Walk.measureWays()V -/
set_option maxRecDepth 20000 in
theorem B_96_0 (hT : yLT T) (hR : yLR R) (F : yW l zSS D cy zFk z d 96 bc bs K 0 0 2 [(0, yr (some 67)), (1, yi 0)] [] (N, T, R, I)) :
    yW l zSS D cy zFk z d 96 bc bs K 0 0 0 [(0, yr (some 67))] [] (N, T, R, I) := by
  refine e_0 (f_96 (pc := 0) (e := (0, 0, 0, 0, 0, 0, 0, 1)) rfl) (v := 0) rfl ?_
  refine e_20 (f_96 (pc := 1) (e := (1, 20, 1, 0, 0, 0, 0, 2)) rfl) ?_
  refine e_lo [0, 1] rfl ?_
  exact F
set_option maxRecDepth 20000 in
theorem B_96_2 (hT : yLT T) (hR : yLR R) {x1 : Int} (F : ((I 4 5) ≤ x1 → K none (N, T, R, I)) ∧ (¬ ((I 4 5) ≤ x1) → (8 ≤ x1 → K none (N, T, R, I)) ∧ (¬ (8 ≤ x1) → 0 ≤ x1 ∧ x1 < 8 ∧ (((I 77 x1.toNat) ≠ (-1) → yW l zSS D cy zFk z (d + 1) 96 bc bs K 0 0 2 [(0, yr (some 67)), (1, yi (yadd x1 1))] [] (N, T, R, I)) ∧ (¬ ((I 77 x1.toNat) ≠ (-1)) → 0 ≤ x1 ∧ x1 < 8 ∧ (yW l zSS D cy zFk z d 109 0 0 (fun r h' => ∃ I8, r = none ∧ h' = (N, T, R, I8) ∧ (yW l zSS D cy zFk z (d + 1) 96 bc bs K 0 0 2 [(0, yr (some 67)), (1, yi (yadd x1 1))] [] (N, T, R, I8))) 0 0 0 [(0, yr (some 85)), (1, yr (some 69)), (2, yi (I 10 x1.toNat)), (3, yi x1)] [] (N, T, R, I))))))) :
    yW l zSS D cy zFk z (d + 1) 96 bc bs K 0 0 2 [(0, yr (some 67)), (1, yi x1)] [] (N, T, R, I) := by
  refine e_10 (f_96 (pc := 2) (e := (2, 10, 1, 0, 0, 0, 0, 3)) rfl) rfl ?_
  refine e_12 (f_96 (pc := 3) (e := (3, 12, 0, 0, 0, 0, 0, 4)) rfl) rfl ?_
  refine e_90r zA (f_96 (pc := 4) (e := (4, 90, 7, 0, 3, 33, 983, 7)) rfl) rfl (hT 67 rfl) rfl rfl (hR 67 0 rfl) ?_
  refine e_90 zA (f_96 (pc := 7) (e := (7, 90, 1, 5, 0, 53, 1011, 10)) rfl) rfl (hT 4 rfl) rfl rfl ?_
  refine e_73 (f_96 (pc := 10) (e := (10, 73, 62, 0, 0, 0, 0, 13)) rfl) (fun c1 => ?_) (fun c1 => ?_)
  · replace F := F.1 c1
    exact e_122 (f_96 (pc := 62) (e := (62, 122, 0, 0, 0, 0, 0, 0)) rfl) F
  · replace F := F.2 c1
    refine e_10 (f_96 (pc := 13) (e := (13, 10, 1, 0, 0, 0, 0, 14)) rfl) rfl ?_
    refine e_1 (f_96 (pc := 14) (e := (14, 1, 8, 0, 0, 0, 0, 16)) rfl) (v := 8) rfl ?_
    refine e_73 (f_96 (pc := 16) (e := (16, 73, 62, 0, 0, 0, 0, 19)) rfl) (fun c2 => ?_) (fun c2 => ?_)
    · replace F := F.1 c2
      exact e_122 (f_96 (pc := 62) (e := (62, 122, 0, 0, 0, 0, 0, 0)) rfl) F
    · replace F := F.2 c2
      refine e_12 (f_96 (pc := 19) (e := (19, 12, 0, 0, 0, 0, 0, 20)) rfl) rfl ?_
      refine e_90r zA (f_96 (pc := 20) (e := (20, 90, 7, 2, 3, 12, 978, 23)) rfl) rfl (hT 67 rfl) rfl rfl (hR 67 2 rfl) ?_
      refine e_90r zA (f_96 (pc := 23) (e := (23, 90, 5, 9, 3, 59, 1002, 26)) rfl) rfl (hT 68 rfl) rfl rfl (hR 68 9 rfl) ?_
      refine e_10 (f_96 (pc := 26) (e := (26, 10, 1, 0, 0, 0, 0, 27)) rfl) rfl ?_
      obtain ⟨b3, b4, F⟩ := F
      refine e_110 (f_96 (pc := 27) (e := (27, 110, 0, 0, 0, 0, 0, 28)) rfl) rfl (hT 77 rfl) b3 b4 ?_
      refine e_0 (f_96 (pc := 28) (e := (28, 0, 4294967295, 0, 0, 0, 0, 29)) rfl) (v := (-1)) rfl ?_
      refine e_71 (f_96 (pc := 29) (e := (29, 71, 56, 0, 0, 0, 0, 32)) rfl) (fun c5 => ?_) (fun c5 => ?_)
      · replace F := F.1 c5
        refine e_26 (f_96 (pc := 56) (e := (56, 26, 1, 1, 0, 0, 0, 59)) rfl) (w := 1) rfl rfl ?_
        refine e_80 (f_96 (pc := 59) (e := (59, 80, 2, 0, 0, 0, 0, 62)) rfl) ?_
        refine e_lo [0, 1] rfl ?_
        exact F
      · replace F := F.2 c5
        refine e_12 (f_96 (pc := 32) (e := (32, 12, 0, 0, 0, 0, 0, 33)) rfl) rfl ?_
        refine e_90r zA (f_96 (pc := 33) (e := (33, 90, 7, 1, 3, 42, 986, 36)) rfl) rfl (hT 67 rfl) rfl rfl (hR 67 1 rfl) ?_
        refine e_12 (f_96 (pc := 36) (e := (36, 12, 0, 0, 0, 0, 0, 37)) rfl) rfl ?_
        refine e_90r zA (f_96 (pc := 37) (e := (37, 90, 7, 2, 3, 12, 978, 40)) rfl) rfl (hT 67 rfl) rfl rfl (hR 67 2 rfl) ?_
        refine e_90r zA (f_96 (pc := 40) (e := (40, 90, 5, 1, 3, 62, 1007, 43)) rfl) rfl (hT 68 rfl) rfl rfl (hR 68 1 rfl) ?_
        refine e_12 (f_96 (pc := 43) (e := (43, 12, 0, 0, 0, 0, 0, 44)) rfl) rfl ?_
        refine e_90r zA (f_96 (pc := 44) (e := (44, 90, 7, 0, 3, 33, 983, 47)) rfl) rfl (hT 67 rfl) rfl rfl (hR 67 0 rfl) ?_
        refine e_90r zA (f_96 (pc := 47) (e := (47, 90, 1, 8, 3, 65, 1005, 50)) rfl) rfl (hT 4 rfl) rfl rfl (hR 4 8 rfl) ?_
        refine e_10 (f_96 (pc := 50) (e := (50, 10, 1, 0, 0, 0, 0, 51)) rfl) rfl ?_
        obtain ⟨b6, b7, F⟩ := F
        refine e_110 (f_96 (pc := 51) (e := (51, 110, 0, 0, 0, 0, 0, 52)) rfl) rfl (hT 10 rfl) b6 b7 ?_
        refine e_10 (f_96 (pc := 52) (e := (52, 10, 1, 0, 0, 0, 0, 53)) rfl) rfl ?_
        refine e_130 (f_96 (pc := 53) (e := (53, 130, 109, 0, 8, 68, 1025, 56)) rfl) zA (as := [yr (some 85), yr (some 69), yi _, yi x1]) (rest := []) rfl rfl rfl rfl (Nat.le_of_ble_eq_true rfl) (Nat.le_of_ble_eq_true rfl) ⟨_, _, _, rfl, (hT 85 rfl)⟩ (mc := 0) (ms := 0) (Nat.zero_le _) (Nat.zero_le _) ?_
        refine e_K ?_ F
        rintro r h' ⟨I8, rfl, rfl, F⟩
        refine e_26 (f_96 (pc := 56) (e := (56, 26, 1, 1, 0, 0, 0, 59)) rfl) (w := 1) rfl rfl ?_
        refine e_80 (f_96 (pc := 59) (e := (59, 80, 2, 0, 0, 0, 0, 62)) rfl) ?_
        refine e_lo [0, 1] rfl ?_
        exact F

/-! ChairAlley$Walk.noteStairs(I)V -/
set_option maxRecDepth 20000 in
theorem B_97_0 (hT : yLT T) (hR : yLR R) {x1 : Int} (F : (x1 < 0 → K none (N, T, R, I)) ∧ (¬ (x1 < 0) → (8 ≤ x1 → K none (N, T, R, I)) ∧ (¬ (8 ≤ x1) → 0 ≤ x1 ∧ x1 < 8 ∧ (yW l zSS D cy zFk z d 12 0 0 (fun r h' => ∃ r6 I5, r = some (yi r6) ∧ h' = (N, T, R, I5) ∧ ((r6 = 0 → K none (N, T, R, I5)) ∧ (¬ (r6 = 0) → 0 ≤ x1 ∧ x1 < 8 ∧ (∀ I10, I10 = yU I5 78 x1.toNat (ynar 1 (I5 68 0)) → (K none (N, T, R, I10)))))) 0 0 0 [(0, yr (some 4)), (1, yi (I 72 x1.toNat)), (2, yi 2)] [] (N, T, R, I))))) :
    yW l zSS D cy zFk z (d + 1) 97 bc bs K 0 0 0 [(0, yr (some 67)), (1, yi x1)] [] (N, T, R, I) := by
  refine e_10 (f_97 (pc := 0) (e := (0, 10, 1, 0, 0, 0, 0, 1)) rfl) rfl ?_
  refine e_62 (f_97 (pc := 1) (e := (1, 62, 46, 0, 0, 0, 0, 4)) rfl) (fun c1 => ?_) (fun c1 => ?_)
  · replace F := F.1 c1
    exact e_122 (f_97 (pc := 46) (e := (46, 122, 0, 0, 0, 0, 0, 0)) rfl) F
  · replace F := F.2 c1
    refine e_10 (f_97 (pc := 4) (e := (4, 10, 1, 0, 0, 0, 0, 5)) rfl) rfl ?_
    refine e_1 (f_97 (pc := 5) (e := (5, 1, 8, 0, 0, 0, 0, 7)) rfl) (v := 8) rfl ?_
    refine e_73 (f_97 (pc := 7) (e := (7, 73, 46, 0, 0, 0, 0, 10)) rfl) (fun c2 => ?_) (fun c2 => ?_)
    · replace F := F.1 c2
      exact e_122 (f_97 (pc := 46) (e := (46, 122, 0, 0, 0, 0, 0, 0)) rfl) F
    · replace F := F.2 c2
      refine e_12 (f_97 (pc := 10) (e := (10, 12, 0, 0, 0, 0, 0, 11)) rfl) rfl ?_
      refine e_90r zA (f_97 (pc := 11) (e := (11, 90, 7, 0, 3, 33, 983, 14)) rfl) rfl (hT 67 rfl) rfl rfl (hR 67 0 rfl) ?_
      refine e_12 (f_97 (pc := 14) (e := (14, 12, 0, 0, 0, 0, 0, 15)) rfl) rfl ?_
      refine e_90r zA (f_97 (pc := 15) (e := (15, 90, 7, 2, 3, 12, 978, 18)) rfl) rfl (hT 67 rfl) rfl rfl (hR 67 2 rfl) ?_
      refine e_90r zA (f_97 (pc := 18) (e := (18, 90, 5, 4, 3, 100, 987, 21)) rfl) rfl (hT 68 rfl) rfl rfl (hR 68 4 rfl) ?_
      refine e_10 (f_97 (pc := 21) (e := (21, 10, 1, 0, 0, 0, 0, 22)) rfl) rfl ?_
      obtain ⟨b3, b4, F⟩ := F
      refine e_110 (f_97 (pc := 22) (e := (22, 110, 0, 0, 0, 0, 0, 23)) rfl) rfl (hT 72 rfl) b3 b4 ?_
      refine e_0 (f_97 (pc := 23) (e := (23, 0, 2, 0, 0, 0, 0, 24)) rfl) (v := 2) rfl ?_
      refine e_130 (f_97 (pc := 24) (e := (24, 130, 12, 0, 1, 159, 1022, 27)) rfl) zA (as := [yr (some 4), yi _, yi 2]) (rest := []) rfl rfl rfl rfl (Nat.le_of_ble_eq_true rfl) (Nat.le_of_ble_eq_true rfl) ⟨_, _, _, rfl, (hT 4 rfl)⟩ (mc := 0) (ms := 0) (Nat.zero_le _) (Nat.zero_le _) ?_
      refine e_K ?_ F
      rintro r h' ⟨r6, I5, rfl, rfl, F⟩
      refine e_60 (f_97 (pc := 27) (e := (27, 60, 46, 0, 0, 0, 0, 30)) rfl) (fun c7 => ?_) (fun c7 => ?_)
      · replace F := F.1 c7
        exact e_122 (f_97 (pc := 46) (e := (46, 122, 0, 0, 0, 0, 0, 0)) rfl) F
      · replace F := F.2 c7
        refine e_12 (f_97 (pc := 30) (e := (30, 12, 0, 0, 0, 0, 0, 31)) rfl) rfl ?_
        refine e_90r zA (f_97 (pc := 31) (e := (31, 90, 7, 2, 3, 12, 978, 34)) rfl) rfl (hT 67 rfl) rfl rfl (hR 67 2 rfl) ?_
        refine e_90r zA (f_97 (pc := 34) (e := (34, 90, 5, 10, 3, 119, 990, 37)) rfl) rfl (hT 68 rfl) rfl rfl (hR 68 10 rfl) ?_
        refine e_10 (f_97 (pc := 37) (e := (37, 10, 1, 0, 0, 0, 0, 38)) rfl) rfl ?_
        refine e_12 (f_97 (pc := 38) (e := (38, 12, 0, 0, 0, 0, 0, 39)) rfl) rfl ?_
        refine e_90r zA (f_97 (pc := 39) (e := (39, 90, 7, 2, 3, 12, 978, 42)) rfl) rfl (hT 67 rfl) rfl rfl (hR 67 2 rfl) ?_
        refine e_90 zA (f_97 (pc := 42) (e := (42, 90, 5, 0, 0, 97, 988, 45)) rfl) rfl (hT 68 rfl) rfl rfl ?_
        obtain ⟨b8, b9, F⟩ := F
        refine e_111 (f_97 (pc := 45) (e := (45, 111, 0, 0, 0, 0, 0, 46)) rfl) rfl (hT 78 rfl) b8 b9 ?_
        replace F := F _ rfl
        exact e_122 (f_97 (pc := 46) (e := (46, 122, 0, 0, 0, 0, 0, 0)) rfl) F

/-! ChairAlley$Walk.noteTurn(II)V -/
set_option maxRecDepth 20000 in
theorem B_98_0 (hT : yLT T) (hR : yLR R) {x1 x2 : Int} (F : (x1 < 0 → K none (N, T, R, I)) ∧ (¬ (x1 < 0) → (8 ≤ x1 → K none (N, T, R, I)) ∧ (¬ (8 ≤ x1) → 0 ≤ x1 ∧ x1 < 8 ∧ (∀ I5, I5 = yU I 82 x1.toNat (ynar 1 x2) → (K none (N, T, R, I5)))))) :
    yW l zSS D cy zFk z d 98 bc bs K 0 0 0 [(0, yr (some 67)), (1, yi x1), (2, yi x2)] [] (N, T, R, I) := by
  refine e_10 (f_98 (pc := 0) (e := (0, 10, 1, 0, 0, 0, 0, 1)) rfl) rfl ?_
  refine e_62 (f_98 (pc := 1) (e := (1, 62, 17, 0, 0, 0, 0, 4)) rfl) (fun c1 => ?_) (fun c1 => ?_)
  · replace F := F.1 c1
    exact e_122 (f_98 (pc := 17) (e := (17, 122, 0, 0, 0, 0, 0, 0)) rfl) F
  · replace F := F.2 c1
    refine e_10 (f_98 (pc := 4) (e := (4, 10, 1, 0, 0, 0, 0, 5)) rfl) rfl ?_
    refine e_1 (f_98 (pc := 5) (e := (5, 1, 8, 0, 0, 0, 0, 7)) rfl) (v := 8) rfl ?_
    refine e_73 (f_98 (pc := 7) (e := (7, 73, 17, 0, 0, 0, 0, 10)) rfl) (fun c2 => ?_) (fun c2 => ?_)
    · replace F := F.1 c2
      exact e_122 (f_98 (pc := 17) (e := (17, 122, 0, 0, 0, 0, 0, 0)) rfl) F
    · replace F := F.2 c2
      refine e_12 (f_98 (pc := 10) (e := (10, 12, 0, 0, 0, 0, 0, 11)) rfl) rfl ?_
      refine e_90r zA (f_98 (pc := 11) (e := (11, 90, 7, 4, 3, 22, 980, 14)) rfl) rfl (hT 67 rfl) rfl rfl (hR 67 4 rfl) ?_
      refine e_10 (f_98 (pc := 14) (e := (14, 10, 1, 0, 0, 0, 0, 15)) rfl) rfl ?_
      refine e_10 (f_98 (pc := 15) (e := (15, 10, 2, 0, 0, 0, 0, 16)) rfl) rfl ?_
      obtain ⟨b3, b4, F⟩ := F
      refine e_111 (f_98 (pc := 16) (e := (16, 111, 0, 0, 0, 0, 0, 17)) rfl) rfl (hT 82 rfl) b3 b4 ?_
      replace F := F _ rfl
      exact e_122 (f_98 (pc := 17) (e := (17, 122, 0, 0, 0, 0, 0, 0)) rfl) F

/-! ChairAlley$Walk.pushBack(I)V -/
set_option maxRecDepth 20000 in
theorem B_99_0 (hT : yLT T) (hR : yLR R) {x1 : Int} (F : (x1 < 0 → K none (N, T, R, I)) ∧ (¬ (x1 < 0) → (x1 < 8 → 0 ≤ x1 ∧ x1 < 8 ∧ (∀ I5, I5 = yU I 84 x1.toNat (ynar 3 1) → (0 ≤ x1 ∧ x1 < 8 ∧ (0 ≤ x1 ∧ x1 < 8 ∧ (∀ I10, I10 = yU I5 75 x1.toNat (ynar 1 (yadd (I5 75 x1.toNat) 1)) → (0 ≤ x1 ∧ x1 < 8 ∧ (0 ≤ x1 ∧ x1 < 8 ∧ (∀ I15, I15 = yU I10 72 x1.toNat (ynar 1 (I10 73 x1.toNat)) → (0 ≤ x1 ∧ x1 < 8 ∧ (∀ I18, I18 = yU I15 73 x1.toNat (ynar 1 (-1)) → (yW l zSS D cy zFk z d 97 0 0 (fun r h' => ∃ I19, r = none ∧ h' = (N, T, R, I19) ∧ (K none (N, T, R, I19))) 0 0 0 [(0, yr (some 67)), (1, yi x1)] [] (N, T, R, I18)))))))))))) ∧ (¬ (x1 < 8) → K none (N, T, R, I)))) :
    yW l zSS D cy zFk z (d + 1) 99 bc bs K 0 0 0 [(0, yr (some 67)), (1, yi x1)] [] (N, T, R, I) := by
  refine e_10 (f_99 (pc := 0) (e := (0, 10, 1, 0, 0, 0, 0, 1)) rfl) rfl ?_
  refine e_62 (f_99 (pc := 1) (e := (1, 62, 10, 0, 0, 0, 0, 4)) rfl) (fun c1 => ?_) (fun c1 => ?_)
  · replace F := F.1 c1
    exact e_122 (f_99 (pc := 10) (e := (10, 122, 0, 0, 0, 0, 0, 11)) rfl) F
  · replace F := F.2 c1
    refine e_10 (f_99 (pc := 4) (e := (4, 10, 1, 0, 0, 0, 0, 5)) rfl) rfl ?_
    refine e_1 (f_99 (pc := 5) (e := (5, 1, 8, 0, 0, 0, 0, 7)) rfl) (v := 8) rfl ?_
    refine e_72 (f_99 (pc := 7) (e := (7, 72, 11, 0, 0, 0, 0, 10)) rfl) (fun c2 => ?_) (fun c2 => ?_)
    · replace F := F.1 c2
      refine e_12 (f_99 (pc := 11) (e := (11, 12, 0, 0, 0, 0, 0, 12)) rfl) rfl ?_
      refine e_90r zA (f_99 (pc := 12) (e := (12, 90, 7, 6, 3, 29, 982, 15)) rfl) rfl (hT 67 rfl) rfl rfl (hR 67 6 rfl) ?_
      refine e_10 (f_99 (pc := 15) (e := (15, 10, 1, 0, 0, 0, 0, 16)) rfl) rfl ?_
      refine e_0 (f_99 (pc := 16) (e := (16, 0, 1, 0, 0, 0, 0, 17)) rfl) (v := 1) rfl ?_
      obtain ⟨b3, b4, F⟩ := F
      refine e_113 (f_99 (pc := 17) (e := (17, 113, 0, 0, 0, 0, 0, 18)) rfl) rfl (hT 84 rfl) b3 b4 (.inr rfl) ?_
      replace F := F _ rfl
      refine e_12 (f_99 (pc := 18) (e := (18, 12, 0, 0, 0, 0, 0, 19)) rfl) rfl ?_
      refine e_90r zA (f_99 (pc := 19) (e := (19, 90, 7, 2, 3, 12, 978, 22)) rfl) rfl (hT 67 rfl) rfl rfl (hR 67 2 rfl) ?_
      refine e_90r zA (f_99 (pc := 22) (e := (22, 90, 5, 7, 3, 150, 1026, 25)) rfl) rfl (hT 68 rfl) rfl rfl (hR 68 7 rfl) ?_
      refine e_10 (f_99 (pc := 25) (e := (25, 10, 1, 0, 0, 0, 0, 26)) rfl) rfl ?_
      refine e_51 (f_99 (pc := 26) (e := (26, 51, 0, 0, 0, 0, 0, 27)) rfl) rfl rfl ?_
      obtain ⟨b6, b7, F⟩ := F
      refine e_110 (f_99 (pc := 27) (e := (27, 110, 0, 0, 0, 0, 0, 28)) rfl) rfl (hT 75 rfl) b6 b7 ?_
      refine e_0 (f_99 (pc := 28) (e := (28, 0, 1, 0, 0, 0, 0, 29)) rfl) (v := 1) rfl ?_
      refine e_30 (f_99 (pc := 29) (e := (29, 30, 0, 0, 0, 0, 0, 30)) rfl) ?_
      obtain ⟨b8, b9, F⟩ := F
      refine e_111 (f_99 (pc := 30) (e := (30, 111, 0, 0, 0, 0, 0, 31)) rfl) rfl (hT 75 rfl) b8 b9 ?_
      replace F := F _ rfl
      refine e_12 (f_99 (pc := 31) (e := (31, 12, 0, 0, 0, 0, 0, 32)) rfl) rfl ?_
      refine e_90r zA (f_99 (pc := 32) (e := (32, 90, 7, 2, 3, 12, 978, 35)) rfl) rfl (hT 67 rfl) rfl rfl (hR 67 2 rfl) ?_
      refine e_90r zA (f_99 (pc := 35) (e := (35, 90, 5, 4, 3, 100, 987, 38)) rfl) rfl (hT 68 rfl) rfl rfl (hR 68 4 rfl) ?_
      refine e_10 (f_99 (pc := 38) (e := (38, 10, 1, 0, 0, 0, 0, 39)) rfl) rfl ?_
      refine e_12 (f_99 (pc := 39) (e := (39, 12, 0, 0, 0, 0, 0, 40)) rfl) rfl ?_
      refine e_90r zA (f_99 (pc := 40) (e := (40, 90, 7, 2, 3, 12, 978, 43)) rfl) rfl (hT 67 rfl) rfl rfl (hR 67 2 rfl) ?_
      refine e_90r zA (f_99 (pc := 43) (e := (43, 90, 5, 5, 3, 113, 1001, 46)) rfl) rfl (hT 68 rfl) rfl rfl (hR 68 5 rfl) ?_
      refine e_10 (f_99 (pc := 46) (e := (46, 10, 1, 0, 0, 0, 0, 47)) rfl) rfl ?_
      obtain ⟨b11, b12, F⟩ := F
      refine e_110 (f_99 (pc := 47) (e := (47, 110, 0, 0, 0, 0, 0, 48)) rfl) rfl (hT 73 rfl) b11 b12 ?_
      obtain ⟨b13, b14, F⟩ := F
      refine e_111 (f_99 (pc := 48) (e := (48, 111, 0, 0, 0, 0, 0, 49)) rfl) rfl (hT 72 rfl) b13 b14 ?_
      replace F := F _ rfl
      refine e_12 (f_99 (pc := 49) (e := (49, 12, 0, 0, 0, 0, 0, 50)) rfl) rfl ?_
      refine e_90r zA (f_99 (pc := 50) (e := (50, 90, 7, 2, 3, 12, 978, 53)) rfl) rfl (hT 67 rfl) rfl rfl (hR 67 2 rfl) ?_
      refine e_90r zA (f_99 (pc := 53) (e := (53, 90, 5, 5, 3, 113, 1001, 56)) rfl) rfl (hT 68 rfl) rfl rfl (hR 68 5 rfl) ?_
      refine e_10 (f_99 (pc := 56) (e := (56, 10, 1, 0, 0, 0, 0, 57)) rfl) rfl ?_
      refine e_0 (f_99 (pc := 57) (e := (57, 0, 4294967295, 0, 0, 0, 0, 58)) rfl) (v := (-1)) rfl ?_
      obtain ⟨b16, b17, F⟩ := F
      refine e_111 (f_99 (pc := 58) (e := (58, 111, 0, 0, 0, 0, 0, 59)) rfl) rfl (hT 73 rfl) b16 b17 ?_
      replace F := F _ rfl
      refine e_12 (f_99 (pc := 59) (e := (59, 12, 0, 0, 0, 0, 0, 60)) rfl) rfl ?_
      refine e_10 (f_99 (pc := 60) (e := (60, 10, 1, 0, 0, 0, 0, 61)) rfl) rfl ?_
      refine e_130 (f_99 (pc := 61) (e := (61, 130, 97, 0, 7, 153, 1027, 64)) rfl) zA (as := [yr (some 67), yi x1]) (rest := []) rfl rfl rfl rfl (Nat.le_of_ble_eq_true rfl) (Nat.le_of_ble_eq_true rfl) ⟨_, _, _, rfl, (hT 67 rfl)⟩ (mc := 0) (ms := 0) (Nat.zero_le _) (Nat.zero_le _) ?_
      refine e_K ?_ F
      rintro r h' ⟨I19, rfl, rfl, F⟩
      exact e_122 (f_99 (pc := 64) (e := (64, 122, 0, 0, 0, 0, 0, 0)) rfl) F
    · replace F := F.2 c2
      exact e_122 (f_99 (pc := 10) (e := (10, 122, 0, 0, 0, 0, 0, 11)) rfl) F

/-! ChairAlley$Walk.sortByPrecedence()V -/
set_option maxRecDepth 20000 in
theorem B_100_0 (hT : yLT T) (hR : yLR R) (F : yW l zSS D cy zFk z d 100 bc bs K 0 0 2 [(0, yr (some 67)), (1, yi 0)] [] (N, T, R, I)) :
    yW l zSS D cy zFk z d 100 bc bs K 0 0 0 [(0, yr (some 67))] [] (N, T, R, I) := by
  refine e_0 (f_100 (pc := 0) (e := (0, 0, 0, 0, 0, 0, 0, 1)) rfl) (v := 0) rfl ?_
  refine e_20 (f_100 (pc := 1) (e := (1, 20, 1, 0, 0, 0, 0, 2)) rfl) ?_
  refine e_lo [0, 1] rfl ?_
  exact F
set_option maxRecDepth 20000 in
theorem B_100_2 (hT : yLT T) (hR : yLR R) {x1 : Int} (F : ((I 4 5) ≤ x1 → K none (N, T, R, I)) ∧ (¬ ((I 4 5) ≤ x1) → (8 ≤ x1 → K none (N, T, R, I)) ∧ (¬ (8 ≤ x1) → yW l zSS D cy zFk z d 66 0 0 (fun r h' => ∃ r4 I3, r = some (yj r4) ∧ h' = (N, T, R, I3) ∧ (yW l zSS D cy zFk z (d + 1) 100 bc bs K 0 0 35 [(0, yr (some 67)), (1, yi x1), (2, yj r4), (4, yi x1)] [] (N, T, R, I3))) 0 0 0 [(0, yr (some 68)), (1, yr (some 4)), (2, yi x1)] [] (N, T, R, I)))) :
    yW l zSS D cy zFk z (d + 1) 100 bc bs K 0 0 2 [(0, yr (some 67)), (1, yi x1)] [] (N, T, R, I) := by
  refine e_10 (f_100 (pc := 2) (e := (2, 10, 1, 0, 0, 0, 0, 3)) rfl) rfl ?_
  refine e_12 (f_100 (pc := 3) (e := (3, 12, 0, 0, 0, 0, 0, 4)) rfl) rfl ?_
  refine e_90r zA (f_100 (pc := 4) (e := (4, 90, 7, 0, 3, 33, 983, 7)) rfl) rfl (hT 67 rfl) rfl rfl (hR 67 0 rfl) ?_
  refine e_90 zA (f_100 (pc := 7) (e := (7, 90, 1, 5, 0, 53, 1011, 10)) rfl) rfl (hT 4 rfl) rfl rfl ?_
  refine e_73 (f_100 (pc := 10) (e := (10, 73, 114, 0, 0, 0, 0, 13)) rfl) (fun c1 => ?_) (fun c1 => ?_)
  · replace F := F.1 c1
    exact e_122 (f_100 (pc := 114) (e := (114, 122, 0, 0, 0, 0, 0, 0)) rfl) F
  · replace F := F.2 c1
    refine e_10 (f_100 (pc := 13) (e := (13, 10, 1, 0, 0, 0, 0, 14)) rfl) rfl ?_
    refine e_1 (f_100 (pc := 14) (e := (14, 1, 8, 0, 0, 0, 0, 16)) rfl) (v := 8) rfl ?_
    refine e_73 (f_100 (pc := 16) (e := (16, 73, 114, 0, 0, 0, 0, 19)) rfl) (fun c2 => ?_) (fun c2 => ?_)
    · replace F := F.1 c2
      exact e_122 (f_100 (pc := 114) (e := (114, 122, 0, 0, 0, 0, 0, 0)) rfl) F
    · replace F := F.2 c2
      refine e_12 (f_100 (pc := 19) (e := (19, 12, 0, 0, 0, 0, 0, 20)) rfl) rfl ?_
      refine e_90r zA (f_100 (pc := 20) (e := (20, 90, 7, 2, 3, 12, 978, 23)) rfl) rfl (hT 67 rfl) rfl rfl (hR 67 2 rfl) ?_
      refine e_12 (f_100 (pc := 23) (e := (23, 12, 0, 0, 0, 0, 0, 24)) rfl) rfl ?_
      refine e_90r zA (f_100 (pc := 24) (e := (24, 90, 7, 0, 3, 33, 983, 27)) rfl) rfl (hT 67 rfl) rfl rfl (hR 67 0 rfl) ?_
      refine e_10 (f_100 (pc := 27) (e := (27, 10, 1, 0, 0, 0, 0, 28)) rfl) rfl ?_
      refine e_130 (f_100 (pc := 28) (e := (28, 130, 66, 0, 5, 72, 1028, 31)) rfl) zA (as := [yr (some 68), yr (some 4), yi x1]) (rest := []) rfl rfl rfl rfl (Nat.le_of_ble_eq_true rfl) (Nat.le_of_ble_eq_true rfl) ⟨_, _, _, rfl, (hT 68 rfl)⟩ (mc := 0) (ms := 0) (Nat.zero_le _) (Nat.zero_le _) ?_
      refine e_K ?_ F
      rintro r h' ⟨r4, I3, rfl, rfl, F⟩
      refine e_24 (f_100 (pc := 31) (e := (31, 24, 2, 0, 0, 0, 0, 32)) rfl) ?_
      refine e_10 (f_100 (pc := 32) (e := (32, 10, 1, 0, 0, 0, 0, 33)) rfl) rfl ?_
      refine e_21 (f_100 (pc := 33) (e := (33, 21, 4, 0, 0, 0, 0, 35)) rfl) ?_
      refine e_lo [0, 1, 2, 4] rfl ?_
      exact F
set_option maxRecDepth 20000 in
theorem B_100_35 (hT : yLT T) (hR : yLR R) {x1 x2 x4 : Int} (F : (x4 ≤ 0 → 0 ≤ x4 ∧ x4 < 8 ∧ (∀ I4, I4 = yU I 83 x4.toNat x2 → (0 ≤ x4 ∧ x4 < 8 ∧ (∀ I7, I7 = yU I4 81 x4.toNat (ynar 1 x1) → (yW l zSS D cy zFk z d 100 bc bs K 0 0 2 [(0, yr (some 67)), (1, yi (yadd x1 1))] [] (N, T, R, I7)))))) ∧ (¬ (x4 ≤ 0) → 0 ≤ (ysub x4 1) ∧ (ysub x4 1) < 8 ∧ ((0 ≤ (ylcmp (I 83 (ysub x4 1).toNat) x2) → 0 ≤ x4 ∧ x4 < 8 ∧ (∀ I13, I13 = yU I 83 x4.toNat x2 → (0 ≤ x4 ∧ x4 < 8 ∧ (∀ I16, I16 = yU I13 81 x4.toNat (ynar 1 x1) → (yW l zSS D cy zFk z d 100 bc bs K 0 0 2 [(0, yr (some 67)), (1, yi (yadd x1 1))] [] (N, T, R, I16)))))) ∧ (¬ (0 ≤ (ylcmp (I 83 (ysub x4 1).toNat) x2)) → 0 ≤ (ysub x4 1) ∧ (ysub x4 1) < 8 ∧ (0 ≤ x4 ∧ x4 < 8 ∧ (∀ I21, I21 = yU I 83 x4.toNat (I 83 (ysub x4 1).toNat) → (0 ≤ (ysub x4 1) ∧ (ysub x4 1) < 8 ∧ (0 ≤ x4 ∧ x4 < 8 ∧ (∀ I26, I26 = yU I21 81 x4.toNat (ynar 1 (I21 81 (ysub x4 1).toNat)) → (yW l zSS D cy zFk z d 100 bc bs K 0 0 35 [(0, yr (some 67)), (1, yi x1), (2, yj x2), (4, yi (yadd x4 (-1)))] [] (N, T, R, I26))))))))))) :
    yW l zSS D cy zFk z d 100 bc bs K 0 0 35 [(0, yr (some 67)), (1, yi x1), (2, yj x2), (4, yi x4)] [] (N, T, R, I) := by
  refine e_11 (f_100 (pc := 35) (e := (35, 11, 4, 0, 0, 0, 0, 37)) rfl) rfl ?_
  refine e_65 (f_100 (pc := 37) (e := (37, 65, 92, 0, 0, 0, 0, 40)) rfl) (fun c1 => ?_) (fun c1 => ?_)
  · replace F := F.1 c1
    refine e_12 (f_100 (pc := 92) (e := (92, 12, 0, 0, 0, 0, 0, 93)) rfl) rfl ?_
    refine e_90r zA (f_100 (pc := 93) (e := (93, 90, 7, 5, 3, 25, 981, 96)) rfl) rfl (hT 67 rfl) rfl rfl (hR 67 5 rfl) ?_
    refine e_11 (f_100 (pc := 96) (e := (96, 11, 4, 0, 0, 0, 0, 98)) rfl) rfl ?_
    refine e_14 (f_100 (pc := 98) (e := (98, 14, 2, 0, 0, 0, 0, 99)) rfl) rfl ?_
    obtain ⟨b2, b3, F⟩ := F
    refine e_115 (f_100 (pc := 99) (e := (99, 115, 0, 0, 0, 0, 0, 100)) rfl) rfl (hT 83 rfl) b2 b3 ?_
    replace F := F _ rfl
    refine e_12 (f_100 (pc := 100) (e := (100, 12, 0, 0, 0, 0, 0, 101)) rfl) rfl ?_
    refine e_90r zA (f_100 (pc := 101) (e := (101, 90, 7, 3, 3, 18, 979, 104)) rfl) rfl (hT 67 rfl) rfl rfl (hR 67 3 rfl) ?_
    refine e_11 (f_100 (pc := 104) (e := (104, 11, 4, 0, 0, 0, 0, 106)) rfl) rfl ?_
    refine e_10 (f_100 (pc := 106) (e := (106, 10, 1, 0, 0, 0, 0, 107)) rfl) rfl ?_
    obtain ⟨b5, b6, F⟩ := F
    refine e_111 (f_100 (pc := 107) (e := (107, 111, 0, 0, 0, 0, 0, 108)) rfl) rfl (hT 81 rfl) b5 b6 ?_
    replace F := F _ rfl
    refine e_26 (f_100 (pc := 108) (e := (108, 26, 1, 1, 0, 0, 0, 111)) rfl) (w := 1) rfl rfl ?_
    refine e_80 (f_100 (pc := 111) (e := (111, 80, 2, 0, 0, 0, 0, 114)) rfl) ?_
    refine e_lo [0, 1] rfl ?_
    exact F
  · replace F := F.2 c1
    refine e_12 (f_100 (pc := 40) (e := (40, 12, 0, 0, 0, 0, 0, 41)) rfl) rfl ?_
    refine e_90r zA (f_100 (pc := 41) (e := (41, 90, 7, 5, 3, 25, 981, 44)) rfl) rfl (hT 67 rfl) rfl rfl (hR 67 5 rfl) ?_
    refine e_11 (f_100 (pc := 44) (e := (44, 11, 4, 0, 0, 0, 0, 46)) rfl) rfl ?_
    refine e_0 (f_100 (pc := 46) (e := (46, 0, 1, 0, 0, 0, 0, 47)) rfl) (v := 1) rfl ?_
    refine e_31 (f_100 (pc := 47) (e := (47, 31, 0, 0, 0, 0, 0, 48)) rfl) ?_
    obtain ⟨b8, b9, F⟩ := F
    refine e_114 (f_100 (pc := 48) (e := (48, 114, 0, 0, 0, 0, 0, 49)) rfl) rfl (hT 83 rfl) b8 b9 ?_
    refine e_14 (f_100 (pc := 49) (e := (49, 14, 2, 0, 0, 0, 0, 50)) rfl) rfl ?_
    refine e_55 (f_100 (pc := 50) (e := (50, 55, 0, 0, 0, 0, 0, 51)) rfl) ?_
    refine e_63 (f_100 (pc := 51) (e := (51, 63, 92, 0, 0, 0, 0, 54)) rfl) (fun c10 => ?_) (fun c10 => ?_)
    · replace F := F.1 c10
      refine e_12 (f_100 (pc := 92) (e := (92, 12, 0, 0, 0, 0, 0, 93)) rfl) rfl ?_
      refine e_90r zA (f_100 (pc := 93) (e := (93, 90, 7, 5, 3, 25, 981, 96)) rfl) rfl (hT 67 rfl) rfl rfl (hR 67 5 rfl) ?_
      refine e_11 (f_100 (pc := 96) (e := (96, 11, 4, 0, 0, 0, 0, 98)) rfl) rfl ?_
      refine e_14 (f_100 (pc := 98) (e := (98, 14, 2, 0, 0, 0, 0, 99)) rfl) rfl ?_
      obtain ⟨b11, b12, F⟩ := F
      refine e_115 (f_100 (pc := 99) (e := (99, 115, 0, 0, 0, 0, 0, 100)) rfl) rfl (hT 83 rfl) b11 b12 ?_
      replace F := F _ rfl
      refine e_12 (f_100 (pc := 100) (e := (100, 12, 0, 0, 0, 0, 0, 101)) rfl) rfl ?_
      refine e_90r zA (f_100 (pc := 101) (e := (101, 90, 7, 3, 3, 18, 979, 104)) rfl) rfl (hT 67 rfl) rfl rfl (hR 67 3 rfl) ?_
      refine e_11 (f_100 (pc := 104) (e := (104, 11, 4, 0, 0, 0, 0, 106)) rfl) rfl ?_
      refine e_10 (f_100 (pc := 106) (e := (106, 10, 1, 0, 0, 0, 0, 107)) rfl) rfl ?_
      obtain ⟨b14, b15, F⟩ := F
      refine e_111 (f_100 (pc := 107) (e := (107, 111, 0, 0, 0, 0, 0, 108)) rfl) rfl (hT 81 rfl) b14 b15 ?_
      replace F := F _ rfl
      refine e_26 (f_100 (pc := 108) (e := (108, 26, 1, 1, 0, 0, 0, 111)) rfl) (w := 1) rfl rfl ?_
      refine e_80 (f_100 (pc := 111) (e := (111, 80, 2, 0, 0, 0, 0, 114)) rfl) ?_
      refine e_lo [0, 1] rfl ?_
      exact F
    · replace F := F.2 c10
      refine e_12 (f_100 (pc := 54) (e := (54, 12, 0, 0, 0, 0, 0, 55)) rfl) rfl ?_
      refine e_90r zA (f_100 (pc := 55) (e := (55, 90, 7, 5, 3, 25, 981, 58)) rfl) rfl (hT 67 rfl) rfl rfl (hR 67 5 rfl) ?_
      refine e_11 (f_100 (pc := 58) (e := (58, 11, 4, 0, 0, 0, 0, 60)) rfl) rfl ?_
      refine e_12 (f_100 (pc := 60) (e := (60, 12, 0, 0, 0, 0, 0, 61)) rfl) rfl ?_
      refine e_90r zA (f_100 (pc := 61) (e := (61, 90, 7, 5, 3, 25, 981, 64)) rfl) rfl (hT 67 rfl) rfl rfl (hR 67 5 rfl) ?_
      refine e_11 (f_100 (pc := 64) (e := (64, 11, 4, 0, 0, 0, 0, 66)) rfl) rfl ?_
      refine e_0 (f_100 (pc := 66) (e := (66, 0, 1, 0, 0, 0, 0, 67)) rfl) (v := 1) rfl ?_
      refine e_31 (f_100 (pc := 67) (e := (67, 31, 0, 0, 0, 0, 0, 68)) rfl) ?_
      obtain ⟨b17, b18, F⟩ := F
      refine e_114 (f_100 (pc := 68) (e := (68, 114, 0, 0, 0, 0, 0, 69)) rfl) rfl (hT 83 rfl) b17 b18 ?_
      obtain ⟨b19, b20, F⟩ := F
      refine e_115 (f_100 (pc := 69) (e := (69, 115, 0, 0, 0, 0, 0, 70)) rfl) rfl (hT 83 rfl) b19 b20 ?_
      replace F := F _ rfl
      refine e_12 (f_100 (pc := 70) (e := (70, 12, 0, 0, 0, 0, 0, 71)) rfl) rfl ?_
      refine e_90r zA (f_100 (pc := 71) (e := (71, 90, 7, 3, 3, 18, 979, 74)) rfl) rfl (hT 67 rfl) rfl rfl (hR 67 3 rfl) ?_
      refine e_11 (f_100 (pc := 74) (e := (74, 11, 4, 0, 0, 0, 0, 76)) rfl) rfl ?_
      refine e_12 (f_100 (pc := 76) (e := (76, 12, 0, 0, 0, 0, 0, 77)) rfl) rfl ?_
      refine e_90r zA (f_100 (pc := 77) (e := (77, 90, 7, 3, 3, 18, 979, 80)) rfl) rfl (hT 67 rfl) rfl rfl (hR 67 3 rfl) ?_
      refine e_11 (f_100 (pc := 80) (e := (80, 11, 4, 0, 0, 0, 0, 82)) rfl) rfl ?_
      refine e_0 (f_100 (pc := 82) (e := (82, 0, 1, 0, 0, 0, 0, 83)) rfl) (v := 1) rfl ?_
      refine e_31 (f_100 (pc := 83) (e := (83, 31, 0, 0, 0, 0, 0, 84)) rfl) ?_
      obtain ⟨b22, b23, F⟩ := F
      refine e_110 (f_100 (pc := 84) (e := (84, 110, 0, 0, 0, 0, 0, 85)) rfl) rfl (hT 81 rfl) b22 b23 ?_
      obtain ⟨b24, b25, F⟩ := F
      refine e_111 (f_100 (pc := 85) (e := (85, 111, 0, 0, 0, 0, 0, 86)) rfl) rfl (hT 81 rfl) b24 b25 ?_
      replace F := F _ rfl
      refine e_26 (f_100 (pc := 86) (e := (86, 26, 4, 4294967295, 0, 0, 0, 89)) rfl) (w := (-1)) rfl rfl ?_
      refine e_80 (f_100 (pc := 89) (e := (89, 80, 35, 0, 0, 0, 0, 92)) rfl) ?_
      refine e_lo [0, 1, 2, 4] rfl ?_
      exact F

/-! ChairAlley$Walk.stepTo(II)V -/
set_option maxRecDepth 20000 in
theorem B_101_0 (hT : yLT T) (hR : yLR R) {x1 x2 : Int} (F : (x1 < 0 → K none (N, T, R, I)) ∧ (¬ (x1 < 0) → (x1 < 8 → ∀ I3, I3 = yU I 67 7 0 → (0 ≤ x1 ∧ x1 < 8 ∧ (0 ≤ x1 ∧ x1 < 8 ∧ (∀ I8, I8 = yU I3 74 x1.toNat (ynar 1 (yadd (I3 74 x1.toNat) 1)) → (0 ≤ x1 ∧ x1 < 8 ∧ (0 ≤ x1 ∧ x1 < 8 ∧ (∀ I13, I13 = yU I8 73 x1.toNat (ynar 1 (I8 72 x1.toNat)) → (0 ≤ x1 ∧ x1 < 8 ∧ (∀ I16, I16 = yU I13 72 x1.toNat (ynar 1 x2) → (yW l zSS D cy zFk z d 97 0 0 (fun r h' => ∃ I17, r = none ∧ h' = (N, T, R, I17) ∧ (K none (N, T, R, I17))) 0 0 0 [(0, yr (some 67)), (1, yi x1)] [] (N, T, R, I16))))))))))) ∧ (¬ (x1 < 8) → K none (N, T, R, I)))) :
    yW l zSS D cy zFk z (d + 1) 101 bc bs K 0 0 0 [(0, yr (some 67)), (1, yi x1), (2, yi x2)] [] (N, T, R, I) := by
  refine e_10 (f_101 (pc := 0) (e := (0, 10, 1, 0, 0, 0, 0, 1)) rfl) rfl ?_
  refine e_62 (f_101 (pc := 1) (e := (1, 62, 10, 0, 0, 0, 0, 4)) rfl) (fun c1 => ?_) (fun c1 => ?_)
  · replace F := F.1 c1
    exact e_122 (f_101 (pc := 10) (e := (10, 122, 0, 0, 0, 0, 0, 11)) rfl) F
  · replace F := F.2 c1
    refine e_10 (f_101 (pc := 4) (e := (4, 10, 1, 0, 0, 0, 0, 5)) rfl) rfl ?_
    refine e_1 (f_101 (pc := 5) (e := (5, 1, 8, 0, 0, 0, 0, 7)) rfl) (v := 8) rfl ?_
    refine e_72 (f_101 (pc := 7) (e := (7, 72, 11, 0, 0, 0, 0, 10)) rfl) (fun c2 => ?_) (fun c2 => ?_)
    · replace F := F.1 c2
      refine e_12 (f_101 (pc := 11) (e := (11, 12, 0, 0, 0, 0, 0, 12)) rfl) rfl ?_
      refine e_0 (f_101 (pc := 12) (e := (12, 0, 0, 0, 0, 0, 0, 13)) rfl) (v := 0) rfl ?_
      refine e_91 zA (f_101 (pc := 13) (e := (13, 91, 7, 7, 2, 76, 991, 16)) rfl) rfl (hT 67 rfl) rfl rfl (.inl rfl) ?_
      replace F := F _ rfl
      refine e_12 (f_101 (pc := 16) (e := (16, 12, 0, 0, 0, 0, 0, 17)) rfl) rfl ?_
      refine e_90r zA (f_101 (pc := 17) (e := (17, 90, 7, 2, 3, 12, 978, 20)) rfl) rfl (hT 67 rfl) rfl rfl (hR 67 2 rfl) ?_
      refine e_90r zA (f_101 (pc := 20) (e := (20, 90, 5, 6, 3, 156, 1009, 23)) rfl) rfl (hT 68 rfl) rfl rfl (hR 68 6 rfl) ?_
      refine e_10 (f_101 (pc := 23) (e := (23, 10, 1, 0, 0, 0, 0, 24)) rfl) rfl ?_
      refine e_51 (f_101 (pc := 24) (e := (24, 51, 0, 0, 0, 0, 0, 25)) rfl) rfl rfl ?_
      obtain ⟨b4, b5, F⟩ := F
      refine e_110 (f_101 (pc := 25) (e := (25, 110, 0, 0, 0, 0, 0, 26)) rfl) rfl (hT 74 rfl) b4 b5 ?_
      refine e_0 (f_101 (pc := 26) (e := (26, 0, 1, 0, 0, 0, 0, 27)) rfl) (v := 1) rfl ?_
      refine e_30 (f_101 (pc := 27) (e := (27, 30, 0, 0, 0, 0, 0, 28)) rfl) ?_
      obtain ⟨b6, b7, F⟩ := F
      refine e_111 (f_101 (pc := 28) (e := (28, 111, 0, 0, 0, 0, 0, 29)) rfl) rfl (hT 74 rfl) b6 b7 ?_
      replace F := F _ rfl
      refine e_12 (f_101 (pc := 29) (e := (29, 12, 0, 0, 0, 0, 0, 30)) rfl) rfl ?_
      refine e_90r zA (f_101 (pc := 30) (e := (30, 90, 7, 2, 3, 12, 978, 33)) rfl) rfl (hT 67 rfl) rfl rfl (hR 67 2 rfl) ?_
      refine e_90r zA (f_101 (pc := 33) (e := (33, 90, 5, 5, 3, 113, 1001, 36)) rfl) rfl (hT 68 rfl) rfl rfl (hR 68 5 rfl) ?_
      refine e_10 (f_101 (pc := 36) (e := (36, 10, 1, 0, 0, 0, 0, 37)) rfl) rfl ?_
      refine e_12 (f_101 (pc := 37) (e := (37, 12, 0, 0, 0, 0, 0, 38)) rfl) rfl ?_
      refine e_90r zA (f_101 (pc := 38) (e := (38, 90, 7, 2, 3, 12, 978, 41)) rfl) rfl (hT 67 rfl) rfl rfl (hR 67 2 rfl) ?_
      refine e_90r zA (f_101 (pc := 41) (e := (41, 90, 5, 4, 3, 100, 987, 44)) rfl) rfl (hT 68 rfl) rfl rfl (hR 68 4 rfl) ?_
      refine e_10 (f_101 (pc := 44) (e := (44, 10, 1, 0, 0, 0, 0, 45)) rfl) rfl ?_
      obtain ⟨b9, b10, F⟩ := F
      refine e_110 (f_101 (pc := 45) (e := (45, 110, 0, 0, 0, 0, 0, 46)) rfl) rfl (hT 72 rfl) b9 b10 ?_
      obtain ⟨b11, b12, F⟩ := F
      refine e_111 (f_101 (pc := 46) (e := (46, 111, 0, 0, 0, 0, 0, 47)) rfl) rfl (hT 73 rfl) b11 b12 ?_
      replace F := F _ rfl
      refine e_12 (f_101 (pc := 47) (e := (47, 12, 0, 0, 0, 0, 0, 48)) rfl) rfl ?_
      refine e_90r zA (f_101 (pc := 48) (e := (48, 90, 7, 2, 3, 12, 978, 51)) rfl) rfl (hT 67 rfl) rfl rfl (hR 67 2 rfl) ?_
      refine e_90r zA (f_101 (pc := 51) (e := (51, 90, 5, 4, 3, 100, 987, 54)) rfl) rfl (hT 68 rfl) rfl rfl (hR 68 4 rfl) ?_
      refine e_10 (f_101 (pc := 54) (e := (54, 10, 1, 0, 0, 0, 0, 55)) rfl) rfl ?_
      refine e_10 (f_101 (pc := 55) (e := (55, 10, 2, 0, 0, 0, 0, 56)) rfl) rfl ?_
      obtain ⟨b14, b15, F⟩ := F
      refine e_111 (f_101 (pc := 56) (e := (56, 111, 0, 0, 0, 0, 0, 57)) rfl) rfl (hT 72 rfl) b14 b15 ?_
      replace F := F _ rfl
      refine e_12 (f_101 (pc := 57) (e := (57, 12, 0, 0, 0, 0, 0, 58)) rfl) rfl ?_
      refine e_10 (f_101 (pc := 58) (e := (58, 10, 1, 0, 0, 0, 0, 59)) rfl) rfl ?_
      refine e_130 (f_101 (pc := 59) (e := (59, 130, 97, 0, 7, 153, 1027, 62)) rfl) zA (as := [yr (some 67), yi x1]) (rest := []) rfl rfl rfl rfl (Nat.le_of_ble_eq_true rfl) (Nat.le_of_ble_eq_true rfl) ⟨_, _, _, rfl, (hT 67 rfl)⟩ (mc := 0) (ms := 0) (Nat.zero_le _) (Nat.zero_le _) ?_
      refine e_K ?_ F
      rintro r h' ⟨I17, rfl, rfl, F⟩
      exact e_122 (f_101 (pc := 62) (e := (62, 122, 0, 0, 0, 0, 0, 0)) rfl) F
    · replace F := F.2 c2
      exact e_122 (f_101 (pc := 10) (e := (10, 122, 0, 0, 0, 0, 0, 11)) rfl) F

/-! ChairAlley$Walk.takeOver(LChairAlley$State;)V -/
set_option maxRecDepth 20000 in
theorem B_102_0 (hT : yLT T) (hR : yLR R) (F : yW l zSS D cy zFk z d 62 0 0 (fun r h' => ∃ I1, r = none ∧ h' = (N, T, R, I1) ∧ (K none (N, T, R, I1))) 0 0 0 [(0, yr (some 68)), (1, yr (some 16))] [] (N, T, R, I)) :
    yW l zSS D cy zFk z (d + 1) 102 bc bs K 0 0 0 [(0, yr (some 67)), (1, yr (some 16))] [] (N, T, R, I) := by
  refine e_12 (f_102 (pc := 0) (e := (0, 12, 0, 0, 0, 0, 0, 1)) rfl) rfl ?_
  refine e_90r zA (f_102 (pc := 1) (e := (1, 90, 7, 2, 3, 12, 978, 4)) rfl) rfl (hT 67 rfl) rfl rfl (hR 67 2 rfl) ?_
  refine e_12 (f_102 (pc := 4) (e := (4, 12, 1, 0, 0, 0, 0, 5)) rfl) rfl ?_
  refine e_130 (f_102 (pc := 5) (e := (5, 130, 62, 0, 5, 46, 1029, 8)) rfl) zA (as := [yr (some 68), yr (some 16)]) (rest := []) rfl rfl rfl rfl (Nat.le_of_ble_eq_true rfl) (Nat.le_of_ble_eq_true rfl) ⟨_, _, _, rfl, (hT 68 rfl)⟩ (mc := 0) (ms := 0) (Nat.zero_le _) (Nat.zero_le _) ?_
  refine e_K ?_ F
  rintro r h' ⟨I1, rfl, rfl, F⟩
  exact e_122 (f_102 (pc := 8) (e := (8, 122, 0, 0, 0, 0, 0, 0)) rfl) F

/-! ChairAlley$Walk.takeOverAnew(LChairAlley$State;)V -/
set_option maxRecDepth 20000 in
theorem B_103_0 (hT : yLT T) (hR : yLR R) (F : yW l zSS D cy zFk z d 62 0 0 (fun r h' => ∃ I1, r = none ∧ h' = (N, T, R, I1) ∧ (yW l zSS D cy zFk z d 58 0 0 (fun r h' => ∃ I2, r = none ∧ h' = (N, T, R, I2) ∧ (K none (N, T, R, I2))) 0 0 0 [(0, yr (some 68))] [] (N, T, R, I1))) 0 0 0 [(0, yr (some 68)), (1, yr (some 16))] [] (N, T, R, I)) :
    yW l zSS D cy zFk z (d + 1) 103 bc bs K 0 0 0 [(0, yr (some 67)), (1, yr (some 16))] [] (N, T, R, I) := by
  refine e_12 (f_103 (pc := 0) (e := (0, 12, 0, 0, 0, 0, 0, 1)) rfl) rfl ?_
  refine e_90r zA (f_103 (pc := 1) (e := (1, 90, 7, 2, 3, 12, 978, 4)) rfl) rfl (hT 67 rfl) rfl rfl (hR 67 2 rfl) ?_
  refine e_12 (f_103 (pc := 4) (e := (4, 12, 1, 0, 0, 0, 0, 5)) rfl) rfl ?_
  refine e_130 (f_103 (pc := 5) (e := (5, 130, 62, 0, 5, 46, 1029, 8)) rfl) zA (as := [yr (some 68), yr (some 16)]) (rest := []) rfl rfl rfl rfl (Nat.le_of_ble_eq_true rfl) (Nat.le_of_ble_eq_true rfl) ⟨_, _, _, rfl, (hT 68 rfl)⟩ (mc := 0) (ms := 0) (Nat.zero_le _) (Nat.zero_le _) ?_
  refine e_K ?_ F
  rintro r h' ⟨I1, rfl, rfl, F⟩
  refine e_12 (f_103 (pc := 8) (e := (8, 12, 0, 0, 0, 0, 0, 9)) rfl) rfl ?_
  refine e_90r zA (f_103 (pc := 9) (e := (9, 90, 7, 2, 3, 12, 978, 12)) rfl) rfl (hT 67 rfl) rfl rfl (hR 67 2 rfl) ?_
  refine e_130 (f_103 (pc := 12) (e := (12, 130, 58, 0, 5, 50, 1030, 15)) rfl) zA (as := [yr (some 68)]) (rest := []) rfl rfl rfl rfl (Nat.le_of_ble_eq_true rfl) (Nat.le_of_ble_eq_true rfl) ⟨_, _, _, rfl, (hT 68 rfl)⟩ (mc := 0) (ms := 0) (Nat.zero_le _) (Nat.zero_le _) ?_
  refine e_K ?_ F
  rintro r h' ⟨I2, rfl, rfl, F⟩
  exact e_122 (f_103 (pc := 15) (e := (15, 122, 0, 0, 0, 0, 0, 0)) rfl) F

/-! ChairAlley$Walk.waitTill(I)V -/
set_option maxRecDepth 20000 in
theorem B_104_0 (hT : yLT T) (hR : yLR R) {x1 : Int} (F : yW l zSS D cy zFk z d 104 bc bs K 0 0 2 [(0, yr (some 67)), (1, yi x1), (2, yi 0)] [] (N, T, R, I)) :
    yW l zSS D cy zFk z d 104 bc bs K 0 0 0 [(0, yr (some 67)), (1, yi x1)] [] (N, T, R, I) := by
  refine e_0 (f_104 (pc := 0) (e := (0, 0, 0, 0, 0, 0, 0, 1)) rfl) (v := 0) rfl ?_
  refine e_20 (f_104 (pc := 1) (e := (1, 20, 2, 0, 0, 0, 0, 2)) rfl) ?_
  refine e_lo [0, 1, 2] rfl ?_
  exact F
set_option maxRecDepth 20000 in
theorem B_104_2 (hT : yLT T) (hR : yLR R) {x1 x2 : Int} (F : ((I 4 5) ≤ x2 → ∀ I2, I2 = yU I 68 0 x1 → (K none (N, T, R, I2))) ∧ (¬ ((I 4 5) ≤ x2) → (8 ≤ x2 → ∀ I4, I4 = yU I 68 0 x1 → (K none (N, T, R, I4))) ∧ (¬ (8 ≤ x2) → 0 ≤ x2 ∧ x2 < 8 ∧ (0 ≤ x2 ∧ x2 < 8 ∧ (((I 72 x2.toNat) ≠ (-1) → 0 ≤ x2 ∧ x2 < 8 ∧ (∀ I12, I12 = yU I 76 x2.toNat (ynar 1 (yadd (I 76 x2.toNat) (ysub x1 (I 68 0)))) → (yW l zSS D cy zFk z d 104 bc bs K 0 0 2 [(0, yr (some 67)), (1, yi x1), (2, yi (yadd x2 1))] [] (N, T, R, I12)))) ∧ (¬ ((I 72 x2.toNat) ≠ (-1)) → 0 ≤ x2 ∧ x2 < 8 ∧ (∀ I15, I15 = yU I 76 x2.toNat (ynar 1 (yadd (I 76 x2.toNat) 0)) → (yW l zSS D cy zFk z d 104 bc bs K 0 0 2 [(0, yr (some 67)), (1, yi x1), (2, yi (yadd x2 1))] [] (N, T, R, I15))))))))) :
    yW l zSS D cy zFk z d 104 bc bs K 0 0 2 [(0, yr (some 67)), (1, yi x1), (2, yi x2)] [] (N, T, R, I) := by
  refine e_10 (f_104 (pc := 2) (e := (2, 10, 2, 0, 0, 0, 0, 3)) rfl) rfl ?_
  refine e_12 (f_104 (pc := 3) (e := (3, 12, 0, 0, 0, 0, 0, 4)) rfl) rfl ?_
  refine e_90r zA (f_104 (pc := 4) (e := (4, 90, 7, 0, 3, 33, 983, 7)) rfl) rfl (hT 67 rfl) rfl rfl (hR 67 0 rfl) ?_
  refine e_90 zA (f_104 (pc := 7) (e := (7, 90, 1, 5, 0, 53, 1011, 10)) rfl) rfl (hT 4 rfl) rfl rfl ?_
  refine e_73 (f_104 (pc := 10) (e := (10, 73, 63, 0, 0, 0, 0, 13)) rfl) (fun c1 => ?_) (fun c1 => ?_)
  · replace F := F.1 c1
    refine e_12 (f_104 (pc := 63) (e := (63, 12, 0, 0, 0, 0, 0, 64)) rfl) rfl ?_
    refine e_90r zA (f_104 (pc := 64) (e := (64, 90, 7, 2, 3, 12, 978, 67)) rfl) rfl (hT 67 rfl) rfl rfl (hR 67 2 rfl) ?_
    refine e_10 (f_104 (pc := 67) (e := (67, 10, 1, 0, 0, 0, 0, 68)) rfl) rfl ?_
    refine e_91 zA (f_104 (pc := 68) (e := (68, 91, 5, 0, 0, 97, 988, 71)) rfl) rfl (hT 68 rfl) rfl rfl trivial ?_
    replace F := F _ rfl
    exact e_122 (f_104 (pc := 71) (e := (71, 122, 0, 0, 0, 0, 0, 0)) rfl) F
  · replace F := F.2 c1
    refine e_10 (f_104 (pc := 13) (e := (13, 10, 2, 0, 0, 0, 0, 14)) rfl) rfl ?_
    refine e_1 (f_104 (pc := 14) (e := (14, 1, 8, 0, 0, 0, 0, 16)) rfl) (v := 8) rfl ?_
    refine e_73 (f_104 (pc := 16) (e := (16, 73, 63, 0, 0, 0, 0, 19)) rfl) (fun c3 => ?_) (fun c3 => ?_)
    · replace F := F.1 c3
      refine e_12 (f_104 (pc := 63) (e := (63, 12, 0, 0, 0, 0, 0, 64)) rfl) rfl ?_
      refine e_90r zA (f_104 (pc := 64) (e := (64, 90, 7, 2, 3, 12, 978, 67)) rfl) rfl (hT 67 rfl) rfl rfl (hR 67 2 rfl) ?_
      refine e_10 (f_104 (pc := 67) (e := (67, 10, 1, 0, 0, 0, 0, 68)) rfl) rfl ?_
      refine e_91 zA (f_104 (pc := 68) (e := (68, 91, 5, 0, 0, 97, 988, 71)) rfl) rfl (hT 68 rfl) rfl rfl trivial ?_
      replace F := F _ rfl
      exact e_122 (f_104 (pc := 71) (e := (71, 122, 0, 0, 0, 0, 0, 0)) rfl) F
    · replace F := F.2 c3
      refine e_12 (f_104 (pc := 19) (e := (19, 12, 0, 0, 0, 0, 0, 20)) rfl) rfl ?_
      refine e_90r zA (f_104 (pc := 20) (e := (20, 90, 7, 2, 3, 12, 978, 23)) rfl) rfl (hT 67 rfl) rfl rfl (hR 67 2 rfl) ?_
      refine e_90r zA (f_104 (pc := 23) (e := (23, 90, 5, 8, 3, 144, 999, 26)) rfl) rfl (hT 68 rfl) rfl rfl (hR 68 8 rfl) ?_
      refine e_10 (f_104 (pc := 26) (e := (26, 10, 2, 0, 0, 0, 0, 27)) rfl) rfl ?_
      refine e_51 (f_104 (pc := 27) (e := (27, 51, 0, 0, 0, 0, 0, 28)) rfl) rfl rfl ?_
      obtain ⟨b5, b6, F⟩ := F
      refine e_110 (f_104 (pc := 28) (e := (28, 110, 0, 0, 0, 0, 0, 29)) rfl) rfl (hT 76 rfl) b5 b6 ?_
      refine e_12 (f_104 (pc := 29) (e := (29, 12, 0, 0, 0, 0, 0, 30)) rfl) rfl ?_
      refine e_90r zA (f_104 (pc := 30) (e := (30, 90, 7, 2, 3, 12, 978, 33)) rfl) rfl (hT 67 rfl) rfl rfl (hR 67 2 rfl) ?_
      refine e_90r zA (f_104 (pc := 33) (e := (33, 90, 5, 4, 3, 100, 987, 36)) rfl) rfl (hT 68 rfl) rfl rfl (hR 68 4 rfl) ?_
      refine e_10 (f_104 (pc := 36) (e := (36, 10, 2, 0, 0, 0, 0, 37)) rfl) rfl ?_
      obtain ⟨b7, b8, F⟩ := F
      refine e_110 (f_104 (pc := 37) (e := (37, 110, 0, 0, 0, 0, 0, 38)) rfl) rfl (hT 72 rfl) b7 b8 ?_
      refine e_0 (f_104 (pc := 38) (e := (38, 0, 4294967295, 0, 0, 0, 0, 39)) rfl) (v := (-1)) rfl ?_
      refine e_71 (f_104 (pc := 39) (e := (39, 71, 46, 0, 0, 0, 0, 42)) rfl) (fun c9 => ?_) (fun c9 => ?_)
      · replace F := F.1 c9
        refine e_10 (f_104 (pc := 46) (e := (46, 10, 1, 0, 0, 0, 0, 47)) rfl) rfl ?_
        refine e_12 (f_104 (pc := 47) (e := (47, 12, 0, 0, 0, 0, 0, 48)) rfl) rfl ?_
        refine e_90r zA (f_104 (pc := 48) (e := (48, 90, 7, 2, 3, 12, 978, 51)) rfl) rfl (hT 67 rfl) rfl rfl (hR 67 2 rfl) ?_
        refine e_90 zA (f_104 (pc := 51) (e := (51, 90, 5, 0, 0, 97, 988, 54)) rfl) rfl (hT 68 rfl) rfl rfl ?_
        refine e_31 (f_104 (pc := 54) (e := (54, 31, 0, 0, 0, 0, 0, 55)) rfl) ?_
        refine e_30 (f_104 (pc := 55) (e := (55, 30, 0, 0, 0, 0, 0, 56)) rfl) ?_
        obtain ⟨b10, b11, F⟩ := F
        refine e_111 (f_104 (pc := 56) (e := (56, 111, 0, 0, 0, 0, 0, 57)) rfl) rfl (hT 76 rfl) b10 b11 ?_
        replace F := F _ rfl
        refine e_26 (f_104 (pc := 57) (e := (57, 26, 2, 1, 0, 0, 0, 60)) rfl) (w := 1) rfl rfl ?_
        refine e_80 (f_104 (pc := 60) (e := (60, 80, 2, 0, 0, 0, 0, 63)) rfl) ?_
        refine e_lo [0, 1, 2] rfl ?_
        exact F
      · replace F := F.2 c9
        refine e_0 (f_104 (pc := 42) (e := (42, 0, 0, 0, 0, 0, 0, 43)) rfl) (v := 0) rfl ?_
        refine e_80 (f_104 (pc := 43) (e := (43, 80, 55, 0, 0, 0, 0, 46)) rfl) ?_
        refine e_30 (f_104 (pc := 55) (e := (55, 30, 0, 0, 0, 0, 0, 56)) rfl) ?_
        obtain ⟨b13, b14, F⟩ := F
        refine e_111 (f_104 (pc := 56) (e := (56, 111, 0, 0, 0, 0, 0, 57)) rfl) rfl (hT 76 rfl) b13 b14 ?_
        replace F := F _ rfl
        refine e_26 (f_104 (pc := 57) (e := (57, 26, 2, 1, 0, 0, 0, 60)) rfl) (w := 1) rfl rfl ?_
        refine e_80 (f_104 (pc := 60) (e := (60, 80, 2, 0, 0, 0, 0, 63)) rfl) ?_
        refine e_lo [0, 1, 2] rfl ?_
        exact F

/-! ChairAlley$Walk.waitsOfAll()I -/
set_option maxRecDepth 20000 in
theorem B_105_0 (hT : yLT T) (hR : yLR R) (F : yW l zSS D cy zFk z d 67 0 0 (fun r h' => ∃ r2 I1, r = some (yi r2) ∧ h' = (N, T, R, I1) ∧ (K (some (yi r2)) (N, T, R, I1))) 0 0 0 [(0, yr (some 76)), (1, yi (I 4 5))] [] (N, T, R, I)) :
    yW l zSS D cy zFk z (d + 1) 105 bc bs K 0 0 0 [(0, yr (some 67))] [] (N, T, R, I) := by
  refine e_12 (f_105 (pc := 0) (e := (0, 12, 0, 0, 0, 0, 0, 1)) rfl) rfl ?_
  refine e_90r zA (f_105 (pc := 1) (e := (1, 90, 7, 2, 3, 12, 978, 4)) rfl) rfl (hT 67 rfl) rfl rfl (hR 67 2 rfl) ?_
  refine e_90r zA (f_105 (pc := 4) (e := (4, 90, 5, 8, 3, 144, 999, 7)) rfl) rfl (hT 68 rfl) rfl rfl (hR 68 8 rfl) ?_
  refine e_12 (f_105 (pc := 7) (e := (7, 12, 0, 0, 0, 0, 0, 8)) rfl) rfl ?_
  refine e_90r zA (f_105 (pc := 8) (e := (8, 90, 7, 0, 3, 33, 983, 11)) rfl) rfl (hT 67 rfl) rfl rfl (hR 67 0 rfl) ?_
  refine e_90 zA (f_105 (pc := 11) (e := (11, 90, 1, 5, 0, 53, 1011, 14)) rfl) rfl (hT 4 rfl) rfl rfl ?_
  refine e_132 (f_105 (pc := 14) (e := (14, 132, 67, 2, 5, 188, 1031, 17)) rfl) zA (as := [yr (some 76), yi _]) (rest := []) rfl rfl rfl rfl (Nat.le_of_ble_eq_true rfl) (Nat.le_of_ble_eq_true rfl) (mc := 0) (ms := 0) (Nat.zero_le _) (Nat.zero_le _) ?_
  refine e_K ?_ F
  rintro r h' ⟨r2, I1, rfl, rfl, F⟩
  exact e_120 (f_105 (pc := 17) (e := (17, 120, 0, 0, 0, 0, 0, 0)) rfl) F

/-! ChairAlley$Walk.whenThere(I)I -/
set_option maxRecDepth 20000 in
theorem B_106_0 (hT : yLT T) (hR : yLR R) {x1 : Int} (F : (x1 < 0 → K (some (yi 500)) (N, T, R, I)) ∧ (¬ (x1 < 0) → (8 ≤ x1 → K (some (yi 500)) (N, T, R, I)) ∧ (¬ (8 ≤ x1) → 0 ≤ x1 ∧ x1 < 8 ∧ (((I 77 x1.toNat) ≠ (-1) → 0 ≤ x1 ∧ x1 < 8 ∧ (K (some (yi (I 77 x1.toNat))) (N, T, R, I))) ∧ (¬ ((I 77 x1.toNat) ≠ (-1)) → K (some (yi 500)) (N, T, R, I)))))) :
    yW l zSS D cy zFk z d 106 bc bs K 0 0 0 [(0, yr (some 67)), (1, yi x1)] [] (N, T, R, I) := by
  refine e_10 (f_106 (pc := 0) (e := (0, 10, 1, 0, 0, 0, 0, 1)) rfl) rfl ?_
  refine e_62 (f_106 (pc := 1) (e := (1, 62, 23, 0, 0, 0, 0, 4)) rfl) (fun c1 => ?_) (fun c1 => ?_)
  · replace F := F.1 c1
    refine e_2 (f_106 (pc := 23) (e := (23, 2, 500, 0, 0, 0, 0, 26)) rfl) (v := 500) rfl ?_
    refine e_80 (f_106 (pc := 26) (e := (26, 80, 38, 0, 0, 0, 0, 29)) rfl) ?_
    exact e_120 (f_106 (pc := 38) (e := (38, 120, 0, 0, 0, 0, 0, 0)) rfl) F
  · replace F := F.2 c1
    refine e_10 (f_106 (pc := 4) (e := (4, 10, 1, 0, 0, 0, 0, 5)) rfl) rfl ?_
    refine e_1 (f_106 (pc := 5) (e := (5, 1, 8, 0, 0, 0, 0, 7)) rfl) (v := 8) rfl ?_
    refine e_73 (f_106 (pc := 7) (e := (7, 73, 23, 0, 0, 0, 0, 10)) rfl) (fun c2 => ?_) (fun c2 => ?_)
    · replace F := F.1 c2
      refine e_2 (f_106 (pc := 23) (e := (23, 2, 500, 0, 0, 0, 0, 26)) rfl) (v := 500) rfl ?_
      refine e_80 (f_106 (pc := 26) (e := (26, 80, 38, 0, 0, 0, 0, 29)) rfl) ?_
      exact e_120 (f_106 (pc := 38) (e := (38, 120, 0, 0, 0, 0, 0, 0)) rfl) F
    · replace F := F.2 c2
      refine e_12 (f_106 (pc := 10) (e := (10, 12, 0, 0, 0, 0, 0, 11)) rfl) rfl ?_
      refine e_90r zA (f_106 (pc := 11) (e := (11, 90, 7, 2, 3, 12, 978, 14)) rfl) rfl (hT 67 rfl) rfl rfl (hR 67 2 rfl) ?_
      refine e_90r zA (f_106 (pc := 14) (e := (14, 90, 5, 9, 3, 59, 1002, 17)) rfl) rfl (hT 68 rfl) rfl rfl (hR 68 9 rfl) ?_
      refine e_10 (f_106 (pc := 17) (e := (17, 10, 1, 0, 0, 0, 0, 18)) rfl) rfl ?_
      obtain ⟨b3, b4, F⟩ := F
      refine e_110 (f_106 (pc := 18) (e := (18, 110, 0, 0, 0, 0, 0, 19)) rfl) rfl (hT 77 rfl) b3 b4 ?_
      refine e_0 (f_106 (pc := 19) (e := (19, 0, 4294967295, 0, 0, 0, 0, 20)) rfl) (v := (-1)) rfl ?_
      refine e_71 (f_106 (pc := 20) (e := (20, 71, 29, 0, 0, 0, 0, 23)) rfl) (fun c5 => ?_) (fun c5 => ?_)
      · replace F := F.1 c5
        refine e_12 (f_106 (pc := 29) (e := (29, 12, 0, 0, 0, 0, 0, 30)) rfl) rfl ?_
        refine e_90r zA (f_106 (pc := 30) (e := (30, 90, 7, 2, 3, 12, 978, 33)) rfl) rfl (hT 67 rfl) rfl rfl (hR 67 2 rfl) ?_
        refine e_90r zA (f_106 (pc := 33) (e := (33, 90, 5, 9, 3, 59, 1002, 36)) rfl) rfl (hT 68 rfl) rfl rfl (hR 68 9 rfl) ?_
        refine e_10 (f_106 (pc := 36) (e := (36, 10, 1, 0, 0, 0, 0, 37)) rfl) rfl ?_
        obtain ⟨b6, b7, F⟩ := F
        refine e_110 (f_106 (pc := 37) (e := (37, 110, 0, 0, 0, 0, 0, 38)) rfl) rfl (hT 77 rfl) b6 b7 ?_
        exact e_120 (f_106 (pc := 38) (e := (38, 120, 0, 0, 0, 0, 0, 0)) rfl) F
      · replace F := F.2 c5
        refine e_2 (f_106 (pc := 23) (e := (23, 2, 500, 0, 0, 0, 0, 26)) rfl) (v := 500) rfl ?_
        refine e_80 (f_106 (pc := 26) (e := (26, 80, 38, 0, 0, 0, 0, 29)) rfl) ?_
        exact e_120 (f_106 (pc := 38) (e := (38, 120, 0, 0, 0, 0, 0, 0)) rfl) F

/-! ChairAlley$Ways.firstCell(II)I -/
set_option maxRecDepth 20000 in
theorem B_108_0 (hT : yLT T) (hR : yLR R) {x1 x2 : Int} (F : (x1 < 0 → K (some (yi (-1))) (N, T, R, I)) ∧ (¬ (x1 < 0) → (8 ≤ x1 → K (some (yi (-1))) (N, T, R, I)) ∧ (¬ (8 ≤ x1) → (x2 < 0 → K (some (yi (-1))) (N, T, R, I)) ∧ (¬ (x2 < 0) → (x2 < 100 → 0 ≤ (yadd (ymul x1 100) x2) ∧ (yadd (ymul x1 100) x2) < 800 ∧ (((I 87 (yadd (ymul x1 100) x2).toNat) ≠ (-1) → yW l zSS D cy zFk z d 5 0 0 (fun r h' => ∃ r9 I8, r = some (yi r9) ∧ h' = (N, T, R, I8) ∧ (K (some (yi r9)) (N, T, R, I8))) 0 0 0 [(0, yr (some 4)), (1, yi x2), (2, yi (I 87 (yadd (ymul x1 100) x2).toNat))] [] (N, T, R, I)) ∧ (¬ ((I 87 (yadd (ymul x1 100) x2).toNat) ≠ (-1)) → K (some (yi (-1))) (N, T, R, I)))) ∧ (¬ (x2 < 100) → K (some (yi (-1))) (N, T, R, I)))))) :
    yW l zSS D cy zFk z (d + 1) 108 bc bs K 0 0 0 [(0, yr (some 85)), (1, yi x1), (2, yi x2)] [] (N, T, R, I) := by
  refine e_10 (f_108 (pc := 0) (e := (0, 10, 1, 0, 0, 0, 0, 1)) rfl) rfl ?_
  refine e_62 (f_108 (pc := 1) (e := (1, 62, 20, 0, 0, 0, 0, 4)) rfl) (fun c1 => ?_) (fun c1 => ?_)
  · replace F := F.1 c1
    refine e_0 (f_108 (pc := 20) (e := (20, 0, 4294967295, 0, 0, 0, 0, 21)) rfl) (v := (-1)) rfl ?_
    exact e_120 (f_108 (pc := 21) (e := (21, 120, 0, 0, 0, 0, 0, 22)) rfl) F
  · replace F := F.2 c1
    refine e_10 (f_108 (pc := 4) (e := (4, 10, 1, 0, 0, 0, 0, 5)) rfl) rfl ?_
    refine e_1 (f_108 (pc := 5) (e := (5, 1, 8, 0, 0, 0, 0, 7)) rfl) (v := 8) rfl ?_
    refine e_73 (f_108 (pc := 7) (e := (7, 73, 20, 0, 0, 0, 0, 10)) rfl) (fun c2 => ?_) (fun c2 => ?_)
    · replace F := F.1 c2
      refine e_0 (f_108 (pc := 20) (e := (20, 0, 4294967295, 0, 0, 0, 0, 21)) rfl) (v := (-1)) rfl ?_
      exact e_120 (f_108 (pc := 21) (e := (21, 120, 0, 0, 0, 0, 0, 22)) rfl) F
    · replace F := F.2 c2
      refine e_10 (f_108 (pc := 10) (e := (10, 10, 2, 0, 0, 0, 0, 11)) rfl) rfl ?_
      refine e_62 (f_108 (pc := 11) (e := (11, 62, 20, 0, 0, 0, 0, 14)) rfl) (fun c3 => ?_) (fun c3 => ?_)
      · replace F := F.1 c3
        refine e_0 (f_108 (pc := 20) (e := (20, 0, 4294967295, 0, 0, 0, 0, 21)) rfl) (v := (-1)) rfl ?_
        exact e_120 (f_108 (pc := 21) (e := (21, 120, 0, 0, 0, 0, 0, 22)) rfl) F
      · replace F := F.2 c3
        refine e_10 (f_108 (pc := 14) (e := (14, 10, 2, 0, 0, 0, 0, 15)) rfl) rfl ?_
        refine e_1 (f_108 (pc := 15) (e := (15, 1, 100, 0, 0, 0, 0, 17)) rfl) (v := 100) rfl ?_
        refine e_72 (f_108 (pc := 17) (e := (17, 72, 22, 0, 0, 0, 0, 20)) rfl) (fun c4 => ?_) (fun c4 => ?_)
        · replace F := F.1 c4
          refine e_12 (f_108 (pc := 22) (e := (22, 12, 0, 0, 0, 0, 0, 23)) rfl) rfl ?_
          refine e_90r zA (f_108 (pc := 23) (e := (23, 90, 8, 2, 3, 15, 1034, 26)) rfl) rfl (hT 85 rfl) rfl rfl (hR 85 2 rfl) ?_
          refine e_10 (f_108 (pc := 26) (e := (26, 10, 1, 0, 0, 0, 0, 27)) rfl) rfl ?_
          refine e_1 (f_108 (pc := 27) (e := (27, 1, 100, 0, 0, 0, 0, 29)) rfl) (v := 100) rfl ?_
          refine e_32 (f_108 (pc := 29) (e := (29, 32, 0, 0, 0, 0, 0, 30)) rfl) ?_
          refine e_10 (f_108 (pc := 30) (e := (30, 10, 2, 0, 0, 0, 0, 31)) rfl) rfl ?_
          refine e_30 (f_108 (pc := 31) (e := (31, 30, 0, 0, 0, 0, 0, 32)) rfl) ?_
          obtain ⟨b5, b6, F⟩ := F
          refine e_110 (f_108 (pc := 32) (e := (32, 110, 0, 0, 0, 0, 0, 33)) rfl) rfl (hT 87 rfl) b5 b6 ?_
          refine e_20 (f_108 (pc := 33) (e := (33, 20, 3, 0, 0, 0, 0, 34)) rfl) ?_
          refine e_10 (f_108 (pc := 34) (e := (34, 10, 3, 0, 0, 0, 0, 35)) rfl) rfl ?_
          refine e_0 (f_108 (pc := 35) (e := (35, 0, 4294967295, 0, 0, 0, 0, 36)) rfl) (v := (-1)) rfl ?_
          refine e_71 (f_108 (pc := 36) (e := (36, 71, 43, 0, 0, 0, 0, 39)) rfl) (fun c7 => ?_) (fun c7 => ?_)
          · replace F := F.1 c7
            refine e_12 (f_108 (pc := 43) (e := (43, 12, 0, 0, 0, 0, 0, 44)) rfl) rfl ?_
            refine e_90r zA (f_108 (pc := 44) (e := (44, 90, 8, 0, 3, 21, 1036, 47)) rfl) rfl (hT 85 rfl) rfl rfl (hR 85 0 rfl) ?_
            refine e_10 (f_108 (pc := 47) (e := (47, 10, 2, 0, 0, 0, 0, 48)) rfl) rfl ?_
            refine e_10 (f_108 (pc := 48) (e := (48, 10, 3, 0, 0, 0, 0, 49)) rfl) rfl ?_
            refine e_130 (f_108 (pc := 49) (e := (49, 130, 5, 0, 1, 43, 1037, 52)) rfl) zA (as := [yr (some 4), yi x2, yi _]) (rest := []) rfl rfl rfl rfl (Nat.le_of_ble_eq_true rfl) (Nat.le_of_ble_eq_true rfl) ⟨_, _, _, rfl, (hT 4 rfl)⟩ (mc := 0) (ms := 0) (Nat.zero_le _) (Nat.zero_le _) ?_
            refine e_K ?_ F
            rintro r h' ⟨r9, I8, rfl, rfl, F⟩
            exact e_120 (f_108 (pc := 52) (e := (52, 120, 0, 0, 0, 0, 0, 0)) rfl) F
          · replace F := F.2 c7
            refine e_0 (f_108 (pc := 39) (e := (39, 0, 4294967295, 0, 0, 0, 0, 40)) rfl) (v := (-1)) rfl ?_
            refine e_80 (f_108 (pc := 40) (e := (40, 80, 52, 0, 0, 0, 0, 43)) rfl) ?_
            exact e_120 (f_108 (pc := 52) (e := (52, 120, 0, 0, 0, 0, 0, 0)) rfl) F
        · replace F := F.2 c4
          refine e_0 (f_108 (pc := 20) (e := (20, 0, 4294967295, 0, 0, 0, 0, 21)) rfl) (v := (-1)) rfl ?_
          exact e_120 (f_108 (pc := 21) (e := (21, 120, 0, 0, 0, 0, 0, 22)) rfl) F

/-! ChairAlley$Ways.measure([III)V -/
set_option maxRecDepth 20000 in
theorem B_109_0 (hT : yLT T) (hR : yLR R) {w : Nat} (hw : T w = (1, 100)) {x2 x3 : Int} (F : (x3 < 0 → K none (N, T, R, I)) ∧ (¬ (x3 < 0) → (x3 < 8 → yW l zSS D cy zFk z d 109 bc bs K 0 0 20 [(0, yr (some 85)), (1, yr (some w)), (2, yi x2), (4, yi (ymul x3 100)), (5, yi 0)] [] (N, T, R, I)) ∧ (¬ (x3 < 8) → K none (N, T, R, I)))) :
    yW l zSS D cy zFk z d 109 bc bs K 0 0 0 [(0, yr (some 85)), (1, yr (some w)), (2, yi x2), (3, yi x3)] [] (N, T, R, I) := by
  refine e_10 (f_109 (pc := 0) (e := (0, 10, 3, 0, 0, 0, 0, 1)) rfl) rfl ?_
  refine e_62 (f_109 (pc := 1) (e := (1, 62, 10, 0, 0, 0, 0, 4)) rfl) (fun c1 => ?_) (fun c1 => ?_)
  · replace F := F.1 c1
    exact e_122 (f_109 (pc := 10) (e := (10, 122, 0, 0, 0, 0, 0, 11)) rfl) F
  · replace F := F.2 c1
    refine e_10 (f_109 (pc := 4) (e := (4, 10, 3, 0, 0, 0, 0, 5)) rfl) rfl ?_
    refine e_1 (f_109 (pc := 5) (e := (5, 1, 8, 0, 0, 0, 0, 7)) rfl) (v := 8) rfl ?_
    refine e_72 (f_109 (pc := 7) (e := (7, 72, 11, 0, 0, 0, 0, 10)) rfl) (fun c2 => ?_) (fun c2 => ?_)
    · replace F := F.1 c2
      refine e_10 (f_109 (pc := 11) (e := (11, 10, 3, 0, 0, 0, 0, 12)) rfl) rfl ?_
      refine e_1 (f_109 (pc := 12) (e := (12, 1, 100, 0, 0, 0, 0, 14)) rfl) (v := 100) rfl ?_
      refine e_32 (f_109 (pc := 14) (e := (14, 32, 0, 0, 0, 0, 0, 15)) rfl) ?_
      refine e_21 (f_109 (pc := 15) (e := (15, 21, 4, 0, 0, 0, 0, 17)) rfl) ?_
      refine e_0 (f_109 (pc := 17) (e := (17, 0, 0, 0, 0, 0, 0, 18)) rfl) (v := 0) rfl ?_
      refine e_21 (f_109 (pc := 18) (e := (18, 21, 5, 0, 0, 0, 0, 20)) rfl) ?_
      refine e_lo [0, 1, 2, 4, 5] rfl ?_
      exact F
    · replace F := F.2 c2
      exact e_122 (f_109 (pc := 10) (e := (10, 122, 0, 0, 0, 0, 0, 11)) rfl) F
set_option maxRecDepth 20000 in
theorem B_109_20 (hT : yLT T) (hR : yLR R) {w : Nat} (hw : T w = (1, 100)) {x2 x4 x5 : Int} (F : (100 ≤ x5 → yW l zSS D cy zFk z d 10 0 0 (fun r h' => ∃ r3 I2, r = some (yi r3) ∧ h' = (N, T, R, I2) ∧ ((r3 = 0 → K none (N, T, R, I2)) ∧ (¬ (r3 = 0) → yW l zSS D cy zFk z d 12 0 0 (fun r h' => ∃ r6 I5, r = some (yi r6) ∧ h' = (N, T, R, I5) ∧ ((r6 = 0 → 0 ≤ (yadd x4 x2) ∧ (yadd x4 x2) < 800 ∧ (∀ I10, I10 = yU I5 86 ((yadd x4 x2).toNat) (ynar 1 0) → (∀ I11, I11 = yU I10 88 0 (ynar 1 x2) → (∀ I12, I12 = yU I11 85 4 1 → (yW l zSS D cy zFk z (d + 1) 109 bc bs K 0 0 104 [(0, yr (some 85)), (1, yr (some w)), (4, yi x4), (5, yi 0)] [] (N, T, R, I12)))))) ∧ (¬ (r6 = 0) → K none (N, T, R, I5)))) 0 0 0 [(0, yr (some 4)), (1, yi x2), (2, yi 1)] [] (N, T, R, I2)))) 0 0 0 [(0, yr (some 4)), (1, yi x2)] [] (N, T, R, I)) ∧ (¬ (100 ≤ x5) → 0 ≤ (yadd x4 x5) ∧ (yadd x4 x5) < 800 ∧ (∀ I15, I15 = yU I 86 ((yadd x4 x5).toNat) (ynar 1 (-1)) → (0 ≤ (yadd x4 x5) ∧ (yadd x4 x5) < 800 ∧ (∀ I18, I18 = yU I15 87 ((yadd x4 x5).toNat) (ynar 1 (-1)) → (yW l zSS D cy zFk z (d + 1) 109 bc bs K 0 0 20 [(0, yr (some 85)), (1, yr (some w)), (2, yi x2), (4, yi x4), (5, yi (yadd x5 1))] [] (N, T, R, I18))))))) :
    yW l zSS D cy zFk z (d + 1) 109 bc bs K 0 0 20 [(0, yr (some 85)), (1, yr (some w)), (2, yi x2), (4, yi x4), (5, yi x5)] [] (N, T, R, I) := by
  refine e_11 (f_109 (pc := 20) (e := (20, 11, 5, 0, 0, 0, 0, 22)) rfl) rfl ?_
  refine e_1 (f_109 (pc := 22) (e := (22, 1, 100, 0, 0, 0, 0, 24)) rfl) (v := 100) rfl ?_
  refine e_73 (f_109 (pc := 24) (e := (24, 73, 55, 0, 0, 0, 0, 27)) rfl) (fun c1 => ?_) (fun c1 => ?_)
  · replace F := F.1 c1
    refine e_12 (f_109 (pc := 55) (e := (55, 12, 0, 0, 0, 0, 0, 56)) rfl) rfl ?_
    refine e_90r zA (f_109 (pc := 56) (e := (56, 90, 8, 0, 3, 21, 1036, 59)) rfl) rfl (hT 85 rfl) rfl rfl (hR 85 0 rfl) ?_
    refine e_10 (f_109 (pc := 59) (e := (59, 10, 2, 0, 0, 0, 0, 60)) rfl) rfl ?_
    refine e_130 (f_109 (pc := 60) (e := (60, 130, 10, 0, 1, 25, 1038, 63)) rfl) zA (as := [yr (some 4), yi x2]) (rest := []) rfl rfl rfl rfl (Nat.le_of_ble_eq_true rfl) (Nat.le_of_ble_eq_true rfl) ⟨_, _, _, rfl, (hT 4 rfl)⟩ (mc := 0) (ms := 0) (Nat.zero_le _) (Nat.zero_le _) ?_
    refine e_K ?_ F
    rintro r h' ⟨r3, I2, rfl, rfl, F⟩
    refine e_60 (f_109 (pc := 63) (e := (63, 60, 78, 0, 0, 0, 0, 66)) rfl) (fun c4 => ?_) (fun c4 => ?_)
    · replace F := F.1 c4
      exact e_122 (f_109 (pc := 78) (e := (78, 122, 0, 0, 0, 0, 0, 79)) rfl) F
    · replace F := F.2 c4
      refine e_12 (f_109 (pc := 66) (e := (66, 12, 0, 0, 0, 0, 0, 67)) rfl) rfl ?_
      refine e_90r zA (f_109 (pc := 67) (e := (67, 90, 8, 0, 3, 21, 1036, 70)) rfl) rfl (hT 85 rfl) rfl rfl (hR 85 0 rfl) ?_
      refine e_10 (f_109 (pc := 70) (e := (70, 10, 2, 0, 0, 0, 0, 71)) rfl) rfl ?_
      refine e_0 (f_109 (pc := 71) (e := (71, 0, 1, 0, 0, 0, 0, 72)) rfl) (v := 1) rfl ?_
      refine e_130 (f_109 (pc := 72) (e := (72, 130, 12, 0, 1, 31, 1039, 75)) rfl) zA (as := [yr (some 4), yi x2, yi 1]) (rest := []) rfl rfl rfl rfl (Nat.le_of_ble_eq_true rfl) (Nat.le_of_ble_eq_true rfl) ⟨_, _, _, rfl, (hT 4 rfl)⟩ (mc := 0) (ms := 0) (Nat.zero_le _) (Nat.zero_le _) ?_
      refine e_K ?_ F
      rintro r h' ⟨r6, I5, rfl, rfl, F⟩
      refine e_60 (f_109 (pc := 75) (e := (75, 60, 79, 0, 0, 0, 0, 78)) rfl) (fun c7 => ?_) (fun c7 => ?_)
      · replace F := F.1 c7
        refine e_12 (f_109 (pc := 79) (e := (79, 12, 0, 0, 0, 0, 0, 80)) rfl) rfl ?_
        refine e_90r zA (f_109 (pc := 80) (e := (80, 90, 8, 1, 3, 9, 1033, 83)) rfl) rfl (hT 85 rfl) rfl rfl (hR 85 1 rfl) ?_
        refine e_11 (f_109 (pc := 83) (e := (83, 11, 4, 0, 0, 0, 0, 85)) rfl) rfl ?_
        refine e_10 (f_109 (pc := 85) (e := (85, 10, 2, 0, 0, 0, 0, 86)) rfl) rfl ?_
        refine e_30 (f_109 (pc := 86) (e := (86, 30, 0, 0, 0, 0, 0, 87)) rfl) ?_
        refine e_0 (f_109 (pc := 87) (e := (87, 0, 0, 0, 0, 0, 0, 88)) rfl) (v := 0) rfl ?_
        obtain ⟨b8, b9, F⟩ := F
        refine e_111 (f_109 (pc := 88) (e := (88, 111, 0, 0, 0, 0, 0, 89)) rfl) rfl (hT 86 rfl) b8 b9 ?_
        replace F := F _ rfl
        refine e_12 (f_109 (pc := 89) (e := (89, 12, 0, 0, 0, 0, 0, 90)) rfl) rfl ?_
        refine e_90r zA (f_109 (pc := 90) (e := (90, 90, 8, 3, 3, 18, 1035, 93)) rfl) rfl (hT 85 rfl) rfl rfl (hR 85 3 rfl) ?_
        refine e_0 (f_109 (pc := 93) (e := (93, 0, 0, 0, 0, 0, 0, 94)) rfl) (v := 0) rfl ?_
        refine e_10 (f_109 (pc := 94) (e := (94, 10, 2, 0, 0, 0, 0, 95)) rfl) rfl ?_
        refine e_111 (f_109 (pc := 95) (e := (95, 111, 0, 0, 0, 0, 0, 96)) rfl) rfl (hT 88 rfl) (by decide) (by decide) ?_
        replace F := F _ rfl
        refine e_12 (f_109 (pc := 96) (e := (96, 12, 0, 0, 0, 0, 0, 97)) rfl) rfl ?_
        refine e_0 (f_109 (pc := 97) (e := (97, 0, 1, 0, 0, 0, 0, 98)) rfl) (v := 1) rfl ?_
        refine e_91 zA (f_109 (pc := 98) (e := (98, 91, 8, 4, 0, 35, 1040, 101)) rfl) rfl (hT 85 rfl) rfl rfl trivial ?_
        replace F := F _ rfl
        refine e_0 (f_109 (pc := 101) (e := (101, 0, 0, 0, 0, 0, 0, 102)) rfl) (v := 0) rfl ?_
        refine e_21 (f_109 (pc := 102) (e := (102, 21, 5, 0, 0, 0, 0, 104)) rfl) ?_
        refine e_lo [0, 1, 4, 5] rfl ?_
        exact F
      · replace F := F.2 c7
        exact e_122 (f_109 (pc := 78) (e := (78, 122, 0, 0, 0, 0, 0, 79)) rfl) F
  · replace F := F.2 c1
    refine e_12 (f_109 (pc := 27) (e := (27, 12, 0, 0, 0, 0, 0, 28)) rfl) rfl ?_
    refine e_90r zA (f_109 (pc := 28) (e := (28, 90, 8, 1, 3, 9, 1033, 31)) rfl) rfl (hT 85 rfl) rfl rfl (hR 85 1 rfl) ?_
    refine e_11 (f_109 (pc := 31) (e := (31, 11, 4, 0, 0, 0, 0, 33)) rfl) rfl ?_
    refine e_11 (f_109 (pc := 33) (e := (33, 11, 5, 0, 0, 0, 0, 35)) rfl) rfl ?_
    refine e_30 (f_109 (pc := 35) (e := (35, 30, 0, 0, 0, 0, 0, 36)) rfl) ?_
    refine e_0 (f_109 (pc := 36) (e := (36, 0, 4294967295, 0, 0, 0, 0, 37)) rfl) (v := (-1)) rfl ?_
    obtain ⟨b13, b14, F⟩ := F
    refine e_111 (f_109 (pc := 37) (e := (37, 111, 0, 0, 0, 0, 0, 38)) rfl) rfl (hT 86 rfl) b13 b14 ?_
    replace F := F _ rfl
    refine e_12 (f_109 (pc := 38) (e := (38, 12, 0, 0, 0, 0, 0, 39)) rfl) rfl ?_
    refine e_90r zA (f_109 (pc := 39) (e := (39, 90, 8, 2, 3, 15, 1034, 42)) rfl) rfl (hT 85 rfl) rfl rfl (hR 85 2 rfl) ?_
    refine e_11 (f_109 (pc := 42) (e := (42, 11, 4, 0, 0, 0, 0, 44)) rfl) rfl ?_
    refine e_11 (f_109 (pc := 44) (e := (44, 11, 5, 0, 0, 0, 0, 46)) rfl) rfl ?_
    refine e_30 (f_109 (pc := 46) (e := (46, 30, 0, 0, 0, 0, 0, 47)) rfl) ?_
    refine e_0 (f_109 (pc := 47) (e := (47, 0, 4294967295, 0, 0, 0, 0, 48)) rfl) (v := (-1)) rfl ?_
    obtain ⟨b16, b17, F⟩ := F
    refine e_111 (f_109 (pc := 48) (e := (48, 111, 0, 0, 0, 0, 0, 49)) rfl) rfl (hT 87 rfl) b16 b17 ?_
    replace F := F _ rfl
    refine e_26 (f_109 (pc := 49) (e := (49, 26, 5, 1, 0, 0, 0, 52)) rfl) (w := 1) rfl rfl ?_
    refine e_80 (f_109 (pc := 52) (e := (52, 80, 20, 0, 0, 0, 0, 55)) rfl) ?_
    refine e_lo [0, 1, 2, 4, 5] rfl ?_
    exact F
set_option maxRecDepth 20000 in
theorem B_109_104 (hT : yLT T) (hR : yLR R) {w : Nat} (hw : T w = (1, 100)) {x4 x5 : Int} (F : ((I 85 4) ≤ x5 → K none (N, T, R, I)) ∧ (¬ ((I 85 4) ≤ x5) → (100 ≤ x5 → K none (N, T, R, I)) ∧ (¬ (100 ≤ x5) → 0 ≤ x5 ∧ x5 < 100 ∧ (yW l zSS D cy zFk z d 110 0 0 (fun r h' => ∃ I5, r = none ∧ h' = (N, T, R, I5) ∧ (yW l zSS D cy zFk z (d + 1) 109 bc bs K 0 0 104 [(0, yr (some 85)), (1, yr (some w)), (4, yi x4), (5, yi (yadd x5 1))] [] (N, T, R, I5))) 0 0 0 [(0, yr (some 85)), (1, yr (some w)), (2, yi (I 88 x5.toNat)), (3, yi x4)] [] (N, T, R, I))))) :
    yW l zSS D cy zFk z (d + 1) 109 bc bs K 0 0 104 [(0, yr (some 85)), (1, yr (some w)), (4, yi x4), (5, yi x5)] [] (N, T, R, I) := by
  refine e_11 (f_109 (pc := 104) (e := (104, 11, 5, 0, 0, 0, 0, 106)) rfl) rfl ?_
  refine e_12 (f_109 (pc := 106) (e := (106, 12, 0, 0, 0, 0, 0, 107)) rfl) rfl ?_
  refine e_90 zA (f_109 (pc := 107) (e := (107, 90, 8, 4, 0, 35, 1040, 110)) rfl) rfl (hT 85 rfl) rfl rfl ?_
  refine e_73 (f_109 (pc := 110) (e := (110, 73, 140, 0, 0, 0, 0, 113)) rfl) (fun c1 => ?_) (fun c1 => ?_)
  · replace F := F.1 c1
    exact e_122 (f_109 (pc := 140) (e := (140, 122, 0, 0, 0, 0, 0, 0)) rfl) F
  · replace F := F.2 c1
    refine e_11 (f_109 (pc := 113) (e := (113, 11, 5, 0, 0, 0, 0, 115)) rfl) rfl ?_
    refine e_1 (f_109 (pc := 115) (e := (115, 1, 100, 0, 0, 0, 0, 117)) rfl) (v := 100) rfl ?_
    refine e_73 (f_109 (pc := 117) (e := (117, 73, 140, 0, 0, 0, 0, 120)) rfl) (fun c2 => ?_) (fun c2 => ?_)
    · replace F := F.1 c2
      exact e_122 (f_109 (pc := 140) (e := (140, 122, 0, 0, 0, 0, 0, 0)) rfl) F
    · replace F := F.2 c2
      refine e_12 (f_109 (pc := 120) (e := (120, 12, 0, 0, 0, 0, 0, 121)) rfl) rfl ?_
      refine e_12 (f_109 (pc := 121) (e := (121, 12, 1, 0, 0, 0, 0, 122)) rfl) rfl ?_
      refine e_12 (f_109 (pc := 122) (e := (122, 12, 0, 0, 0, 0, 0, 123)) rfl) rfl ?_
      refine e_90r zA (f_109 (pc := 123) (e := (123, 90, 8, 3, 3, 18, 1035, 126)) rfl) rfl (hT 85 rfl) rfl rfl (hR 85 3 rfl) ?_
      refine e_11 (f_109 (pc := 126) (e := (126, 11, 5, 0, 0, 0, 0, 128)) rfl) rfl ?_
      obtain ⟨b3, b4, F⟩ := F
      refine e_110 (f_109 (pc := 128) (e := (128, 110, 0, 0, 0, 0, 0, 129)) rfl) rfl (hT 88 rfl) b3 b4 ?_
      refine e_11 (f_109 (pc := 129) (e := (129, 11, 4, 0, 0, 0, 0, 131)) rfl) rfl ?_
      refine e_130 (f_109 (pc := 131) (e := (131, 130, 110, 0, 8, 39, 1041, 134)) rfl) zA (as := [yr (some 85), yr (some w), yi _, yi x4]) (rest := []) rfl rfl rfl rfl (Nat.le_of_ble_eq_true rfl) (Nat.le_of_ble_eq_true rfl) ⟨_, _, _, rfl, (hT 85 rfl)⟩ (mc := 0) (ms := 0) (Nat.zero_le _) (Nat.zero_le _) ?_
      refine e_K ?_ F
      rintro r h' ⟨I5, rfl, rfl, F⟩
      refine e_26 (f_109 (pc := 134) (e := (134, 26, 5, 1, 0, 0, 0, 137)) rfl) (w := 1) rfl rfl ?_
      refine e_80 (f_109 (pc := 137) (e := (137, 80, 104, 0, 0, 0, 0, 140)) rfl) ?_
      refine e_lo [0, 1, 4, 5] rfl ?_
      exact F

/-! ChairAlley$Ways.spread([III)V -/
set_option maxRecDepth 20000 in
theorem B_110_0 (hT : yLT T) (hR : yLR R) {w : Nat} (hw : T w = (1, 100)) {x2 x3 : Int} (F : yW l zSS D cy zFk z d 10 0 0 (fun r h' => ∃ r2 I1, r = some (yi r2) ∧ h' = (N, T, R, I1) ∧ ((r2 = 0 → K none (N, T, R, I1)) ∧ (¬ (r2 = 0) → (x3 < 0 → K none (N, T, R, I1)) ∧ (¬ (x3 < 0) → (x3 ≤ 700 → yW l zSS D cy zFk z (d + 1) 110 bc bs K 0 0 26 [(0, yr (some 85)), (1, yr (some w)), (2, yi x2), (3, yi x3), (4, yi 0)] [] (N, T, R, I1)) ∧ (¬ (x3 ≤ 700) → K none (N, T, R, I1)))))) 0 0 0 [(0, yr (some 4)), (1, yi x2)] [] (N, T, R, I)) :
    yW l zSS D cy zFk z (d + 1) 110 bc bs K 0 0 0 [(0, yr (some 85)), (1, yr (some w)), (2, yi x2), (3, yi x3)] [] (N, T, R, I) := by
  refine e_12 (f_110 (pc := 0) (e := (0, 12, 0, 0, 0, 0, 0, 1)) rfl) rfl ?_
  refine e_90r zA (f_110 (pc := 1) (e := (1, 90, 8, 0, 3, 21, 1036, 4)) rfl) rfl (hT 85 rfl) rfl rfl (hR 85 0 rfl) ?_
  refine e_10 (f_110 (pc := 4) (e := (4, 10, 2, 0, 0, 0, 0, 5)) rfl) rfl ?_
  refine e_130 (f_110 (pc := 5) (e := (5, 130, 10, 0, 1, 25, 1038, 8)) rfl) zA (as := [yr (some 4), yi x2]) (rest := []) rfl rfl rfl rfl (Nat.le_of_ble_eq_true rfl) (Nat.le_of_ble_eq_true rfl) ⟨_, _, _, rfl, (hT 4 rfl)⟩ (mc := 0) (ms := 0) (Nat.zero_le _) (Nat.zero_le _) ?_
  refine e_K ?_ F
  rintro r h' ⟨r2, I1, rfl, rfl, F⟩
  refine e_60 (f_110 (pc := 8) (e := (8, 60, 22, 0, 0, 0, 0, 11)) rfl) (fun c3 => ?_) (fun c3 => ?_)
  · replace F := F.1 c3
    exact e_122 (f_110 (pc := 22) (e := (22, 122, 0, 0, 0, 0, 0, 23)) rfl) F
  · replace F := F.2 c3
    refine e_10 (f_110 (pc := 11) (e := (11, 10, 3, 0, 0, 0, 0, 12)) rfl) rfl ?_
    refine e_62 (f_110 (pc := 12) (e := (12, 62, 22, 0, 0, 0, 0, 15)) rfl) (fun c4 => ?_) (fun c4 => ?_)
    · replace F := F.1 c4
      exact e_122 (f_110 (pc := 22) (e := (22, 122, 0, 0, 0, 0, 0, 23)) rfl) F
    · replace F := F.2 c4
      refine e_10 (f_110 (pc := 15) (e := (15, 10, 3, 0, 0, 0, 0, 16)) rfl) rfl ?_
      refine e_2 (f_110 (pc := 16) (e := (16, 2, 700, 0, 0, 0, 0, 19)) rfl) (v := 700) rfl ?_
      refine e_75 (f_110 (pc := 19) (e := (19, 75, 23, 0, 0, 0, 0, 22)) rfl) (fun c5 => ?_) (fun c5 => ?_)
      · replace F := F.1 c5
        refine e_0 (f_110 (pc := 23) (e := (23, 0, 0, 0, 0, 0, 0, 24)) rfl) (v := 0) rfl ?_
        refine e_21 (f_110 (pc := 24) (e := (24, 21, 4, 0, 0, 0, 0, 26)) rfl) ?_
        refine e_lo [0, 1, 2, 3, 4] rfl ?_
        exact F
      · replace F := F.2 c5
        exact e_122 (f_110 (pc := 22) (e := (22, 122, 0, 0, 0, 0, 0, 23)) rfl) F
set_option maxRecDepth 20000 in
theorem B_110_26 (hT : yLT T) (hR : yLR R) {w : Nat} (hw : T w = (1, 100)) {x2 x3 x4 : Int} (F : (4 ≤ x4 → K none (N, T, R, I)) ∧ (¬ (4 ≤ x4) → yW l zSS D cy zFk z d 5 0 0 (fun r h' => ∃ r3 I2, r = some (yi r3) ∧ h' = (N, T, R, I2) ∧ (yW l zSS D cy zFk z d 10 0 0 (fun r h' => ∃ r5 I4, r = some (yi r5) ∧ h' = (N, T, R, I4) ∧ ((r5 = 0 → yW l zSS D cy zFk z (d + 1) 110 bc bs K 0 0 26 [(0, yr (some 85)), (1, yr (some w)), (2, yi x2), (3, yi x3), (4, yi (yadd x4 1))] [] (N, T, R, I4)) ∧ (¬ (r5 = 0) → yW l zSS D cy zFk z d 12 0 0 (fun r h' => ∃ r8 I7, r = some (yi r8) ∧ h' = (N, T, R, I7) ∧ ((r8 ≠ 0 → yW l zSS D cy zFk z (d + 1) 110 bc bs K 0 0 26 [(0, yr (some 85)), (1, yr (some w)), (2, yi x2), (3, yi x3), (4, yi (yadd x4 1))] [] (N, T, R, I7)) ∧ (¬ (r8 ≠ 0) → yW l zSS D cy zFk z d 25 0 0 (fun r h' => ∃ r11 I10, r = some (yi r11) ∧ h' = (N, T, R, I10) ∧ ((r11 = x2 → 0 ≤ (yadd x3 r3) ∧ (yadd x3 r3) < 800 ∧ (((I10 86 (yadd x3 r3).toNat) ≠ (-1) → 0 ≤ (yadd x3 r3) ∧ (yadd x3 r3) < 800 ∧ (0 ≤ (yadd x3 x2) ∧ (yadd x3 x2) < 800 ∧ (((I10 86 (yadd x3 r3).toNat) ≠ (yadd (I10 86 (yadd x3 x2).toNat) 1) → yW l zSS D cy zFk z (d + 1) 110 bc bs K 0 0 26 [(0, yr (some 85)), (1, yr (some w)), (2, yi x2), (3, yi x3), (4, yi (yadd x4 1))] [] (N, T, R, I10)) ∧ (¬ ((I10 86 (yadd x3 r3).toNat) ≠ (yadd (I10 86 (yadd x3 x2).toNat) 1)) → 0 ≤ (yadd x3 r3) ∧ (yadd x3 r3) < 800 ∧ (0 ≤ (yadd x3 r3) ∧ (yadd x3 r3) < 800 ∧ (∀ I25, I25 = yU I10 87 ((yadd x3 r3).toNat) (ynar 1 (ymin (I10 87 (yadd x3 r3).toNat) x4)) → (yW l zSS D cy zFk z (d + 1) 110 bc bs K 0 0 26 [(0, yr (some 85)), (1, yr (some w)), (2, yi x2), (3, yi x3), (4, yi (yadd x4 1))] [] (N, T, R, I25)))))))) ∧ (¬ ((I10 86 (yadd x3 r3).toNat) ≠ (-1)) → (100 ≤ (I10 85 4) → 0 ≤ (yadd x3 r3) ∧ (yadd x3 r3) < 800 ∧ (0 ≤ (yadd x3 x2) ∧ (yadd x3 x2) < 800 ∧ (((I10 86 (yadd x3 r3).toNat) ≠ (yadd (I10 86 (yadd x3 x2).toNat) 1) → yW l zSS D cy zFk z (d + 1) 110 bc bs K 0 0 26 [(0, yr (some 85)), (1, yr (some w)), (2, yi x2), (3, yi x3), (4, yi (yadd x4 1))] [] (N, T, R, I10)) ∧ (¬ ((I10 86 (yadd x3 r3).toNat) ≠ (yadd (I10 86 (yadd x3 x2).toNat) 1)) → 0 ≤ (yadd x3 r3) ∧ (yadd x3 r3) < 800 ∧ (0 ≤ (yadd x3 r3) ∧ (yadd x3 r3) < 800 ∧ (∀ I36, I36 = yU I10 87 ((yadd x3 r3).toNat) (ynar 1 (ymin (I10 87 (yadd x3 r3).toNat) x4)) → (yW l zSS D cy zFk z (d + 1) 110 bc bs K 0 0 26 [(0, yr (some 85)), (1, yr (some w)), (2, yi x2), (3, yi x3), (4, yi (yadd x4 1))] [] (N, T, R, I36)))))))) ∧ (¬ (100 ≤ (I10 85 4)) → 0 ≤ (yadd x3 x2) ∧ (yadd x3 x2) < 800 ∧ (0 ≤ (yadd x3 r3) ∧ (yadd x3 r3) < 800 ∧ (∀ I41, I41 = yU I10 86 ((yadd x3 r3).toNat) (ynar 1 (yadd (I10 86 (yadd x3 x2).toNat) 1)) → (0 ≤ (yadd x3 r3) ∧ (yadd x3 r3) < 800 ∧ (∀ I44, I44 = yU I41 87 ((yadd x3 r3).toNat) (ynar 1 x4) → (0 ≤ (I44 85 4) ∧ (I44 85 4) < 100 ∧ (∀ I47, I47 = yU I44 88 ((I44 85 4).toNat) (ynar 1 r3) → (∀ I48, I48 = yU I47 85 4 (yadd (I47 85 4) 1) → (yW l zSS D cy zFk z (d + 1) 110 bc bs K 0 0 26 [(0, yr (some 85)), (1, yr (some w)), (2, yi x2), (3, yi x3), (4, yi (yadd x4 1))] [] (N, T, R, I48))))))))))))) ∧ (¬ (r11 = x2) → yW l zSS D cy zFk z (d + 1) 110 bc bs K 0 0 26 [(0, yr (some 85)), (1, yr (some w)), (2, yi x2), (3, yi x3), (4, yi (yadd x4 1))] [] (N, T, R, I10)))) 0 0 0 [(0, yr (some 4)), (1, yr (some w)), (2, yi r3), (3, yi x4)] [] (N, T, R, I7)))) 0 0 0 [(0, yr (some 4)), (1, yi r3), (2, yi 1)] [] (N, T, R, I4)))) 0 0 0 [(0, yr (some 4)), (1, yi r3)] [] (N, T, R, I2))) 0 0 0 [(0, yr (some 4)), (1, yi x2), (2, yi (yrem (yadd x4 2) 4))] [] (N, T, R, I))) :
    yW l zSS D cy zFk z (d + 1) 110 bc bs K 0 0 26 [(0, yr (some 85)), (1, yr (some w)), (2, yi x2), (3, yi x3), (4, yi x4)] [] (N, T, R, I) := by
  refine e_11 (f_110 (pc := 26) (e := (26, 11, 4, 0, 0, 0, 0, 28)) rfl) rfl ?_
  refine e_0 (f_110 (pc := 28) (e := (28, 0, 4, 0, 0, 0, 0, 29)) rfl) (v := 4) rfl ?_
  refine e_73 (f_110 (pc := 29) (e := (29, 73, 213, 0, 0, 0, 0, 32)) rfl) (fun c1 => ?_) (fun c1 => ?_)
  · replace F := F.1 c1
    exact e_122 (f_110 (pc := 213) (e := (213, 122, 0, 0, 0, 0, 0, 0)) rfl) F
  · replace F := F.2 c1
    refine e_12 (f_110 (pc := 32) (e := (32, 12, 0, 0, 0, 0, 0, 33)) rfl) rfl ?_
    refine e_90r zA (f_110 (pc := 33) (e := (33, 90, 8, 0, 3, 21, 1036, 36)) rfl) rfl (hT 85 rfl) rfl rfl (hR 85 0 rfl) ?_
    refine e_10 (f_110 (pc := 36) (e := (36, 10, 2, 0, 0, 0, 0, 37)) rfl) rfl ?_
    refine e_11 (f_110 (pc := 37) (e := (37, 11, 4, 0, 0, 0, 0, 39)) rfl) rfl ?_
    refine e_0 (f_110 (pc := 39) (e := (39, 0, 2, 0, 0, 0, 0, 40)) rfl) (v := 2) rfl ?_
    refine e_30 (f_110 (pc := 40) (e := (40, 30, 0, 0, 0, 0, 0, 41)) rfl) ?_
    refine e_0 (f_110 (pc := 41) (e := (41, 0, 4, 0, 0, 0, 0, 42)) rfl) (v := 4) rfl ?_
    refine e_34 (f_110 (pc := 42) (e := (42, 34, 0, 0, 0, 0, 0, 43)) rfl) (by decide) ?_
    refine e_130 (f_110 (pc := 43) (e := (43, 130, 5, 0, 1, 43, 1037, 46)) rfl) zA (as := [yr (some 4), yi x2, yi _]) (rest := []) rfl rfl rfl rfl (Nat.le_of_ble_eq_true rfl) (Nat.le_of_ble_eq_true rfl) ⟨_, _, _, rfl, (hT 4 rfl)⟩ (mc := 0) (ms := 0) (Nat.zero_le _) (Nat.zero_le _) ?_
    refine e_K ?_ F
    rintro r h' ⟨r3, I2, rfl, rfl, F⟩
    refine e_21 (f_110 (pc := 46) (e := (46, 21, 5, 0, 0, 0, 0, 48)) rfl) ?_
    refine e_12 (f_110 (pc := 48) (e := (48, 12, 0, 0, 0, 0, 0, 49)) rfl) rfl ?_
    refine e_90r zA (f_110 (pc := 49) (e := (49, 90, 8, 0, 3, 21, 1036, 52)) rfl) rfl (hT 85 rfl) rfl rfl (hR 85 0 rfl) ?_
    refine e_11 (f_110 (pc := 52) (e := (52, 11, 5, 0, 0, 0, 0, 54)) rfl) rfl ?_
    refine e_130 (f_110 (pc := 54) (e := (54, 130, 10, 0, 1, 25, 1038, 57)) rfl) zA (as := [yr (some 4), yi r3]) (rest := []) rfl rfl rfl rfl (Nat.le_of_ble_eq_true rfl) (Nat.le_of_ble_eq_true rfl) ⟨_, _, _, rfl, (hT 4 rfl)⟩ (mc := 0) (ms := 0) (Nat.zero_le _) (Nat.zero_le _) ?_
    refine e_K ?_ F
    rintro r h' ⟨r5, I4, rfl, rfl, F⟩
    refine e_60 (f_110 (pc := 57) (e := (57, 60, 207, 0, 0, 0, 0, 60)) rfl) (fun c6 => ?_) (fun c6 => ?_)
    · replace F := F.1 c6
      refine e_26 (f_110 (pc := 207) (e := (207, 26, 4, 1, 0, 0, 0, 210)) rfl) (w := 1) rfl rfl ?_
      refine e_80 (f_110 (pc := 210) (e := (210, 80, 26, 0, 0, 0, 0, 213)) rfl) ?_
      refine e_lo [0, 1, 2, 3, 4] rfl ?_
      exact F
    · replace F := F.2 c6
      refine e_12 (f_110 (pc := 60) (e := (60, 12, 0, 0, 0, 0, 0, 61)) rfl) rfl ?_
      refine e_90r zA (f_110 (pc := 61) (e := (61, 90, 8, 0, 3, 21, 1036, 64)) rfl) rfl (hT 85 rfl) rfl rfl (hR 85 0 rfl) ?_
      refine e_11 (f_110 (pc := 64) (e := (64, 11, 5, 0, 0, 0, 0, 66)) rfl) rfl ?_
      refine e_0 (f_110 (pc := 66) (e := (66, 0, 1, 0, 0, 0, 0, 67)) rfl) (v := 1) rfl ?_
      refine e_130 (f_110 (pc := 67) (e := (67, 130, 12, 0, 1, 31, 1039, 70)) rfl) zA (as := [yr (some 4), yi r3, yi 1]) (rest := []) rfl rfl rfl rfl (Nat.le_of_ble_eq_true rfl) (Nat.le_of_ble_eq_true rfl) ⟨_, _, _, rfl, (hT 4 rfl)⟩ (mc := 0) (ms := 0) (Nat.zero_le _) (Nat.zero_le _) ?_
      refine e_K ?_ F
      rintro r h' ⟨r8, I7, rfl, rfl, F⟩
      refine e_61 (f_110 (pc := 70) (e := (70, 61, 207, 0, 0, 0, 0, 73)) rfl) (fun c9 => ?_) (fun c9 => ?_)
      · replace F := F.1 c9
        refine e_26 (f_110 (pc := 207) (e := (207, 26, 4, 1, 0, 0, 0, 210)) rfl) (w := 1) rfl rfl ?_
        refine e_80 (f_110 (pc := 210) (e := (210, 80, 26, 0, 0, 0, 0, 213)) rfl) ?_
        refine e_lo [0, 1, 2, 3, 4] rfl ?_
        exact F
      · replace F := F.2 c9
        refine e_12 (f_110 (pc := 73) (e := (73, 12, 0, 0, 0, 0, 0, 74)) rfl) rfl ?_
        refine e_90r zA (f_110 (pc := 74) (e := (74, 90, 8, 0, 3, 21, 1036, 77)) rfl) rfl (hT 85 rfl) rfl rfl (hR 85 0 rfl) ?_
        refine e_12 (f_110 (pc := 77) (e := (77, 12, 1, 0, 0, 0, 0, 78)) rfl) rfl ?_
        refine e_11 (f_110 (pc := 78) (e := (78, 11, 5, 0, 0, 0, 0, 80)) rfl) rfl ?_
        refine e_11 (f_110 (pc := 80) (e := (80, 11, 4, 0, 0, 0, 0, 82)) rfl) rfl ?_
        refine e_130 (f_110 (pc := 82) (e := (82, 130, 25, 0, 1, 47, 1042, 85)) rfl) zA (as := [yr (some 4), yr (some w), yi r3, yi x4]) (rest := []) rfl rfl rfl rfl (Nat.le_of_ble_eq_true rfl) (Nat.le_of_ble_eq_true rfl) ⟨_, _, _, rfl, (hT 4 rfl)⟩ (mc := 0) (ms := 0) (Nat.zero_le _) (Nat.zero_le _) ?_
        refine e_K ?_ F
        rintro r h' ⟨r11, I10, rfl, rfl, F⟩
        refine e_10 (f_110 (pc := 85) (e := (85, 10, 2, 0, 0, 0, 0, 86)) rfl) rfl ?_
        refine e_70 (f_110 (pc := 86) (e := (86, 70, 92, 0, 0, 0, 0, 89)) rfl) (fun c12 => ?_) (fun c12 => ?_)
        · replace F := F.1 c12
          refine e_10 (f_110 (pc := 92) (e := (92, 10, 3, 0, 0, 0, 0, 93)) rfl) rfl ?_
          refine e_11 (f_110 (pc := 93) (e := (93, 11, 5, 0, 0, 0, 0, 95)) rfl) rfl ?_
          refine e_30 (f_110 (pc := 95) (e := (95, 30, 0, 0, 0, 0, 0, 96)) rfl) ?_
          refine e_21 (f_110 (pc := 96) (e := (96, 21, 6, 0, 0, 0, 0, 98)) rfl) ?_
          refine e_12 (f_110 (pc := 98) (e := (98, 12, 0, 0, 0, 0, 0, 99)) rfl) rfl ?_
          refine e_90r zA (f_110 (pc := 99) (e := (99, 90, 8, 1, 3, 9, 1033, 102)) rfl) rfl (hT 85 rfl) rfl rfl (hR 85 1 rfl) ?_
          refine e_11 (f_110 (pc := 102) (e := (102, 11, 6, 0, 0, 0, 0, 104)) rfl) rfl ?_
          obtain ⟨b13, b14, F⟩ := F
          refine e_110 (f_110 (pc := 104) (e := (104, 110, 0, 0, 0, 0, 0, 105)) rfl) rfl (hT 86 rfl) b13 b14 ?_
          refine e_0 (f_110 (pc := 105) (e := (105, 0, 4294967295, 0, 0, 0, 0, 106)) rfl) (v := (-1)) rfl ?_
          refine e_71 (f_110 (pc := 106) (e := (106, 71, 168, 0, 0, 0, 0, 109)) rfl) (fun c15 => ?_) (fun c15 => ?_)
          · replace F := F.1 c15
            refine e_12 (f_110 (pc := 168) (e := (168, 12, 0, 0, 0, 0, 0, 169)) rfl) rfl ?_
            refine e_90r zA (f_110 (pc := 169) (e := (169, 90, 8, 1, 3, 9, 1033, 172)) rfl) rfl (hT 85 rfl) rfl rfl (hR 85 1 rfl) ?_
            refine e_11 (f_110 (pc := 172) (e := (172, 11, 6, 0, 0, 0, 0, 174)) rfl) rfl ?_
            obtain ⟨b16, b17, F⟩ := F
            refine e_110 (f_110 (pc := 174) (e := (174, 110, 0, 0, 0, 0, 0, 175)) rfl) rfl (hT 86 rfl) b16 b17 ?_
            refine e_12 (f_110 (pc := 175) (e := (175, 12, 0, 0, 0, 0, 0, 176)) rfl) rfl ?_
            refine e_90r zA (f_110 (pc := 176) (e := (176, 90, 8, 1, 3, 9, 1033, 179)) rfl) rfl (hT 85 rfl) rfl rfl (hR 85 1 rfl) ?_
            refine e_10 (f_110 (pc := 179) (e := (179, 10, 3, 0, 0, 0, 0, 180)) rfl) rfl ?_
            refine e_10 (f_110 (pc := 180) (e := (180, 10, 2, 0, 0, 0, 0, 181)) rfl) rfl ?_
            refine e_30 (f_110 (pc := 181) (e := (181, 30, 0, 0, 0, 0, 0, 182)) rfl) ?_
            obtain ⟨b18, b19, F⟩ := F
            refine e_110 (f_110 (pc := 182) (e := (182, 110, 0, 0, 0, 0, 0, 183)) rfl) rfl (hT 86 rfl) b18 b19 ?_
            refine e_0 (f_110 (pc := 183) (e := (183, 0, 1, 0, 0, 0, 0, 184)) rfl) (v := 1) rfl ?_
            refine e_30 (f_110 (pc := 184) (e := (184, 30, 0, 0, 0, 0, 0, 185)) rfl) ?_
            refine e_71 (f_110 (pc := 185) (e := (185, 71, 207, 0, 0, 0, 0, 188)) rfl) (fun c20 => ?_) (fun c20 => ?_)
            · replace F := F.1 c20
              refine e_26 (f_110 (pc := 207) (e := (207, 26, 4, 1, 0, 0, 0, 210)) rfl) (w := 1) rfl rfl ?_
              refine e_80 (f_110 (pc := 210) (e := (210, 80, 26, 0, 0, 0, 0, 213)) rfl) ?_
              refine e_lo [0, 1, 2, 3, 4] rfl ?_
              exact F
            · replace F := F.2 c20
              refine e_12 (f_110 (pc := 188) (e := (188, 12, 0, 0, 0, 0, 0, 189)) rfl) rfl ?_
              refine e_90r zA (f_110 (pc := 189) (e := (189, 90, 8, 2, 3, 15, 1034, 192)) rfl) rfl (hT 85 rfl) rfl rfl (hR 85 2 rfl) ?_
              refine e_11 (f_110 (pc := 192) (e := (192, 11, 6, 0, 0, 0, 0, 194)) rfl) rfl ?_
              refine e_12 (f_110 (pc := 194) (e := (194, 12, 0, 0, 0, 0, 0, 195)) rfl) rfl ?_
              refine e_90r zA (f_110 (pc := 195) (e := (195, 90, 8, 2, 3, 15, 1034, 198)) rfl) rfl (hT 85 rfl) rfl rfl (hR 85 2 rfl) ?_
              refine e_11 (f_110 (pc := 198) (e := (198, 11, 6, 0, 0, 0, 0, 200)) rfl) rfl ?_
              obtain ⟨b21, b22, F⟩ := F
              refine e_110 (f_110 (pc := 200) (e := (200, 110, 0, 0, 0, 0, 0, 201)) rfl) rfl (hT 87 rfl) b21 b22 ?_
              refine e_11 (f_110 (pc := 201) (e := (201, 11, 4, 0, 0, 0, 0, 203)) rfl) rfl ?_
              refine e_136 (f_110 (pc := 203) (e := (203, 136, 0, 0, 0, 51, 1043, 206)) rfl) zA (Nat.succ_pos _) (Nat.le_of_ble_eq_true rfl) ?_
              obtain ⟨b23, b24, F⟩ := F
              refine e_111 (f_110 (pc := 206) (e := (206, 111, 0, 0, 0, 0, 0, 207)) rfl) rfl (hT 87 rfl) b23 b24 ?_
              replace F := F _ rfl
              refine e_26 (f_110 (pc := 207) (e := (207, 26, 4, 1, 0, 0, 0, 210)) rfl) (w := 1) rfl rfl ?_
              refine e_80 (f_110 (pc := 210) (e := (210, 80, 26, 0, 0, 0, 0, 213)) rfl) ?_
              refine e_lo [0, 1, 2, 3, 4] rfl ?_
              exact F
          · replace F := F.2 c15
            refine e_12 (f_110 (pc := 109) (e := (109, 12, 0, 0, 0, 0, 0, 110)) rfl) rfl ?_
            refine e_90 zA (f_110 (pc := 110) (e := (110, 90, 8, 4, 0, 35, 1040, 113)) rfl) rfl (hT 85 rfl) rfl rfl ?_
            refine e_1 (f_110 (pc := 113) (e := (113, 1, 100, 0, 0, 0, 0, 115)) rfl) (v := 100) rfl ?_
            refine e_73 (f_110 (pc := 115) (e := (115, 73, 168, 0, 0, 0, 0, 118)) rfl) (fun c26 => ?_) (fun c26 => ?_)
            · replace F := F.1 c26
              refine e_12 (f_110 (pc := 168) (e := (168, 12, 0, 0, 0, 0, 0, 169)) rfl) rfl ?_
              refine e_90r zA (f_110 (pc := 169) (e := (169, 90, 8, 1, 3, 9, 1033, 172)) rfl) rfl (hT 85 rfl) rfl rfl (hR 85 1 rfl) ?_
              refine e_11 (f_110 (pc := 172) (e := (172, 11, 6, 0, 0, 0, 0, 174)) rfl) rfl ?_
              obtain ⟨b27, b28, F⟩ := F
              refine e_110 (f_110 (pc := 174) (e := (174, 110, 0, 0, 0, 0, 0, 175)) rfl) rfl (hT 86 rfl) b27 b28 ?_
              refine e_12 (f_110 (pc := 175) (e := (175, 12, 0, 0, 0, 0, 0, 176)) rfl) rfl ?_
              refine e_90r zA (f_110 (pc := 176) (e := (176, 90, 8, 1, 3, 9, 1033, 179)) rfl) rfl (hT 85 rfl) rfl rfl (hR 85 1 rfl) ?_
              refine e_10 (f_110 (pc := 179) (e := (179, 10, 3, 0, 0, 0, 0, 180)) rfl) rfl ?_
              refine e_10 (f_110 (pc := 180) (e := (180, 10, 2, 0, 0, 0, 0, 181)) rfl) rfl ?_
              refine e_30 (f_110 (pc := 181) (e := (181, 30, 0, 0, 0, 0, 0, 182)) rfl) ?_
              obtain ⟨b29, b30, F⟩ := F
              refine e_110 (f_110 (pc := 182) (e := (182, 110, 0, 0, 0, 0, 0, 183)) rfl) rfl (hT 86 rfl) b29 b30 ?_
              refine e_0 (f_110 (pc := 183) (e := (183, 0, 1, 0, 0, 0, 0, 184)) rfl) (v := 1) rfl ?_
              refine e_30 (f_110 (pc := 184) (e := (184, 30, 0, 0, 0, 0, 0, 185)) rfl) ?_
              refine e_71 (f_110 (pc := 185) (e := (185, 71, 207, 0, 0, 0, 0, 188)) rfl) (fun c31 => ?_) (fun c31 => ?_)
              · replace F := F.1 c31
                refine e_26 (f_110 (pc := 207) (e := (207, 26, 4, 1, 0, 0, 0, 210)) rfl) (w := 1) rfl rfl ?_
                refine e_80 (f_110 (pc := 210) (e := (210, 80, 26, 0, 0, 0, 0, 213)) rfl) ?_
                refine e_lo [0, 1, 2, 3, 4] rfl ?_
                exact F
              · replace F := F.2 c31
                refine e_12 (f_110 (pc := 188) (e := (188, 12, 0, 0, 0, 0, 0, 189)) rfl) rfl ?_
                refine e_90r zA (f_110 (pc := 189) (e := (189, 90, 8, 2, 3, 15, 1034, 192)) rfl) rfl (hT 85 rfl) rfl rfl (hR 85 2 rfl) ?_
                refine e_11 (f_110 (pc := 192) (e := (192, 11, 6, 0, 0, 0, 0, 194)) rfl) rfl ?_
                refine e_12 (f_110 (pc := 194) (e := (194, 12, 0, 0, 0, 0, 0, 195)) rfl) rfl ?_
                refine e_90r zA (f_110 (pc := 195) (e := (195, 90, 8, 2, 3, 15, 1034, 198)) rfl) rfl (hT 85 rfl) rfl rfl (hR 85 2 rfl) ?_
                refine e_11 (f_110 (pc := 198) (e := (198, 11, 6, 0, 0, 0, 0, 200)) rfl) rfl ?_
                obtain ⟨b32, b33, F⟩ := F
                refine e_110 (f_110 (pc := 200) (e := (200, 110, 0, 0, 0, 0, 0, 201)) rfl) rfl (hT 87 rfl) b32 b33 ?_
                refine e_11 (f_110 (pc := 201) (e := (201, 11, 4, 0, 0, 0, 0, 203)) rfl) rfl ?_
                refine e_136 (f_110 (pc := 203) (e := (203, 136, 0, 0, 0, 51, 1043, 206)) rfl) zA (Nat.succ_pos _) (Nat.le_of_ble_eq_true rfl) ?_
                obtain ⟨b34, b35, F⟩ := F
                refine e_111 (f_110 (pc := 206) (e := (206, 111, 0, 0, 0, 0, 0, 207)) rfl) rfl (hT 87 rfl) b34 b35 ?_
                replace F := F _ rfl
                refine e_26 (f_110 (pc := 207) (e := (207, 26, 4, 1, 0, 0, 0, 210)) rfl) (w := 1) rfl rfl ?_
                refine e_80 (f_110 (pc := 210) (e := (210, 80, 26, 0, 0, 0, 0, 213)) rfl) ?_
                refine e_lo [0, 1, 2, 3, 4] rfl ?_
                exact F
            · replace F := F.2 c26
              refine e_12 (f_110 (pc := 118) (e := (118, 12, 0, 0, 0, 0, 0, 119)) rfl) rfl ?_
              refine e_90r zA (f_110 (pc := 119) (e := (119, 90, 8, 1, 3, 9, 1033, 122)) rfl) rfl (hT 85 rfl) rfl rfl (hR 85 1 rfl) ?_
              refine e_11 (f_110 (pc := 122) (e := (122, 11, 6, 0, 0, 0, 0, 124)) rfl) rfl ?_
              refine e_12 (f_110 (pc := 124) (e := (124, 12, 0, 0, 0, 0, 0, 125)) rfl) rfl ?_
              refine e_90r zA (f_110 (pc := 125) (e := (125, 90, 8, 1, 3, 9, 1033, 128)) rfl) rfl (hT 85 rfl) rfl rfl (hR 85 1 rfl) ?_
              refine e_10 (f_110 (pc := 128) (e := (128, 10, 3, 0, 0, 0, 0, 129)) rfl) rfl ?_
              refine e_10 (f_110 (pc := 129) (e := (129, 10, 2, 0, 0, 0, 0, 130)) rfl) rfl ?_
              refine e_30 (f_110 (pc := 130) (e := (130, 30, 0, 0, 0, 0, 0, 131)) rfl) ?_
              obtain ⟨b37, b38, F⟩ := F
              refine e_110 (f_110 (pc := 131) (e := (131, 110, 0, 0, 0, 0, 0, 132)) rfl) rfl (hT 86 rfl) b37 b38 ?_
              refine e_0 (f_110 (pc := 132) (e := (132, 0, 1, 0, 0, 0, 0, 133)) rfl) (v := 1) rfl ?_
              refine e_30 (f_110 (pc := 133) (e := (133, 30, 0, 0, 0, 0, 0, 134)) rfl) ?_
              obtain ⟨b39, b40, F⟩ := F
              refine e_111 (f_110 (pc := 134) (e := (134, 111, 0, 0, 0, 0, 0, 135)) rfl) rfl (hT 86 rfl) b39 b40 ?_
              replace F := F _ rfl
              refine e_12 (f_110 (pc := 135) (e := (135, 12, 0, 0, 0, 0, 0, 136)) rfl) rfl ?_
              refine e_90r zA (f_110 (pc := 136) (e := (136, 90, 8, 2, 3, 15, 1034, 139)) rfl) rfl (hT 85 rfl) rfl rfl (hR 85 2 rfl) ?_
              refine e_11 (f_110 (pc := 139) (e := (139, 11, 6, 0, 0, 0, 0, 141)) rfl) rfl ?_
              refine e_11 (f_110 (pc := 141) (e := (141, 11, 4, 0, 0, 0, 0, 143)) rfl) rfl ?_
              obtain ⟨b42, b43, F⟩ := F
              refine e_111 (f_110 (pc := 143) (e := (143, 111, 0, 0, 0, 0, 0, 144)) rfl) rfl (hT 87 rfl) b42 b43 ?_
              replace F := F _ rfl
              refine e_12 (f_110 (pc := 144) (e := (144, 12, 0, 0, 0, 0, 0, 145)) rfl) rfl ?_
              refine e_90r zA (f_110 (pc := 145) (e := (145, 90, 8, 3, 3, 18, 1035, 148)) rfl) rfl (hT 85 rfl) rfl rfl (hR 85 3 rfl) ?_
              refine e_12 (f_110 (pc := 148) (e := (148, 12, 0, 0, 0, 0, 0, 149)) rfl) rfl ?_
              refine e_90 zA (f_110 (pc := 149) (e := (149, 90, 8, 4, 0, 35, 1040, 152)) rfl) rfl (hT 85 rfl) rfl rfl ?_
              refine e_11 (f_110 (pc := 152) (e := (152, 11, 5, 0, 0, 0, 0, 154)) rfl) rfl ?_
              obtain ⟨b45, b46, F⟩ := F
              refine e_111 (f_110 (pc := 154) (e := (154, 111, 0, 0, 0, 0, 0, 155)) rfl) rfl (hT 88 rfl) b45 b46 ?_
              replace F := F _ rfl
              refine e_12 (f_110 (pc := 155) (e := (155, 12, 0, 0, 0, 0, 0, 156)) rfl) rfl ?_
              refine e_50 (f_110 (pc := 156) (e := (156, 50, 0, 0, 0, 0, 0, 157)) rfl) rfl ?_
              refine e_90 zA (f_110 (pc := 157) (e := (157, 90, 8, 4, 0, 35, 1040, 160)) rfl) rfl (hT 85 rfl) rfl rfl ?_
              refine e_0 (f_110 (pc := 160) (e := (160, 0, 1, 0, 0, 0, 0, 161)) rfl) (v := 1) rfl ?_
              refine e_30 (f_110 (pc := 161) (e := (161, 30, 0, 0, 0, 0, 0, 162)) rfl) ?_
              refine e_91 zA (f_110 (pc := 162) (e := (162, 91, 8, 4, 0, 35, 1040, 165)) rfl) rfl (hT 85 rfl) rfl rfl trivial ?_
              replace F := F _ rfl
              refine e_80 (f_110 (pc := 165) (e := (165, 80, 207, 0, 0, 0, 0, 168)) rfl) ?_
              refine e_26 (f_110 (pc := 207) (e := (207, 26, 4, 1, 0, 0, 0, 210)) rfl) (w := 1) rfl rfl ?_
              refine e_80 (f_110 (pc := 210) (e := (210, 80, 26, 0, 0, 0, 0, 213)) rfl) ?_
              refine e_lo [0, 1, 2, 3, 4] rfl ?_
              exact F
        · replace F := F.2 c12
          refine e_80 (f_110 (pc := 89) (e := (89, 80, 207, 0, 0, 0, 0, 92)) rfl) ?_
          refine e_26 (f_110 (pc := 207) (e := (207, 26, 4, 1, 0, 0, 0, 210)) rfl) (w := 1) rfl rfl ?_
          refine e_80 (f_110 (pc := 210) (e := (210, 80, 26, 0, 0, 0, 0, 213)) rfl) ?_
          refine e_lo [0, 1, 2, 3, 4] rfl ?_
          exact F

/-! ChairAlley$World.copyFrom(LChairAlley$World;)V -/
set_option maxRecDepth 20000 in
theorem B_112_0 (hT : yLT T) (hR : yLR R) {p : Nat} (hp : yAtWorld T R p) {q : Nat} (hq : yAtWorld T R q) (F : yW l zSS D cy zFk z d 8 0 0 (fun r h' => ∃ I1, r = none ∧ h' = (N, T, R, I1) ∧ (yW l zSS D cy zFk z d 62 0 0 (fun r h' => ∃ I2, r = none ∧ h' = (N, T, R, I2) ∧ (yW l zSS D cy zFk z d 27 0 0 (fun r h' => ∃ I3, r = none ∧ h' = (N, T, R, I3) ∧ (yW l zSS D cy zFk z d 47 0 0 (fun r h' => ∃ I4, r = none ∧ h' = (N, T, R, I4) ∧ (K none (N, T, R, I4))) 0 0 0 [(0, yr (some (p + 28))), (1, yr (some (q + 28)))] [] (N, T, R, I3))) 0 0 0 [(0, yr (some (p + 26))), (1, yr (some (q + 26)))] [] (N, T, R, I2))) 0 0 0 [(0, yr (some (p + 13))), (1, yr (some (q + 13)))] [] (N, T, R, I1))) 0 0 0 [(0, yr (some (p + 1))), (1, yr (some (q + 1)))] [] (N, T, R, I)) :
    yW l zSS D cy zFk z (d + 1) 112 bc bs K 0 0 0 [(0, yr (some p)), (1, yr (some q))] [] (N, T, R, I) := by
  refine e_12 (f_112 (pc := 0) (e := (0, 12, 0, 0, 0, 0, 0, 1)) rfl) rfl ?_
  refine e_90r zA (f_112 (pc := 1) (e := (1, 90, 9, 0, 3, 10, 1046, 4)) rfl) rfl (hp.1 0 rfl) rfl rfl (hp.2 0 rfl) ?_
  refine e_12 (f_112 (pc := 4) (e := (4, 12, 1, 0, 0, 0, 0, 5)) rfl) rfl ?_
  refine e_90r zA (f_112 (pc := 5) (e := (5, 90, 9, 0, 3, 10, 1046, 8)) rfl) rfl (hq.1 0 rfl) rfl rfl (hq.2 0 rfl) ?_
  refine e_130 (f_112 (pc := 8) (e := (8, 130, 8, 0, 1, 44, 1055, 11)) rfl) zA (as := [yr (some (p + 1)), yr (some (q + 1))]) (rest := []) rfl rfl rfl rfl (Nat.le_of_ble_eq_true rfl) (Nat.le_of_ble_eq_true rfl) ⟨_, _, _, rfl, (hp.1 1 rfl)⟩ (mc := 0) (ms := 0) (Nat.zero_le _) (Nat.zero_le _) ?_
  refine e_K ?_ F
  rintro r h' ⟨I1, rfl, rfl, F⟩
  refine e_12 (f_112 (pc := 11) (e := (11, 12, 0, 0, 0, 0, 0, 12)) rfl) rfl ?_
  refine e_90r zA (f_112 (pc := 12) (e := (12, 90, 9, 1, 3, 19, 1048, 15)) rfl) rfl (hp.1 0 rfl) rfl rfl (hp.2 1 rfl) ?_
  refine e_12 (f_112 (pc := 15) (e := (15, 12, 1, 0, 0, 0, 0, 16)) rfl) rfl ?_
  refine e_90r zA (f_112 (pc := 16) (e := (16, 90, 9, 1, 3, 19, 1048, 19)) rfl) rfl (hq.1 0 rfl) rfl rfl (hq.2 1 rfl) ?_
  refine e_130 (f_112 (pc := 19) (e := (19, 130, 62, 0, 5, 47, 1056, 22)) rfl) zA (as := [yr (some (p + 13)), yr (some (q + 13))]) (rest := []) rfl rfl rfl rfl (Nat.le_of_ble_eq_true rfl) (Nat.le_of_ble_eq_true rfl) ⟨_, _, _, rfl, (hp.1 13 rfl)⟩ (mc := 0) (ms := 0) (Nat.zero_le _) (Nat.zero_le _) ?_
  refine e_K ?_ F
  rintro r h' ⟨I2, rfl, rfl, F⟩
  refine e_12 (f_112 (pc := 22) (e := (22, 12, 0, 0, 0, 0, 0, 23)) rfl) rfl ?_
  refine e_90r zA (f_112 (pc := 23) (e := (23, 90, 9, 2, 3, 26, 1050, 26)) rfl) rfl (hp.1 0 rfl) rfl rfl (hp.2 2 rfl) ?_
  refine e_12 (f_112 (pc := 26) (e := (26, 12, 1, 0, 0, 0, 0, 27)) rfl) rfl ?_
  refine e_90r zA (f_112 (pc := 27) (e := (27, 90, 9, 2, 3, 26, 1050, 30)) rfl) rfl (hq.1 0 rfl) rfl rfl (hq.2 2 rfl) ?_
  refine e_130 (f_112 (pc := 30) (e := (30, 130, 27, 0, 2, 50, 1057, 33)) rfl) zA (as := [yr (some (p + 26)), yr (some (q + 26))]) (rest := []) rfl rfl rfl rfl (Nat.le_of_ble_eq_true rfl) (Nat.le_of_ble_eq_true rfl) ⟨_, _, _, rfl, (hp.1 26 rfl)⟩ (mc := 0) (ms := 0) (Nat.zero_le _) (Nat.zero_le _) ?_
  refine e_K ?_ F
  rintro r h' ⟨I3, rfl, rfl, F⟩
  refine e_12 (f_112 (pc := 33) (e := (33, 12, 0, 0, 0, 0, 0, 34)) rfl) rfl ?_
  refine e_90r zA (f_112 (pc := 34) (e := (34, 90, 9, 3, 3, 33, 1052, 37)) rfl) rfl (hp.1 0 rfl) rfl rfl (hp.2 3 rfl) ?_
  refine e_12 (f_112 (pc := 37) (e := (37, 12, 1, 0, 0, 0, 0, 38)) rfl) rfl ?_
  refine e_90r zA (f_112 (pc := 38) (e := (38, 90, 9, 3, 3, 33, 1052, 41)) rfl) rfl (hq.1 0 rfl) rfl rfl (hq.2 3 rfl) ?_
  refine e_130 (f_112 (pc := 41) (e := (41, 130, 47, 0, 4, 53, 1058, 44)) rfl) zA (as := [yr (some (p + 28)), yr (some (q + 28))]) (rest := []) rfl rfl rfl rfl (Nat.le_of_ble_eq_true rfl) (Nat.le_of_ble_eq_true rfl) ⟨_, _, _, rfl, (hp.1 28 rfl)⟩ (mc := 0) (ms := 0) (Nat.zero_le _) (Nat.zero_le _) ?_
  refine e_K ?_ F
  rintro r h' ⟨I4, rfl, rfl, F⟩
  exact e_122 (f_112 (pc := 44) (e := (44, 122, 0, 0, 0, 0, 0, 0)) rfl) F

/-! ChairAlley.alleys()I -/
set_option maxRecDepth 20000 in
theorem B_114_0 (hT : yLT T) (hR : yLR R) (F : yW l zSS D cy zFk z d 40 0 0 (fun r h' => ∃ I1, r = none ∧ h' = (N, T, R, I1) ∧ (yW l zSS D cy zFk z d 14 0 0 (fun r h' => ∃ r3 I2, r = some (yi r3) ∧ h' = (N, T, R, I2) ∧ (∀ I4, I4 = yU I2 1 1 0 → (((I4 1 10) = 0 → yW l zSS D cy zFk z d 8 0 0 (fun r h' => ∃ I6, r = none ∧ h' = (N, T, R, I6) ∧ (yW l zSS D cy zFk z d 57 0 0 (fun r h' => ∃ I7, r = none ∧ h' = (N, T, R, I7) ∧ (∀ I8, I8 = yU I7 29 0 0 → (∀ I9, I9 = yU I8 31 0 0 → (∀ I10, I10 = yU I9 89 1 0 → (K (some (yi r3)) (N, T, R, I10)))))) 0 0 0 [(0, yr (some 16)), (1, yr (some 4))] [] (N, T, R, I6))) 0 0 0 [(0, yr (some 4)), (1, yr (some 36))] [] (N, T, R, I4)) ∧ (¬ ((I4 1 10) = 0) → K (some (yi (ysub (-1) (I4 1 11)))) (N, T, R, I4))))) 0 0 0 [(0, yr (some 36)), (1, yr (some 1))] [] (N, T, R, I1))) 0 0 0 [(0, yr (some 1)), (1, yi 900)] [] (N, T, R, I)) :
    yW l zSS D cy zFk z (d + 1) 114 bc bs K 0 0 0 [(0, yr (some 0))] [] (N, T, R, I) := by
  refine e_12 (f_114 (pc := 0) (e := (0, 12, 0, 0, 0, 0, 0, 1)) rfl) rfl ?_
  refine e_90r zA (f_114 (pc := 1) (e := (1, 90, 10, 0, 3, 12, 1061, 4)) rfl) rfl (hT 0 rfl) rfl rfl (hR 0 0 rfl) ?_
  refine e_2 (f_114 (pc := 4) (e := (4, 2, 900, 0, 0, 0, 0, 7)) rfl) (v := 900) rfl ?_
  refine e_130 (f_114 (pc := 7) (e := (7, 130, 40, 0, 3, 74, 1078, 10)) rfl) zA (as := [yr (some 1), yi 900]) (rest := []) rfl rfl rfl rfl (Nat.le_of_ble_eq_true rfl) (Nat.le_of_ble_eq_true rfl) ⟨_, _, _, rfl, (hT 1 rfl)⟩ (mc := 0) (ms := 0) (Nat.zero_le _) (Nat.zero_le _) ?_
  refine e_K ?_ F
  rintro r h' ⟨I1, rfl, rfl, F⟩
  refine e_12 (f_114 (pc := 10) (e := (10, 12, 0, 0, 0, 0, 0, 11)) rfl) rfl ?_
  refine e_90r zA (f_114 (pc := 11) (e := (11, 90, 10, 2, 3, 23, 1065, 14)) rfl) rfl (hT 0 rfl) rfl rfl (hR 0 2 rfl) ?_
  refine e_90r zA (f_114 (pc := 14) (e := (14, 90, 9, 0, 3, 28, 1067, 17)) rfl) rfl (hT 35 rfl) rfl rfl (hR 35 0 rfl) ?_
  refine e_12 (f_114 (pc := 17) (e := (17, 12, 0, 0, 0, 0, 0, 18)) rfl) rfl ?_
  refine e_90r zA (f_114 (pc := 18) (e := (18, 90, 10, 0, 3, 12, 1061, 21)) rfl) rfl (hT 0 rfl) rfl rfl (hR 0 0 rfl) ?_
  refine e_130 (f_114 (pc := 21) (e := (21, 130, 14, 0, 1, 77, 1079, 24)) rfl) zA (as := [yr (some 36), yr (some 1)]) (rest := []) rfl rfl rfl rfl (Nat.le_of_ble_eq_true rfl) (Nat.le_of_ble_eq_true rfl) ⟨_, _, _, rfl, (hT 36 rfl)⟩ (mc := 0) (ms := 0) (Nat.zero_le _) (Nat.zero_le _) ?_
  refine e_K ?_ F
  rintro r h' ⟨r3, I2, rfl, rfl, F⟩
  refine e_20 (f_114 (pc := 24) (e := (24, 20, 1, 0, 0, 0, 0, 25)) rfl) ?_
  refine e_12 (f_114 (pc := 25) (e := (25, 12, 0, 0, 0, 0, 0, 26)) rfl) rfl ?_
  refine e_90r zA (f_114 (pc := 26) (e := (26, 90, 10, 0, 3, 12, 1061, 29)) rfl) rfl (hT 0 rfl) rfl rfl (hR 0 0 rfl) ?_
  refine e_0 (f_114 (pc := 29) (e := (29, 0, 0, 0, 0, 0, 0, 30)) rfl) (v := 0) rfl ?_
  refine e_91 zA (f_114 (pc := 30) (e := (30, 91, 3, 1, 0, 67, 1080, 33)) rfl) rfl (hT 1 rfl) rfl rfl trivial ?_
  replace F := F _ rfl
  refine e_12 (f_114 (pc := 33) (e := (33, 12, 0, 0, 0, 0, 0, 34)) rfl) rfl ?_
  refine e_90r zA (f_114 (pc := 34) (e := (34, 90, 10, 0, 3, 12, 1061, 37)) rfl) rfl (hT 0 rfl) rfl rfl (hR 0 0 rfl) ?_
  refine e_90 zA (f_114 (pc := 37) (e := (37, 90, 3, 10, 0, 83, 1081, 40)) rfl) rfl (hT 1 rfl) rfl rfl ?_
  refine e_60 (f_114 (pc := 40) (e := (40, 60, 53, 0, 0, 0, 0, 43)) rfl) (fun c5 => ?_) (fun c5 => ?_)
  · replace F := F.1 c5
    refine e_12 (f_114 (pc := 53) (e := (53, 12, 0, 0, 0, 0, 0, 54)) rfl) rfl ?_
    refine e_90r zA (f_114 (pc := 54) (e := (54, 90, 10, 1, 3, 19, 1064, 57)) rfl) rfl (hT 0 rfl) rfl rfl (hR 0 1 rfl) ?_
    refine e_90r zA (f_114 (pc := 57) (e := (57, 90, 9, 0, 3, 28, 1067, 60)) rfl) rfl (hT 3 rfl) rfl rfl (hR 3 0 rfl) ?_
    refine e_12 (f_114 (pc := 60) (e := (60, 12, 0, 0, 0, 0, 0, 61)) rfl) rfl ?_
    refine e_90r zA (f_114 (pc := 61) (e := (61, 90, 10, 2, 3, 23, 1065, 64)) rfl) rfl (hT 0 rfl) rfl rfl (hR 0 2 rfl) ?_
    refine e_90r zA (f_114 (pc := 64) (e := (64, 90, 9, 0, 3, 28, 1067, 67)) rfl) rfl (hT 35 rfl) rfl rfl (hR 35 0 rfl) ?_
    refine e_130 (f_114 (pc := 67) (e := (67, 130, 8, 0, 1, 89, 1083, 70)) rfl) zA (as := [yr (some 4), yr (some 36)]) (rest := []) rfl rfl rfl rfl (Nat.le_of_ble_eq_true rfl) (Nat.le_of_ble_eq_true rfl) ⟨_, _, _, rfl, (hT 4 rfl)⟩ (mc := 0) (ms := 0) (Nat.zero_le _) (Nat.zero_le _) ?_
    refine e_K ?_ F
    rintro r h' ⟨I6, rfl, rfl, F⟩
    refine e_12 (f_114 (pc := 70) (e := (70, 12, 0, 0, 0, 0, 0, 71)) rfl) rfl ?_
    refine e_90r zA (f_114 (pc := 71) (e := (71, 90, 10, 1, 3, 19, 1064, 74)) rfl) rfl (hT 0 rfl) rfl rfl (hR 0 1 rfl) ?_
    refine e_90r zA (f_114 (pc := 74) (e := (74, 90, 9, 1, 3, 92, 1084, 77)) rfl) rfl (hT 3 rfl) rfl rfl (hR 3 1 rfl) ?_
    refine e_12 (f_114 (pc := 77) (e := (77, 12, 0, 0, 0, 0, 0, 78)) rfl) rfl ?_
    refine e_90r zA (f_114 (pc := 78) (e := (78, 90, 10, 1, 3, 19, 1064, 81)) rfl) rfl (hT 0 rfl) rfl rfl (hR 0 1 rfl) ?_
    refine e_90r zA (f_114 (pc := 81) (e := (81, 90, 9, 0, 3, 28, 1067, 84)) rfl) rfl (hT 3 rfl) rfl rfl (hR 3 0 rfl) ?_
    refine e_130 (f_114 (pc := 84) (e := (84, 130, 57, 0, 5, 96, 1085, 87)) rfl) zA (as := [yr (some 16), yr (some 4)]) (rest := []) rfl rfl rfl rfl (Nat.le_of_ble_eq_true rfl) (Nat.le_of_ble_eq_true rfl) ⟨_, _, _, rfl, (hT 16 rfl)⟩ (mc := 0) (ms := 0) (Nat.zero_le _) (Nat.zero_le _) ?_
    refine e_K ?_ F
    rintro r h' ⟨I7, rfl, rfl, F⟩
    refine e_12 (f_114 (pc := 87) (e := (87, 12, 0, 0, 0, 0, 0, 88)) rfl) rfl ?_
    refine e_90r zA (f_114 (pc := 88) (e := (88, 90, 10, 1, 3, 19, 1064, 91)) rfl) rfl (hT 0 rfl) rfl rfl (hR 0 1 rfl) ?_
    refine e_90r zA (f_114 (pc := 91) (e := (91, 90, 9, 2, 3, 101, 1086, 94)) rfl) rfl (hT 3 rfl) rfl rfl (hR 3 2 rfl) ?_
    refine e_0 (f_114 (pc := 94) (e := (94, 0, 0, 0, 0, 0, 0, 95)) rfl) (v := 0) rfl ?_
    refine e_91 zA (f_114 (pc := 95) (e := (95, 91, 2, 0, 0, 105, 1087, 98)) rfl) rfl (hT 29 rfl) rfl rfl trivial ?_
    replace F := F _ rfl
    refine e_12 (f_114 (pc := 98) (e := (98, 12, 0, 0, 0, 0, 0, 99)) rfl) rfl ?_
    refine e_90r zA (f_114 (pc := 99) (e := (99, 90, 10, 1, 3, 19, 1064, 102)) rfl) rfl (hT 0 rfl) rfl rfl (hR 0 1 rfl) ?_
    refine e_90r zA (f_114 (pc := 102) (e := (102, 90, 9, 3, 3, 110, 1088, 105)) rfl) rfl (hT 3 rfl) rfl rfl (hR 3 3 rfl) ?_
    refine e_0 (f_114 (pc := 105) (e := (105, 0, 0, 0, 0, 0, 0, 106)) rfl) (v := 0) rfl ?_
    refine e_91 zA (f_114 (pc := 106) (e := (106, 91, 4, 0, 0, 114, 1089, 109)) rfl) rfl (hT 31 rfl) rfl rfl trivial ?_
    replace F := F _ rfl
    refine e_12 (f_114 (pc := 109) (e := (109, 12, 0, 0, 0, 0, 0, 110)) rfl) rfl ?_
    refine e_90r zA (f_114 (pc := 110) (e := (110, 90, 10, 4, 3, 42, 1071, 113)) rfl) rfl (hT 0 rfl) rfl rfl (hR 0 4 rfl) ?_
    refine e_0 (f_114 (pc := 113) (e := (113, 0, 0, 0, 0, 0, 0, 114)) rfl) (v := 0) rfl ?_
    refine e_91 zA (f_114 (pc := 114) (e := (114, 91, 0, 1, 0, 117, 1090, 117)) rfl) rfl (hT 89 rfl) rfl rfl trivial ?_
    replace F := F _ rfl
    refine e_10 (f_114 (pc := 117) (e := (117, 10, 1, 0, 0, 0, 0, 118)) rfl) rfl ?_
    exact e_120 (f_114 (pc := 118) (e := (118, 120, 0, 0, 0, 0, 0, 0)) rfl) F
  · replace F := F.2 c5
    refine e_0 (f_114 (pc := 43) (e := (43, 0, 4294967295, 0, 0, 0, 0, 44)) rfl) (v := (-1)) rfl ?_
    refine e_12 (f_114 (pc := 44) (e := (44, 12, 0, 0, 0, 0, 0, 45)) rfl) rfl ?_
    refine e_90r zA (f_114 (pc := 45) (e := (45, 90, 10, 0, 3, 12, 1061, 48)) rfl) rfl (hT 0 rfl) rfl rfl (hR 0 0 rfl) ?_
    refine e_90 zA (f_114 (pc := 48) (e := (48, 90, 3, 11, 0, 86, 1082, 51)) rfl) rfl (hT 1 rfl) rfl rfl ?_
    refine e_31 (f_114 (pc := 51) (e := (51, 31, 0, 0, 0, 0, 0, 52)) rfl) ?_
    exact e_120 (f_114 (pc := 52) (e := (52, 120, 0, 0, 0, 0, 0, 53)) rfl) F

/-! ChairAlley.began()I -/
set_option maxRecDepth 20000 in
theorem B_115_0 (hT : yLT T) (hR : yLR R) (F : yW l zSS D cy zFk z d 103 0 0 (fun r h' => ∃ I1, r = none ∧ h' = (N, T, R, I1) ∧ (yW l zSS D cy zFk z d 96 0 0 (fun r h' => ∃ I2, r = none ∧ h' = (N, T, R, I2) ∧ (yW l zSS D cy zFk z (d + 1) 115 bc bs K 0 0 25 [(0, yr (some 0)), (1, yi 0), (2, yi 0)] [] (N, T, R, I2))) 0 0 0 [(0, yr (some 67))] [] (N, T, R, I1))) 0 0 0 [(0, yr (some 67)), (1, yr (some 16))] [] (N, T, R, I)) :
    yW l zSS D cy zFk z (d + 1) 115 bc bs K 0 0 0 [(0, yr (some 0))] [] (N, T, R, I) := by
  refine e_12 (f_115 (pc := 0) (e := (0, 12, 0, 0, 0, 0, 0, 1)) rfl) rfl ?_
  refine e_90r zA (f_115 (pc := 1) (e := (1, 90, 10, 3, 3, 35, 1069, 4)) rfl) rfl (hT 0 rfl) rfl rfl (hR 0 3 rfl) ?_
  refine e_12 (f_115 (pc := 4) (e := (4, 12, 0, 0, 0, 0, 0, 5)) rfl) rfl ?_
  refine e_90r zA (f_115 (pc := 5) (e := (5, 90, 10, 1, 3, 19, 1064, 8)) rfl) rfl (hT 0 rfl) rfl rfl (hR 0 1 rfl) ?_
  refine e_90r zA (f_115 (pc := 8) (e := (8, 90, 9, 1, 3, 92, 1084, 11)) rfl) rfl (hT 3 rfl) rfl rfl (hR 3 1 rfl) ?_
  refine e_130 (f_115 (pc := 11) (e := (11, 130, 103, 0, 7, 271, 1091, 14)) rfl) zA (as := [yr (some 67), yr (some 16)]) (rest := []) rfl rfl rfl rfl (Nat.le_of_ble_eq_true rfl) (Nat.le_of_ble_eq_true rfl) ⟨_, _, _, rfl, (hT 67 rfl)⟩ (mc := 0) (ms := 0) (Nat.zero_le _) (Nat.zero_le _) ?_
  refine e_K ?_ F
  rintro r h' ⟨I1, rfl, rfl, F⟩
  refine e_12 (f_115 (pc := 14) (e := (14, 12, 0, 0, 0, 0, 0, 15)) rfl) rfl ?_
  refine e_90r zA (f_115 (pc := 15) (e := (15, 90, 10, 3, 3, 35, 1069, 18)) rfl) rfl (hT 0 rfl) rfl rfl (hR 0 3 rfl) ?_
  refine e_130 (f_115 (pc := 18) (e := (18, 130, 96, 0, 7, 203, 1092, 21)) rfl) zA (as := [yr (some 67)]) (rest := []) rfl rfl rfl rfl (Nat.le_of_ble_eq_true rfl) (Nat.le_of_ble_eq_true rfl) ⟨_, _, _, rfl, (hT 67 rfl)⟩ (mc := 0) (ms := 0) (Nat.zero_le _) (Nat.zero_le _) ?_
  refine e_K ?_ F
  rintro r h' ⟨I2, rfl, rfl, F⟩
  refine e_0 (f_115 (pc := 21) (e := (21, 0, 0, 0, 0, 0, 0, 22)) rfl) (v := 0) rfl ?_
  refine e_20 (f_115 (pc := 22) (e := (22, 20, 1, 0, 0, 0, 0, 23)) rfl) ?_
  refine e_0 (f_115 (pc := 23) (e := (23, 0, 0, 0, 0, 0, 0, 24)) rfl) (v := 0) rfl ?_
  refine e_20 (f_115 (pc := 24) (e := (24, 20, 2, 0, 0, 0, 0, 25)) rfl) ?_
  refine e_lo [0, 1, 2] rfl ?_
  exact F
set_option maxRecDepth 20000 in
theorem B_115_25 (hT : yLT T) (hR : yLR R) {x1 x2 : Int} (F : ((I 4 5) ≤ x2 → K (some (yi x1)) (N, T, R, I)) ∧ (¬ ((I 4 5) ≤ x2) → (8 ≤ x2 → K (some (yi x1)) (N, T, R, I)) ∧ (¬ (8 ≤ x2) → yW l zSS D cy zFk z d 103 0 0 (fun r h' => ∃ I3, r = none ∧ h' = (N, T, R, I3) ∧ (yW l zSS D cy zFk z d 68 0 0 (fun r h' => ∃ I4, r = none ∧ h' = (N, T, R, I4) ∧ (yW l zSS D cy zFk z d 90 0 0 (fun r h' => ∃ r6 I5, r = some (yi r6) ∧ h' = (N, T, R, I5) ∧ ((r6 ≠ 0 → yW l zSS D cy zFk z (d + 1) 115 bc bs K 0 0 25 [(0, yr (some 0)), (1, yi x1), (2, yi (yadd x2 1))] [] (N, T, R, I5)) ∧ (¬ (r6 ≠ 0) → yW l zSS D cy zFk z (d + 1) 115 bc bs K 0 0 25 [(0, yr (some 0)), (1, yi (yor x1 (yshl 1 x2))), (2, yi (yadd x2 1))] [] (N, T, R, I5)))) 0 0 0 [(0, yr (some 67))] [] (N, T, R, I4))) 0 0 0 [(0, yr (some 68)), (1, yi x2)] [] (N, T, R, I3))) 0 0 0 [(0, yr (some 67)), (1, yr (some 16))] [] (N, T, R, I)))) :
    yW l zSS D cy zFk z (d + 1) 115 bc bs K 0 0 25 [(0, yr (some 0)), (1, yi x1), (2, yi x2)] [] (N, T, R, I) := by
  refine e_10 (f_115 (pc := 25) (e := (25, 10, 2, 0, 0, 0, 0, 26)) rfl) rfl ?_
  refine e_12 (f_115 (pc := 26) (e := (26, 12, 0, 0, 0, 0, 0, 27)) rfl) rfl ?_
  refine e_90r zA (f_115 (pc := 27) (e := (27, 90, 10, 1, 3, 19, 1064, 30)) rfl) rfl (hT 0 rfl) rfl rfl (hR 0 1 rfl) ?_
  refine e_90r zA (f_115 (pc := 30) (e := (30, 90, 9, 0, 3, 28, 1067, 33)) rfl) rfl (hT 3 rfl) rfl rfl (hR 3 0 rfl) ?_
  refine e_90 zA (f_115 (pc := 33) (e := (33, 90, 1, 5, 0, 218, 1093, 36)) rfl) rfl (hT 4 rfl) rfl rfl ?_
  refine e_73 (f_115 (pc := 36) (e := (36, 73, 92, 0, 0, 0, 0, 39)) rfl) (fun c1 => ?_) (fun c1 => ?_)
  · replace F := F.1 c1
    refine e_10 (f_115 (pc := 92) (e := (92, 10, 1, 0, 0, 0, 0, 93)) rfl) rfl ?_
    exact e_120 (f_115 (pc := 93) (e := (93, 120, 0, 0, 0, 0, 0, 0)) rfl) F
  · replace F := F.2 c1
    refine e_10 (f_115 (pc := 39) (e := (39, 10, 2, 0, 0, 0, 0, 40)) rfl) rfl ?_
    refine e_1 (f_115 (pc := 40) (e := (40, 1, 8, 0, 0, 0, 0, 42)) rfl) (v := 8) rfl ?_
    refine e_73 (f_115 (pc := 42) (e := (42, 73, 92, 0, 0, 0, 0, 45)) rfl) (fun c2 => ?_) (fun c2 => ?_)
    · replace F := F.1 c2
      refine e_10 (f_115 (pc := 92) (e := (92, 10, 1, 0, 0, 0, 0, 93)) rfl) rfl ?_
      exact e_120 (f_115 (pc := 93) (e := (93, 120, 0, 0, 0, 0, 0, 0)) rfl) F
    · replace F := F.2 c2
      refine e_12 (f_115 (pc := 45) (e := (45, 12, 0, 0, 0, 0, 0, 46)) rfl) rfl ?_
      refine e_90r zA (f_115 (pc := 46) (e := (46, 90, 10, 3, 3, 35, 1069, 49)) rfl) rfl (hT 0 rfl) rfl rfl (hR 0 3 rfl) ?_
      refine e_12 (f_115 (pc := 49) (e := (49, 12, 0, 0, 0, 0, 0, 50)) rfl) rfl ?_
      refine e_90r zA (f_115 (pc := 50) (e := (50, 90, 10, 1, 3, 19, 1064, 53)) rfl) rfl (hT 0 rfl) rfl rfl (hR 0 1 rfl) ?_
      refine e_90r zA (f_115 (pc := 53) (e := (53, 90, 9, 1, 3, 92, 1084, 56)) rfl) rfl (hT 3 rfl) rfl rfl (hR 3 1 rfl) ?_
      refine e_130 (f_115 (pc := 56) (e := (56, 130, 103, 0, 7, 271, 1091, 59)) rfl) zA (as := [yr (some 67), yr (some 16)]) (rest := []) rfl rfl rfl rfl (Nat.le_of_ble_eq_true rfl) (Nat.le_of_ble_eq_true rfl) ⟨_, _, _, rfl, (hT 67 rfl)⟩ (mc := 0) (ms := 0) (Nat.zero_le _) (Nat.zero_le _) ?_
      refine e_K ?_ F
      rintro r h' ⟨I3, rfl, rfl, F⟩
      refine e_12 (f_115 (pc := 59) (e := (59, 12, 0, 0, 0, 0, 0, 60)) rfl) rfl ?_
      refine e_90r zA (f_115 (pc := 60) (e := (60, 90, 10, 3, 3, 35, 1069, 63)) rfl) rfl (hT 0 rfl) rfl rfl (hR 0 3 rfl) ?_
      refine e_90r zA (f_115 (pc := 63) (e := (63, 90, 7, 2, 3, 206, 1094, 66)) rfl) rfl (hT 67 rfl) rfl rfl (hR 67 2 rfl) ?_
      refine e_10 (f_115 (pc := 66) (e := (66, 10, 2, 0, 0, 0, 0, 67)) rfl) rfl ?_
      refine e_130 (f_115 (pc := 67) (e := (67, 130, 68, 0, 5, 277, 1095, 70)) rfl) zA (as := [yr (some 68), yi x2]) (rest := []) rfl rfl rfl rfl (Nat.le_of_ble_eq_true rfl) (Nat.le_of_ble_eq_true rfl) ⟨_, _, _, rfl, (hT 68 rfl)⟩ (mc := 0) (ms := 0) (Nat.zero_le _) (Nat.zero_le _) ?_
      refine e_K ?_ F
      rintro r h' ⟨I4, rfl, rfl, F⟩
      refine e_12 (f_115 (pc := 70) (e := (70, 12, 0, 0, 0, 0, 0, 71)) rfl) rfl ?_
      refine e_90r zA (f_115 (pc := 71) (e := (71, 90, 10, 3, 3, 35, 1069, 74)) rfl) rfl (hT 0 rfl) rfl rfl (hR 0 3 rfl) ?_
      refine e_130 (f_115 (pc := 74) (e := (74, 130, 90, 0, 7, 274, 1096, 77)) rfl) zA (as := [yr (some 67)]) (rest := []) rfl rfl rfl rfl (Nat.le_of_ble_eq_true rfl) (Nat.le_of_ble_eq_true rfl) ⟨_, _, _, rfl, (hT 67 rfl)⟩ (mc := 0) (ms := 0) (Nat.zero_le _) (Nat.zero_le _) ?_
      refine e_K ?_ F
      rintro r h' ⟨r6, I5, rfl, rfl, F⟩
      refine e_61 (f_115 (pc := 77) (e := (77, 61, 86, 0, 0, 0, 0, 80)) rfl) (fun c7 => ?_) (fun c7 => ?_)
      · replace F := F.1 c7
        refine e_26 (f_115 (pc := 86) (e := (86, 26, 2, 1, 0, 0, 0, 89)) rfl) (w := 1) rfl rfl ?_
        refine e_80 (f_115 (pc := 89) (e := (89, 80, 25, 0, 0, 0, 0, 92)) rfl) ?_
        refine e_lo [0, 1, 2] rfl ?_
        exact F
      · replace F := F.2 c7
        refine e_10 (f_115 (pc := 80) (e := (80, 10, 1, 0, 0, 0, 0, 81)) rfl) rfl ?_
        refine e_0 (f_115 (pc := 81) (e := (81, 0, 1, 0, 0, 0, 0, 82)) rfl) (v := 1) rfl ?_
        refine e_10 (f_115 (pc := 82) (e := (82, 10, 2, 0, 0, 0, 0, 83)) rfl) rfl ?_
        refine e_38 (f_115 (pc := 83) (e := (83, 38, 0, 0, 0, 0, 0, 84)) rfl) ?_
        refine e_36 (f_115 (pc := 84) (e := (84, 36, 0, 0, 0, 0, 0, 85)) rfl) ?_
        refine e_20 (f_115 (pc := 85) (e := (85, 20, 1, 0, 0, 0, 0, 86)) rfl) ?_
        refine e_26 (f_115 (pc := 86) (e := (86, 26, 2, 1, 0, 0, 0, 89)) rfl) (w := 1) rfl rfl ?_
        refine e_80 (f_115 (pc := 89) (e := (89, 80, 25, 0, 0, 0, 0, 92)) rfl) ?_
        refine e_lo [0, 1, 2] rfl ?_
        exact F

/-! ChairAlley.count(I)I -/
set_option maxRecDepth 20000 in
theorem B_118_0 (hT : yLT T) (hR : yLR R) {x1 : Int} (F : (x1 = 0 → K (some (yi (I 4 0))) (N, T, R, I)) ∧ (¬ (x1 = 0) → (x1 = 1 → K (some (yi (I 4 1))) (N, T, R, I)) ∧ (¬ (x1 = 1) → (x1 = 2 → K (some (yi (I 4 5))) (N, T, R, I)) ∧ (¬ (x1 = 2) → (x1 = 3 → K (some (yi (I 7 1))) (N, T, R, I)) ∧ (¬ (x1 = 3) → (x1 = 4 → K (some (yi (I 7 2))) (N, T, R, I)) ∧ (¬ (x1 = 4) → (x1 = 5 → K (some (yi (I 7 3))) (N, T, R, I)) ∧ (¬ (x1 = 5) → (x1 = 6 → yW l zSS D cy zFk z d 64 0 0 (fun r h' => ∃ r9 I8, r = some (yi r9) ∧ h' = (N, T, R, I8) ∧ (K (some (yi r9)) (N, T, R, I8))) 0 0 0 [(0, yr (some 16))] [] (N, T, R, I)) ∧ (¬ (x1 = 6) → (x1 = 7 → K (some (yi (I 29 0))) (N, T, R, I)) ∧ (¬ (x1 = 7) → (x1 = 8 → K (some (yi (I 1 1))) (N, T, R, I)) ∧ (¬ (x1 = 8) → K (some (yi (-1))) (N, T, R, I))))))))))) :
    yW l zSS D cy zFk z (d + 1) 118 bc bs K 0 0 0 [(0, yr (some 0)), (1, yi x1)] [] (N, T, R, I) := by
  refine e_10 (f_118 (pc := 0) (e := (0, 10, 1, 0, 0, 0, 0, 1)) rfl) rfl ?_
  refine e_83 (f_118 (pc := 1) (e := (1, 83, 2147483648, 9, 7, 0, 0, 154)) rfl) (v := x1) (low := 0) rfl ?_
  by_cases c1 : x1 = 0
  · replace F := F.1 c1
    rw [show ySw 0 (yTg zGG 7) 154 x1 = 52 from by rw [c1]; rfl]
    refine e_12 (f_118 (pc := 52) (e := (52, 12, 0, 0, 0, 0, 0, 53)) rfl) rfl ?_
    refine e_90r zA (f_118 (pc := 53) (e := (53, 90, 10, 1, 3, 19, 1064, 56)) rfl) rfl (hT 0 rfl) rfl rfl (hR 0 1 rfl) ?_
    refine e_90r zA (f_118 (pc := 56) (e := (56, 90, 9, 0, 3, 28, 1067, 59)) rfl) rfl (hT 3 rfl) rfl rfl (hR 3 0 rfl) ?_
    refine e_90 zA (f_118 (pc := 59) (e := (59, 90, 1, 0, 0, 318, 1112, 62)) rfl) rfl (hT 4 rfl) rfl rfl ?_
    exact e_120 (f_118 (pc := 62) (e := (62, 120, 0, 0, 0, 0, 0, 63)) rfl) F
  · replace F := F.2 c1
    by_cases c2 : x1 = 1
    · replace F := F.1 c2
      rw [show ySw 0 (yTg zGG 7) 154 x1 = 63 from by rw [c2]; rfl]
      refine e_12 (f_118 (pc := 63) (e := (63, 12, 0, 0, 0, 0, 0, 64)) rfl) rfl ?_
      refine e_90r zA (f_118 (pc := 64) (e := (64, 90, 10, 1, 3, 19, 1064, 67)) rfl) rfl (hT 0 rfl) rfl rfl (hR 0 1 rfl) ?_
      refine e_90r zA (f_118 (pc := 67) (e := (67, 90, 9, 0, 3, 28, 1067, 70)) rfl) rfl (hT 3 rfl) rfl rfl (hR 3 0 rfl) ?_
      refine e_90 zA (f_118 (pc := 70) (e := (70, 90, 1, 1, 0, 321, 1113, 73)) rfl) rfl (hT 4 rfl) rfl rfl ?_
      exact e_120 (f_118 (pc := 73) (e := (73, 120, 0, 0, 0, 0, 0, 74)) rfl) F
    · replace F := F.2 c2
      by_cases c3 : x1 = 2
      · replace F := F.1 c3
        rw [show ySw 0 (yTg zGG 7) 154 x1 = 74 from by rw [c3]; rfl]
        refine e_12 (f_118 (pc := 74) (e := (74, 12, 0, 0, 0, 0, 0, 75)) rfl) rfl ?_
        refine e_90r zA (f_118 (pc := 75) (e := (75, 90, 10, 1, 3, 19, 1064, 78)) rfl) rfl (hT 0 rfl) rfl rfl (hR 0 1 rfl) ?_
        refine e_90r zA (f_118 (pc := 78) (e := (78, 90, 9, 0, 3, 28, 1067, 81)) rfl) rfl (hT 3 rfl) rfl rfl (hR 3 0 rfl) ?_
        refine e_90 zA (f_118 (pc := 81) (e := (81, 90, 1, 5, 0, 218, 1093, 84)) rfl) rfl (hT 4 rfl) rfl rfl ?_
        exact e_120 (f_118 (pc := 84) (e := (84, 120, 0, 0, 0, 0, 0, 85)) rfl) F
      · replace F := F.2 c3
        by_cases c4 : x1 = 3
        · replace F := F.1 c4
          rw [show ySw 0 (yTg zGG 7) 154 x1 = 85 from by rw [c4]; rfl]
          refine e_12 (f_118 (pc := 85) (e := (85, 12, 0, 0, 0, 0, 0, 86)) rfl) rfl ?_
          refine e_90r zA (f_118 (pc := 86) (e := (86, 90, 10, 1, 3, 19, 1064, 89)) rfl) rfl (hT 0 rfl) rfl rfl (hR 0 1 rfl) ?_
          refine e_90r zA (f_118 (pc := 89) (e := (89, 90, 9, 0, 3, 28, 1067, 92)) rfl) rfl (hT 3 rfl) rfl rfl (hR 3 0 rfl) ?_
          refine e_90r zA (f_118 (pc := 92) (e := (92, 90, 1, 4, 3, 324, 1114, 95)) rfl) rfl (hT 4 rfl) rfl rfl (hR 4 4 rfl) ?_
          refine e_0 (f_118 (pc := 95) (e := (95, 0, 1, 0, 0, 0, 0, 96)) rfl) (v := 1) rfl ?_
          refine e_110 (f_118 (pc := 96) (e := (96, 110, 0, 0, 0, 0, 0, 97)) rfl) rfl (hT 7 rfl) (by decide) (by decide) ?_
          exact e_120 (f_118 (pc := 97) (e := (97, 120, 0, 0, 0, 0, 0, 98)) rfl) F
        · replace F := F.2 c4
          by_cases c5 : x1 = 4
          · replace F := F.1 c5
            rw [show ySw 0 (yTg zGG 7) 154 x1 = 98 from by rw [c5]; rfl]
            refine e_12 (f_118 (pc := 98) (e := (98, 12, 0, 0, 0, 0, 0, 99)) rfl) rfl ?_
            refine e_90r zA (f_118 (pc := 99) (e := (99, 90, 10, 1, 3, 19, 1064, 102)) rfl) rfl (hT 0 rfl) rfl rfl (hR 0 1 rfl) ?_
            refine e_90r zA (f_118 (pc := 102) (e := (102, 90, 9, 0, 3, 28, 1067, 105)) rfl) rfl (hT 3 rfl) rfl rfl (hR 3 0 rfl) ?_
            refine e_90r zA (f_118 (pc := 105) (e := (105, 90, 1, 4, 3, 324, 1114, 108)) rfl) rfl (hT 4 rfl) rfl rfl (hR 4 4 rfl) ?_
            refine e_0 (f_118 (pc := 108) (e := (108, 0, 2, 0, 0, 0, 0, 109)) rfl) (v := 2) rfl ?_
            refine e_110 (f_118 (pc := 109) (e := (109, 110, 0, 0, 0, 0, 0, 110)) rfl) rfl (hT 7 rfl) (by decide) (by decide) ?_
            exact e_120 (f_118 (pc := 110) (e := (110, 120, 0, 0, 0, 0, 0, 111)) rfl) F
          · replace F := F.2 c5
            by_cases c6 : x1 = 5
            · replace F := F.1 c6
              rw [show ySw 0 (yTg zGG 7) 154 x1 = 111 from by rw [c6]; rfl]
              refine e_12 (f_118 (pc := 111) (e := (111, 12, 0, 0, 0, 0, 0, 112)) rfl) rfl ?_
              refine e_90r zA (f_118 (pc := 112) (e := (112, 90, 10, 1, 3, 19, 1064, 115)) rfl) rfl (hT 0 rfl) rfl rfl (hR 0 1 rfl) ?_
              refine e_90r zA (f_118 (pc := 115) (e := (115, 90, 9, 0, 3, 28, 1067, 118)) rfl) rfl (hT 3 rfl) rfl rfl (hR 3 0 rfl) ?_
              refine e_90r zA (f_118 (pc := 118) (e := (118, 90, 1, 4, 3, 324, 1114, 121)) rfl) rfl (hT 4 rfl) rfl rfl (hR 4 4 rfl) ?_
              refine e_0 (f_118 (pc := 121) (e := (121, 0, 3, 0, 0, 0, 0, 122)) rfl) (v := 3) rfl ?_
              refine e_110 (f_118 (pc := 122) (e := (122, 110, 0, 0, 0, 0, 0, 123)) rfl) rfl (hT 7 rfl) (by decide) (by decide) ?_
              exact e_120 (f_118 (pc := 123) (e := (123, 120, 0, 0, 0, 0, 0, 124)) rfl) F
            · replace F := F.2 c6
              by_cases c7 : x1 = 6
              · replace F := F.1 c7
                rw [show ySw 0 (yTg zGG 7) 154 x1 = 124 from by rw [c7]; rfl]
                refine e_12 (f_118 (pc := 124) (e := (124, 12, 0, 0, 0, 0, 0, 125)) rfl) rfl ?_
                refine e_90r zA (f_118 (pc := 125) (e := (125, 90, 10, 1, 3, 19, 1064, 128)) rfl) rfl (hT 0 rfl) rfl rfl (hR 0 1 rfl) ?_
                refine e_90r zA (f_118 (pc := 128) (e := (128, 90, 9, 1, 3, 92, 1084, 131)) rfl) rfl (hT 3 rfl) rfl rfl (hR 3 1 rfl) ?_
                refine e_130 (f_118 (pc := 131) (e := (131, 130, 64, 0, 5, 327, 1115, 134)) rfl) zA (as := [yr (some 16)]) (rest := []) rfl rfl rfl rfl (Nat.le_of_ble_eq_true rfl) (Nat.le_of_ble_eq_true rfl) ⟨_, _, _, rfl, (hT 16 rfl)⟩ (mc := 0) (ms := 0) (Nat.zero_le _) (Nat.zero_le _) ?_
                refine e_K ?_ F
                rintro r h' ⟨r9, I8, rfl, rfl, F⟩
                exact e_120 (f_118 (pc := 134) (e := (134, 120, 0, 0, 0, 0, 0, 135)) rfl) F
              · replace F := F.2 c7
                by_cases c10 : x1 = 7
                · replace F := F.1 c10
                  rw [show ySw 0 (yTg zGG 7) 154 x1 = 135 from by rw [c10]; rfl]
                  refine e_12 (f_118 (pc := 135) (e := (135, 12, 0, 0, 0, 0, 0, 136)) rfl) rfl ?_
                  refine e_90r zA (f_118 (pc := 136) (e := (136, 90, 10, 1, 3, 19, 1064, 139)) rfl) rfl (hT 0 rfl) rfl rfl (hR 0 1 rfl) ?_
                  refine e_90r zA (f_118 (pc := 139) (e := (139, 90, 9, 2, 3, 101, 1086, 142)) rfl) rfl (hT 3 rfl) rfl rfl (hR 3 2 rfl) ?_
                  refine e_90 zA (f_118 (pc := 142) (e := (142, 90, 2, 0, 0, 105, 1087, 145)) rfl) rfl (hT 29 rfl) rfl rfl ?_
                  exact e_120 (f_118 (pc := 145) (e := (145, 120, 0, 0, 0, 0, 0, 146)) rfl) F
                · replace F := F.2 c10
                  by_cases c11 : x1 = 8
                  · replace F := F.1 c11
                    rw [show ySw 0 (yTg zGG 7) 154 x1 = 146 from by rw [c11]; rfl]
                    refine e_12 (f_118 (pc := 146) (e := (146, 12, 0, 0, 0, 0, 0, 147)) rfl) rfl ?_
                    refine e_90r zA (f_118 (pc := 147) (e := (147, 90, 10, 0, 3, 12, 1061, 150)) rfl) rfl (hT 0 rfl) rfl rfl (hR 0 0 rfl) ?_
                    refine e_90 zA (f_118 (pc := 150) (e := (150, 90, 3, 1, 0, 67, 1080, 153)) rfl) rfl (hT 1 rfl) rfl rfl ?_
                    exact e_120 (f_118 (pc := 153) (e := (153, 120, 0, 0, 0, 0, 0, 154)) rfl) F
                  · replace F := F.2 c11
                    rw [show ySw 0 (yTg zGG 7) 154 x1 = 154 from ySw_out (n := 9) rfl (by omega)]
                    refine e_0 (f_118 (pc := 154) (e := (154, 0, 4294967295, 0, 0, 0, 0, 155)) rfl) (v := (-1)) rfl ?_
                    exact e_120 (f_118 (pc := 155) (e := (155, 120, 0, 0, 0, 0, 0, 0)) rfl) F

/-! ChairAlley.drawn(I)Z -/
set_option maxRecDepth 20000 in
theorem B_119_0 (hT : yLT T) (hR : yLR R) {x1 : Int} (F : ((I 4 5) ≠ 0 → yW l zSS D cy zFk z d 2 0 0 (fun r h' => ∃ I2, r = none ∧ h' = (N, T, R, I2) ∧ (yW l zSS D cy zFk z d 63 0 0 (fun r h' => ∃ I3, r = none ∧ h' = (N, T, R, I3) ∧ (yW l zSS D cy zFk z d 58 0 0 (fun r h' => ∃ I4, r = none ∧ h' = (N, T, R, I4) ∧ (K (some (yi 1)) (N, T, R, I4))) 0 0 0 [(0, yr (some 16))] [] (N, T, R, I3))) 0 0 0 [(0, yr (some 16)), (1, yi x1)] [] (N, T, R, I2))) 0 0 0 [(0, yr (some 89)), (1, yr (some 16))] [] (N, T, R, I)) ∧ (¬ ((I 4 5) ≠ 0) → K (some (yi 0)) (N, T, R, I))) :
    yW l zSS D cy zFk z (d + 1) 119 bc bs K 0 0 0 [(0, yr (some 0)), (1, yi x1)] [] (N, T, R, I) := by
  refine e_12 (f_119 (pc := 0) (e := (0, 12, 0, 0, 0, 0, 0, 1)) rfl) rfl ?_
  refine e_90r zA (f_119 (pc := 1) (e := (1, 90, 10, 1, 3, 19, 1064, 4)) rfl) rfl (hT 0 rfl) rfl rfl (hR 0 1 rfl) ?_
  refine e_90r zA (f_119 (pc := 4) (e := (4, 90, 9, 0, 3, 28, 1067, 7)) rfl) rfl (hT 3 rfl) rfl rfl (hR 3 0 rfl) ?_
  refine e_90 zA (f_119 (pc := 7) (e := (7, 90, 1, 5, 0, 218, 1093, 10)) rfl) rfl (hT 4 rfl) rfl rfl ?_
  refine e_61 (f_119 (pc := 10) (e := (10, 61, 15, 0, 0, 0, 0, 13)) rfl) (fun c1 => ?_) (fun c1 => ?_)
  · replace F := F.1 c1
    refine e_12 (f_119 (pc := 15) (e := (15, 12, 0, 0, 0, 0, 0, 16)) rfl) rfl ?_
    refine e_90r zA (f_119 (pc := 16) (e := (16, 90, 10, 4, 3, 42, 1071, 19)) rfl) rfl (hT 0 rfl) rfl rfl (hR 0 4 rfl) ?_
    refine e_12 (f_119 (pc := 19) (e := (19, 12, 0, 0, 0, 0, 0, 20)) rfl) rfl ?_
    refine e_90r zA (f_119 (pc := 20) (e := (20, 90, 10, 1, 3, 19, 1064, 23)) rfl) rfl (hT 0 rfl) rfl rfl (hR 0 1 rfl) ?_
    refine e_90r zA (f_119 (pc := 23) (e := (23, 90, 9, 1, 3, 92, 1084, 26)) rfl) rfl (hT 3 rfl) rfl rfl (hR 3 1 rfl) ?_
    refine e_130 (f_119 (pc := 26) (e := (26, 130, 2, 0, 0, 241, 1116, 29)) rfl) zA (as := [yr (some 89), yr (some 16)]) (rest := []) rfl rfl rfl rfl (Nat.le_of_ble_eq_true rfl) (Nat.le_of_ble_eq_true rfl) ⟨_, _, _, rfl, (hT 89 rfl)⟩ (mc := 0) (ms := 0) (Nat.zero_le _) (Nat.zero_le _) ?_
    refine e_K ?_ F
    rintro r h' ⟨I2, rfl, rfl, F⟩
    refine e_12 (f_119 (pc := 29) (e := (29, 12, 0, 0, 0, 0, 0, 30)) rfl) rfl ?_
    refine e_90r zA (f_119 (pc := 30) (e := (30, 90, 10, 1, 3, 19, 1064, 33)) rfl) rfl (hT 0 rfl) rfl rfl (hR 0 1 rfl) ?_
    refine e_90r zA (f_119 (pc := 33) (e := (33, 90, 9, 1, 3, 92, 1084, 36)) rfl) rfl (hT 3 rfl) rfl rfl (hR 3 1 rfl) ?_
    refine e_10 (f_119 (pc := 36) (e := (36, 10, 1, 0, 0, 0, 0, 37)) rfl) rfl ?_
    refine e_130 (f_119 (pc := 37) (e := (37, 130, 63, 0, 5, 289, 1117, 40)) rfl) zA (as := [yr (some 16), yi x1]) (rest := []) rfl rfl rfl rfl (Nat.le_of_ble_eq_true rfl) (Nat.le_of_ble_eq_true rfl) ⟨_, _, _, rfl, (hT 16 rfl)⟩ (mc := 0) (ms := 0) (Nat.zero_le _) (Nat.zero_le _) ?_
    refine e_K ?_ F
    rintro r h' ⟨I3, rfl, rfl, F⟩
    refine e_12 (f_119 (pc := 40) (e := (40, 12, 0, 0, 0, 0, 0, 41)) rfl) rfl ?_
    refine e_90r zA (f_119 (pc := 41) (e := (41, 90, 10, 1, 3, 19, 1064, 44)) rfl) rfl (hT 0 rfl) rfl rfl (hR 0 1 rfl) ?_
    refine e_90r zA (f_119 (pc := 44) (e := (44, 90, 9, 1, 3, 92, 1084, 47)) rfl) rfl (hT 3 rfl) rfl rfl (hR 3 1 rfl) ?_
    refine e_130 (f_119 (pc := 47) (e := (47, 130, 58, 0, 5, 292, 1118, 50)) rfl) zA (as := [yr (some 16)]) (rest := []) rfl rfl rfl rfl (Nat.le_of_ble_eq_true rfl) (Nat.le_of_ble_eq_true rfl) ⟨_, _, _, rfl, (hT 16 rfl)⟩ (mc := 0) (ms := 0) (Nat.zero_le _) (Nat.zero_le _) ?_
    refine e_K ?_ F
    rintro r h' ⟨I4, rfl, rfl, F⟩
    refine e_0 (f_119 (pc := 50) (e := (50, 0, 1, 0, 0, 0, 0, 51)) rfl) (v := 1) rfl ?_
    exact e_121 (f_119 (pc := 51) (e := (51, 121, 0, 0, 0, 0, 0, 0)) rfl) (.inr rfl) F
  · replace F := F.2 c1
    refine e_0 (f_119 (pc := 13) (e := (13, 0, 0, 0, 0, 0, 0, 14)) rfl) (v := 0) rfl ?_
    exact e_121 (f_119 (pc := 14) (e := (14, 121, 0, 0, 0, 0, 0, 15)) rfl) (.inl rfl) F

/-! ChairAlley.end(I)Z -/
set_option maxRecDepth 20000 in
theorem B_120_0 (hT : yLT T) (hR : yLR R) {x1 : Int} (F : (x1 < 0 → K (some (yi 0)) (N, T, R, I)) ∧ (¬ (x1 < 0) → (x1 ≤ (I 1 1) → ∀ I3, I3 = yU I 1 1 x1 → (K (some (yi 1)) (N, T, R, I3))) ∧ (¬ (x1 ≤ (I 1 1)) → K (some (yi 0)) (N, T, R, I)))) :
    yW l zSS D cy zFk z d 120 bc bs K 0 0 0 [(0, yr (some 0)), (1, yi x1)] [] (N, T, R, I) := by
  refine e_10 (f_120 (pc := 0) (e := (0, 10, 1, 0, 0, 0, 0, 1)) rfl) rfl ?_
  refine e_62 (f_120 (pc := 1) (e := (1, 62, 15, 0, 0, 0, 0, 4)) rfl) (fun c1 => ?_) (fun c1 => ?_)
  · replace F := F.1 c1
    refine e_0 (f_120 (pc := 15) (e := (15, 0, 0, 0, 0, 0, 0, 16)) rfl) (v := 0) rfl ?_
    exact e_121 (f_120 (pc := 16) (e := (16, 121, 0, 0, 0, 0, 0, 17)) rfl) (.inl rfl) F
  · replace F := F.2 c1
    refine e_10 (f_120 (pc := 4) (e := (4, 10, 1, 0, 0, 0, 0, 5)) rfl) rfl ?_
    refine e_12 (f_120 (pc := 5) (e := (5, 12, 0, 0, 0, 0, 0, 6)) rfl) rfl ?_
    refine e_90r zA (f_120 (pc := 6) (e := (6, 90, 10, 0, 3, 12, 1061, 9)) rfl) rfl (hT 0 rfl) rfl rfl (hR 0 0 rfl) ?_
    refine e_90 zA (f_120 (pc := 9) (e := (9, 90, 3, 1, 0, 67, 1080, 12)) rfl) rfl (hT 1 rfl) rfl rfl ?_
    refine e_75 (f_120 (pc := 12) (e := (12, 75, 17, 0, 0, 0, 0, 15)) rfl) (fun c2 => ?_) (fun c2 => ?_)
    · replace F := F.1 c2
      refine e_12 (f_120 (pc := 17) (e := (17, 12, 0, 0, 0, 0, 0, 18)) rfl) rfl ?_
      refine e_90r zA (f_120 (pc := 18) (e := (18, 90, 10, 0, 3, 12, 1061, 21)) rfl) rfl (hT 0 rfl) rfl rfl (hR 0 0 rfl) ?_
      refine e_10 (f_120 (pc := 21) (e := (21, 10, 1, 0, 0, 0, 0, 22)) rfl) rfl ?_
      refine e_91 zA (f_120 (pc := 22) (e := (22, 91, 3, 1, 0, 67, 1080, 25)) rfl) rfl (hT 1 rfl) rfl rfl trivial ?_
      replace F := F _ rfl
      refine e_0 (f_120 (pc := 25) (e := (25, 0, 1, 0, 0, 0, 0, 26)) rfl) (v := 1) rfl ?_
      exact e_121 (f_120 (pc := 26) (e := (26, 121, 0, 0, 0, 0, 0, 0)) rfl) (.inr rfl) F
    · replace F := F.2 c2
      refine e_0 (f_120 (pc := 15) (e := (15, 0, 0, 0, 0, 0, 0, 16)) rfl) (v := 0) rfl ?_
      exact e_121 (f_120 (pc := 16) (e := (16, 121, 0, 0, 0, 0, 0, 17)) rfl) (.inl rfl) F

/-! ChairAlley.fault()I -/
set_option maxRecDepth 20000 in
theorem B_121_0 (hT : yLT T) (hR : yLR R) (F : K (some (yi (I 1 10))) (N, T, R, I)) :
    yW l zSS D cy zFk z d 121 bc bs K 0 0 0 [(0, yr (some 0))] [] (N, T, R, I) := by
  refine e_12 (f_121 (pc := 0) (e := (0, 12, 0, 0, 0, 0, 0, 1)) rfl) rfl ?_
  refine e_90r zA (f_121 (pc := 1) (e := (1, 90, 10, 0, 3, 12, 1061, 4)) rfl) rfl (hT 0 rfl) rfl rfl (hR 0 0 rfl) ?_
  refine e_90 zA (f_121 (pc := 4) (e := (4, 90, 3, 10, 0, 83, 1081, 7)) rfl) rfl (hT 1 rfl) rfl rfl ?_
  exact e_120 (f_121 (pc := 7) (e := (7, 120, 0, 0, 0, 0, 0, 0)) rfl) F

/-! ChairAlley.feed(IIIII)I -/
set_option maxRecDepth 20000 in
theorem B_122_0 (hT : yLT T) (hR : yLR R) {x1 x2 x3 x4 x5 : Int} (F : ((yadd (I 1 1) 20) ≤ 940 → yW l zSS D cy zFk z d 32 0 0 (fun r h' => ∃ I2, r = none ∧ h' = (N, T, R, I2) ∧ (yW l zSS D cy zFk z d 32 0 0 (fun r h' => ∃ I3, r = none ∧ h' = (N, T, R, I3) ∧ (yW l zSS D cy zFk z d 32 0 0 (fun r h' => ∃ I4, r = none ∧ h' = (N, T, R, I4) ∧ (yW l zSS D cy zFk z d 32 0 0 (fun r h' => ∃ I5, r = none ∧ h' = (N, T, R, I5) ∧ (yW l zSS D cy zFk z d 32 0 0 (fun r h' => ∃ I6, r = none ∧ h' = (N, T, R, I6) ∧ (K (some (yi (I6 1 1))) (N, T, R, I6))) 0 0 0 [(0, yr (some 1)), (1, yi x5)] [] (N, T, R, I5))) 0 0 0 [(0, yr (some 1)), (1, yi x4)] [] (N, T, R, I4))) 0 0 0 [(0, yr (some 1)), (1, yi x3)] [] (N, T, R, I3))) 0 0 0 [(0, yr (some 1)), (1, yi x2)] [] (N, T, R, I2))) 0 0 0 [(0, yr (some 1)), (1, yi x1)] [] (N, T, R, I)) ∧ (¬ ((yadd (I 1 1) 20) ≤ 940) → K (some (yi (-1))) (N, T, R, I))) :
    yW l zSS D cy zFk z (d + 1) 122 bc bs K 0 0 0 [(0, yr (some 0)), (1, yi x1), (2, yi x2), (3, yi x3), (4, yi x4), (5, yi x5)] [] (N, T, R, I) := by
  refine e_12 (f_122 (pc := 0) (e := (0, 12, 0, 0, 0, 0, 0, 1)) rfl) rfl ?_
  refine e_90r zA (f_122 (pc := 1) (e := (1, 90, 10, 0, 3, 12, 1061, 4)) rfl) rfl (hT 0 rfl) rfl rfl (hR 0 0 rfl) ?_
  refine e_90 zA (f_122 (pc := 4) (e := (4, 90, 3, 1, 0, 67, 1080, 7)) rfl) rfl (hT 1 rfl) rfl rfl ?_
  refine e_1 (f_122 (pc := 7) (e := (7, 1, 20, 0, 0, 0, 0, 9)) rfl) (v := 20) rfl ?_
  refine e_30 (f_122 (pc := 9) (e := (9, 30, 0, 0, 0, 0, 0, 10)) rfl) ?_
  refine e_2 (f_122 (pc := 10) (e := (10, 2, 940, 0, 0, 0, 0, 13)) rfl) (v := 940) rfl ?_
  refine e_75 (f_122 (pc := 13) (e := (13, 75, 18, 0, 0, 0, 0, 16)) rfl) (fun c1 => ?_) (fun c1 => ?_)
  · replace F := F.1 c1
    refine e_12 (f_122 (pc := 18) (e := (18, 12, 0, 0, 0, 0, 0, 19)) rfl) rfl ?_
    refine e_90r zA (f_122 (pc := 19) (e := (19, 90, 10, 0, 3, 12, 1061, 22)) rfl) rfl (hT 0 rfl) rfl rfl (hR 0 0 rfl) ?_
    refine e_10 (f_122 (pc := 22) (e := (22, 10, 1, 0, 0, 0, 0, 23)) rfl) rfl ?_
    refine e_130 (f_122 (pc := 23) (e := (23, 130, 32, 0, 3, 70, 1119, 26)) rfl) zA (as := [yr (some 1), yi x1]) (rest := []) rfl rfl rfl rfl (Nat.le_of_ble_eq_true rfl) (Nat.le_of_ble_eq_true rfl) ⟨_, _, _, rfl, (hT 1 rfl)⟩ (mc := 0) (ms := 0) (Nat.zero_le _) (Nat.zero_le _) ?_
    refine e_K ?_ F
    rintro r h' ⟨I2, rfl, rfl, F⟩
    refine e_12 (f_122 (pc := 26) (e := (26, 12, 0, 0, 0, 0, 0, 27)) rfl) rfl ?_
    refine e_90r zA (f_122 (pc := 27) (e := (27, 90, 10, 0, 3, 12, 1061, 30)) rfl) rfl (hT 0 rfl) rfl rfl (hR 0 0 rfl) ?_
    refine e_10 (f_122 (pc := 30) (e := (30, 10, 2, 0, 0, 0, 0, 31)) rfl) rfl ?_
    refine e_130 (f_122 (pc := 31) (e := (31, 130, 32, 0, 3, 70, 1119, 34)) rfl) zA (as := [yr (some 1), yi x2]) (rest := []) rfl rfl rfl rfl (Nat.le_of_ble_eq_true rfl) (Nat.le_of_ble_eq_true rfl) ⟨_, _, _, rfl, (hT 1 rfl)⟩ (mc := 0) (ms := 0) (Nat.zero_le _) (Nat.zero_le _) ?_
    refine e_K ?_ F
    rintro r h' ⟨I3, rfl, rfl, F⟩
    refine e_12 (f_122 (pc := 34) (e := (34, 12, 0, 0, 0, 0, 0, 35)) rfl) rfl ?_
    refine e_90r zA (f_122 (pc := 35) (e := (35, 90, 10, 0, 3, 12, 1061, 38)) rfl) rfl (hT 0 rfl) rfl rfl (hR 0 0 rfl) ?_
    refine e_10 (f_122 (pc := 38) (e := (38, 10, 3, 0, 0, 0, 0, 39)) rfl) rfl ?_
    refine e_130 (f_122 (pc := 39) (e := (39, 130, 32, 0, 3, 70, 1119, 42)) rfl) zA (as := [yr (some 1), yi x3]) (rest := []) rfl rfl rfl rfl (Nat.le_of_ble_eq_true rfl) (Nat.le_of_ble_eq_true rfl) ⟨_, _, _, rfl, (hT 1 rfl)⟩ (mc := 0) (ms := 0) (Nat.zero_le _) (Nat.zero_le _) ?_
    refine e_K ?_ F
    rintro r h' ⟨I4, rfl, rfl, F⟩
    refine e_12 (f_122 (pc := 42) (e := (42, 12, 0, 0, 0, 0, 0, 43)) rfl) rfl ?_
    refine e_90r zA (f_122 (pc := 43) (e := (43, 90, 10, 0, 3, 12, 1061, 46)) rfl) rfl (hT 0 rfl) rfl rfl (hR 0 0 rfl) ?_
    refine e_11 (f_122 (pc := 46) (e := (46, 11, 4, 0, 0, 0, 0, 48)) rfl) rfl ?_
    refine e_130 (f_122 (pc := 48) (e := (48, 130, 32, 0, 3, 70, 1119, 51)) rfl) zA (as := [yr (some 1), yi x4]) (rest := []) rfl rfl rfl rfl (Nat.le_of_ble_eq_true rfl) (Nat.le_of_ble_eq_true rfl) ⟨_, _, _, rfl, (hT 1 rfl)⟩ (mc := 0) (ms := 0) (Nat.zero_le _) (Nat.zero_le _) ?_
    refine e_K ?_ F
    rintro r h' ⟨I5, rfl, rfl, F⟩
    refine e_12 (f_122 (pc := 51) (e := (51, 12, 0, 0, 0, 0, 0, 52)) rfl) rfl ?_
    refine e_90r zA (f_122 (pc := 52) (e := (52, 90, 10, 0, 3, 12, 1061, 55)) rfl) rfl (hT 0 rfl) rfl rfl (hR 0 0 rfl) ?_
    refine e_11 (f_122 (pc := 55) (e := (55, 11, 5, 0, 0, 0, 0, 57)) rfl) rfl ?_
    refine e_130 (f_122 (pc := 57) (e := (57, 130, 32, 0, 3, 70, 1119, 60)) rfl) zA (as := [yr (some 1), yi x5]) (rest := []) rfl rfl rfl rfl (Nat.le_of_ble_eq_true rfl) (Nat.le_of_ble_eq_true rfl) ⟨_, _, _, rfl, (hT 1 rfl)⟩ (mc := 0) (ms := 0) (Nat.zero_le _) (Nat.zero_le _) ?_
    refine e_K ?_ F
    rintro r h' ⟨I6, rfl, rfl, F⟩
    refine e_12 (f_122 (pc := 60) (e := (60, 12, 0, 0, 0, 0, 0, 61)) rfl) rfl ?_
    refine e_90r zA (f_122 (pc := 61) (e := (61, 90, 10, 0, 3, 12, 1061, 64)) rfl) rfl (hT 0 rfl) rfl rfl (hR 0 0 rfl) ?_
    refine e_90 zA (f_122 (pc := 64) (e := (64, 90, 3, 1, 0, 67, 1080, 67)) rfl) rfl (hT 1 rfl) rfl rfl ?_
    exact e_120 (f_122 (pc := 67) (e := (67, 120, 0, 0, 0, 0, 0, 0)) rfl) F
  · replace F := F.2 c1
    refine e_0 (f_122 (pc := 16) (e := (16, 0, 4294967295, 0, 0, 0, 0, 17)) rfl) (v := (-1)) rfl ?_
    exact e_120 (f_122 (pc := 17) (e := (17, 120, 0, 0, 0, 0, 0, 18)) rfl) F

/-! ChairAlley.invited(I)I -/
set_option maxRecDepth 20000 in
theorem B_124_0 (hT : yLT T) (hR : yLR R) {x1 : Int} (F : (x1 < 1 → K (some (yi (-1))) (N, T, R, I)) ∧ (¬ (x1 < 1) → (30 < x1 → K (some (yi (-1))) (N, T, R, I)) ∧ (¬ (30 < x1) → ((I 4 5) < 1 → K (some (yi (-1))) (N, T, R, I)) ∧ (¬ ((I 4 5) < 1) → ((I 4 5) ≤ 4 → yW l zSS D cy zFk z d 103 0 0 (fun r h' => ∃ I5, r = none ∧ h' = (N, T, R, I5) ∧ (yW l zSS D cy zFk z d 96 0 0 (fun r h' => ∃ I6, r = none ∧ h' = (N, T, R, I6) ∧ (yW l zSS D cy zFk z (d + 1) 124 bc bs K 0 0 64 [(0, yr (some 0)), (1, yi x1), (2, yi (I 4 5)), (3, yi (yshl 1 (ymul 2 (I 4 5)))), (4, yi 0)] [] (N, T, R, I6))) 0 0 0 [(0, yr (some 67))] [] (N, T, R, I5))) 0 0 0 [(0, yr (some 67)), (1, yr (some 16))] [] (N, T, R, I)) ∧ (¬ ((I 4 5) ≤ 4) → K (some (yi (-1))) (N, T, R, I)))))) :
    yW l zSS D cy zFk z (d + 1) 124 bc bs K 0 0 0 [(0, yr (some 0)), (1, yi x1)] [] (N, T, R, I) := by
  refine e_12 (f_124 (pc := 0) (e := (0, 12, 0, 0, 0, 0, 0, 1)) rfl) rfl ?_
  refine e_90r zA (f_124 (pc := 1) (e := (1, 90, 10, 1, 3, 19, 1064, 4)) rfl) rfl (hT 0 rfl) rfl rfl (hR 0 1 rfl) ?_
  refine e_90r zA (f_124 (pc := 4) (e := (4, 90, 9, 0, 3, 28, 1067, 7)) rfl) rfl (hT 3 rfl) rfl rfl (hR 3 0 rfl) ?_
  refine e_90 zA (f_124 (pc := 7) (e := (7, 90, 1, 5, 0, 218, 1093, 10)) rfl) rfl (hT 4 rfl) rfl rfl ?_
  refine e_20 (f_124 (pc := 10) (e := (10, 20, 2, 0, 0, 0, 0, 11)) rfl) ?_
  refine e_10 (f_124 (pc := 11) (e := (11, 10, 1, 0, 0, 0, 0, 12)) rfl) rfl ?_
  refine e_0 (f_124 (pc := 12) (e := (12, 0, 1, 0, 0, 0, 0, 13)) rfl) (v := 1) rfl ?_
  refine e_72 (f_124 (pc := 13) (e := (13, 72, 32, 0, 0, 0, 0, 16)) rfl) (fun c1 => ?_) (fun c1 => ?_)
  · replace F := F.1 c1
    refine e_0 (f_124 (pc := 32) (e := (32, 0, 4294967295, 0, 0, 0, 0, 33)) rfl) (v := (-1)) rfl ?_
    exact e_120 (f_124 (pc := 33) (e := (33, 120, 0, 0, 0, 0, 0, 34)) rfl) F
  · replace F := F.2 c1
    refine e_10 (f_124 (pc := 16) (e := (16, 10, 1, 0, 0, 0, 0, 17)) rfl) rfl ?_
    refine e_1 (f_124 (pc := 17) (e := (17, 1, 30, 0, 0, 0, 0, 19)) rfl) (v := 30) rfl ?_
    refine e_74 (f_124 (pc := 19) (e := (19, 74, 32, 0, 0, 0, 0, 22)) rfl) (fun c2 => ?_) (fun c2 => ?_)
    · replace F := F.1 c2
      refine e_0 (f_124 (pc := 32) (e := (32, 0, 4294967295, 0, 0, 0, 0, 33)) rfl) (v := (-1)) rfl ?_
      exact e_120 (f_124 (pc := 33) (e := (33, 120, 0, 0, 0, 0, 0, 34)) rfl) F
    · replace F := F.2 c2
      refine e_10 (f_124 (pc := 22) (e := (22, 10, 2, 0, 0, 0, 0, 23)) rfl) rfl ?_
      refine e_0 (f_124 (pc := 23) (e := (23, 0, 1, 0, 0, 0, 0, 24)) rfl) (v := 1) rfl ?_
      refine e_72 (f_124 (pc := 24) (e := (24, 72, 32, 0, 0, 0, 0, 27)) rfl) (fun c3 => ?_) (fun c3 => ?_)
      · replace F := F.1 c3
        refine e_0 (f_124 (pc := 32) (e := (32, 0, 4294967295, 0, 0, 0, 0, 33)) rfl) (v := (-1)) rfl ?_
        exact e_120 (f_124 (pc := 33) (e := (33, 120, 0, 0, 0, 0, 0, 34)) rfl) F
      · replace F := F.2 c3
        refine e_10 (f_124 (pc := 27) (e := (27, 10, 2, 0, 0, 0, 0, 28)) rfl) rfl ?_
        refine e_0 (f_124 (pc := 28) (e := (28, 0, 4, 0, 0, 0, 0, 29)) rfl) (v := 4) rfl ?_
        refine e_75 (f_124 (pc := 29) (e := (29, 75, 34, 0, 0, 0, 0, 32)) rfl) (fun c4 => ?_) (fun c4 => ?_)
        · replace F := F.1 c4
          refine e_12 (f_124 (pc := 34) (e := (34, 12, 0, 0, 0, 0, 0, 35)) rfl) rfl ?_
          refine e_90r zA (f_124 (pc := 35) (e := (35, 90, 10, 3, 3, 35, 1069, 38)) rfl) rfl (hT 0 rfl) rfl rfl (hR 0 3 rfl) ?_
          refine e_12 (f_124 (pc := 38) (e := (38, 12, 0, 0, 0, 0, 0, 39)) rfl) rfl ?_
          refine e_90r zA (f_124 (pc := 39) (e := (39, 90, 10, 1, 3, 19, 1064, 42)) rfl) rfl (hT 0 rfl) rfl rfl (hR 0 1 rfl) ?_
          refine e_90r zA (f_124 (pc := 42) (e := (42, 90, 9, 1, 3, 92, 1084, 45)) rfl) rfl (hT 3 rfl) rfl rfl (hR 3 1 rfl) ?_
          refine e_130 (f_124 (pc := 45) (e := (45, 130, 103, 0, 7, 271, 1091, 48)) rfl) zA (as := [yr (some 67), yr (some 16)]) (rest := []) rfl rfl rfl rfl (Nat.le_of_ble_eq_true rfl) (Nat.le_of_ble_eq_true rfl) ⟨_, _, _, rfl, (hT 67 rfl)⟩ (mc := 0) (ms := 0) (Nat.zero_le _) (Nat.zero_le _) ?_
          refine e_K ?_ F
          rintro r h' ⟨I5, rfl, rfl, F⟩
          refine e_12 (f_124 (pc := 48) (e := (48, 12, 0, 0, 0, 0, 0, 49)) rfl) rfl ?_
          refine e_90r zA (f_124 (pc := 49) (e := (49, 90, 10, 3, 3, 35, 1069, 52)) rfl) rfl (hT 0 rfl) rfl rfl (hR 0 3 rfl) ?_
          refine e_130 (f_124 (pc := 52) (e := (52, 130, 96, 0, 7, 203, 1092, 55)) rfl) zA (as := [yr (some 67)]) (rest := []) rfl rfl rfl rfl (Nat.le_of_ble_eq_true rfl) (Nat.le_of_ble_eq_true rfl) ⟨_, _, _, rfl, (hT 67 rfl)⟩ (mc := 0) (ms := 0) (Nat.zero_le _) (Nat.zero_le _) ?_
          refine e_K ?_ F
          rintro r h' ⟨I6, rfl, rfl, F⟩
          refine e_0 (f_124 (pc := 55) (e := (55, 0, 1, 0, 0, 0, 0, 56)) rfl) (v := 1) rfl ?_
          refine e_0 (f_124 (pc := 56) (e := (56, 0, 2, 0, 0, 0, 0, 57)) rfl) (v := 2) rfl ?_
          refine e_10 (f_124 (pc := 57) (e := (57, 10, 2, 0, 0, 0, 0, 58)) rfl) rfl ?_
          refine e_32 (f_124 (pc := 58) (e := (58, 32, 0, 0, 0, 0, 0, 59)) rfl) ?_
          refine e_38 (f_124 (pc := 59) (e := (59, 38, 0, 0, 0, 0, 0, 60)) rfl) ?_
          refine e_20 (f_124 (pc := 60) (e := (60, 20, 3, 0, 0, 0, 0, 61)) rfl) ?_
          refine e_0 (f_124 (pc := 61) (e := (61, 0, 0, 0, 0, 0, 0, 62)) rfl) (v := 0) rfl ?_
          refine e_21 (f_124 (pc := 62) (e := (62, 21, 4, 0, 0, 0, 0, 64)) rfl) ?_
          refine e_lo [0, 1, 2, 3, 4] rfl ?_
          exact F
        · replace F := F.2 c4
          refine e_0 (f_124 (pc := 32) (e := (32, 0, 4294967295, 0, 0, 0, 0, 33)) rfl) (v := (-1)) rfl ?_
          exact e_120 (f_124 (pc := 33) (e := (33, 120, 0, 0, 0, 0, 0, 34)) rfl) F
set_option maxRecDepth 20000 in
theorem B_124_64 (hT : yLT T) (hR : yLR R) {x1 x2 x3 x4 : Int} (F : (x3 ≤ x4 → K (some (yi (-1))) (N, T, R, I)) ∧ (¬ (x3 ≤ x4) → yW l zSS D cy zFk z d 103 0 0 (fun r h' => ∃ I2, r = none ∧ h' = (N, T, R, I2) ∧ (yW l zSS D cy zFk z (d + 1) 124 bc bs K 0 0 87 [(0, yr (some 0)), (1, yi x1), (2, yi x2), (3, yi x3), (4, yi x4), (5, yi 0)] [] (N, T, R, I2))) 0 0 0 [(0, yr (some 67)), (1, yr (some 16))] [] (N, T, R, I))) :
    yW l zSS D cy zFk z (d + 1) 124 bc bs K 0 0 64 [(0, yr (some 0)), (1, yi x1), (2, yi x2), (3, yi x3), (4, yi x4)] [] (N, T, R, I) := by
  refine e_11 (f_124 (pc := 64) (e := (64, 11, 4, 0, 0, 0, 0, 66)) rfl) rfl ?_
  refine e_10 (f_124 (pc := 66) (e := (66, 10, 3, 0, 0, 0, 0, 67)) rfl) rfl ?_
  refine e_73 (f_124 (pc := 67) (e := (67, 73, 146, 0, 0, 0, 0, 70)) rfl) (fun c1 => ?_) (fun c1 => ?_)
  · replace F := F.1 c1
    refine e_0 (f_124 (pc := 146) (e := (146, 0, 4294967295, 0, 0, 0, 0, 147)) rfl) (v := (-1)) rfl ?_
    exact e_120 (f_124 (pc := 147) (e := (147, 120, 0, 0, 0, 0, 0, 0)) rfl) F
  · replace F := F.2 c1
    refine e_12 (f_124 (pc := 70) (e := (70, 12, 0, 0, 0, 0, 0, 71)) rfl) rfl ?_
    refine e_90r zA (f_124 (pc := 71) (e := (71, 90, 10, 3, 3, 35, 1069, 74)) rfl) rfl (hT 0 rfl) rfl rfl (hR 0 3 rfl) ?_
    refine e_12 (f_124 (pc := 74) (e := (74, 12, 0, 0, 0, 0, 0, 75)) rfl) rfl ?_
    refine e_90r zA (f_124 (pc := 75) (e := (75, 90, 10, 1, 3, 19, 1064, 78)) rfl) rfl (hT 0 rfl) rfl rfl (hR 0 1 rfl) ?_
    refine e_90r zA (f_124 (pc := 78) (e := (78, 90, 9, 1, 3, 92, 1084, 81)) rfl) rfl (hT 3 rfl) rfl rfl (hR 3 1 rfl) ?_
    refine e_130 (f_124 (pc := 81) (e := (81, 130, 103, 0, 7, 271, 1091, 84)) rfl) zA (as := [yr (some 67), yr (some 16)]) (rest := []) rfl rfl rfl rfl (Nat.le_of_ble_eq_true rfl) (Nat.le_of_ble_eq_true rfl) ⟨_, _, _, rfl, (hT 67 rfl)⟩ (mc := 0) (ms := 0) (Nat.zero_le _) (Nat.zero_le _) ?_
    refine e_K ?_ F
    rintro r h' ⟨I2, rfl, rfl, F⟩
    refine e_0 (f_124 (pc := 84) (e := (84, 0, 0, 0, 0, 0, 0, 85)) rfl) (v := 0) rfl ?_
    refine e_21 (f_124 (pc := 85) (e := (85, 21, 5, 0, 0, 0, 0, 87)) rfl) ?_
    refine e_lo [0, 1, 2, 3, 4, 5] rfl ?_
    exact F
set_option maxRecDepth 20000 in
theorem B_124_87 (hT : yLT T) (hR : yLR R) {x1 x2 x3 x4 x5 : Int} (F : (x2 ≤ x5 → yW l zSS D cy zFk z d 90 0 0 (fun r h' => ∃ r3 I2, r = some (yi r3) ∧ h' = (N, T, R, I2) ∧ ((r3 ≠ 0 → yW l zSS D cy zFk z (d + 1) 124 bc bs K 0 0 64 [(0, yr (some 0)), (1, yi x1), (2, yi x2), (3, yi x3), (4, yi (yadd x4 1))] [] (N, T, R, I2)) ∧ (¬ (r3 ≠ 0) → K (some (yi x4)) (N, T, R, I2)))) 0 0 0 [(0, yr (some 67))] [] (N, T, R, I)) ∧ (¬ (x2 ≤ x5) → 0 ≤ x5 ∧ x5 < 8 ∧ (∀ I7, I7 = yU I 70 x5.toNat (ynar 1 (ymul x1 (yand (yshr x4 (ymul 2 (ysub (ysub x2 1) x5))) 3))) → (yW l zSS D cy zFk z (d + 1) 124 bc bs K 0 0 87 [(0, yr (some 0)), (1, yi x1), (2, yi x2), (3, yi x3), (4, yi x4), (5, yi (yadd x5 1))] [] (N, T, R, I7))))) :
    yW l zSS D cy zFk z (d + 1) 124 bc bs K 0 0 87 [(0, yr (some 0)), (1, yi x1), (2, yi x2), (3, yi x3), (4, yi x4), (5, yi x5)] [] (N, T, R, I) := by
  refine e_11 (f_124 (pc := 87) (e := (87, 11, 5, 0, 0, 0, 0, 89)) rfl) rfl ?_
  refine e_10 (f_124 (pc := 89) (e := (89, 10, 2, 0, 0, 0, 0, 90)) rfl) rfl ?_
  refine e_73 (f_124 (pc := 90) (e := (90, 73, 127, 0, 0, 0, 0, 93)) rfl) (fun c1 => ?_) (fun c1 => ?_)
  · replace F := F.1 c1
    refine e_12 (f_124 (pc := 127) (e := (127, 12, 0, 0, 0, 0, 0, 128)) rfl) rfl ?_
    refine e_90r zA (f_124 (pc := 128) (e := (128, 90, 10, 3, 3, 35, 1069, 131)) rfl) rfl (hT 0 rfl) rfl rfl (hR 0 3 rfl) ?_
    refine e_130 (f_124 (pc := 131) (e := (131, 130, 90, 0, 7, 274, 1096, 134)) rfl) zA (as := [yr (some 67)]) (rest := []) rfl rfl rfl rfl (Nat.le_of_ble_eq_true rfl) (Nat.le_of_ble_eq_true rfl) ⟨_, _, _, rfl, (hT 67 rfl)⟩ (mc := 0) (ms := 0) (Nat.zero_le _) (Nat.zero_le _) ?_
    refine e_K ?_ F
    rintro r h' ⟨r3, I2, rfl, rfl, F⟩
    refine e_61 (f_124 (pc := 134) (e := (134, 61, 140, 0, 0, 0, 0, 137)) rfl) (fun c4 => ?_) (fun c4 => ?_)
    · replace F := F.1 c4
      refine e_26 (f_124 (pc := 140) (e := (140, 26, 4, 1, 0, 0, 0, 143)) rfl) (w := 1) rfl rfl ?_
      refine e_80 (f_124 (pc := 143) (e := (143, 80, 64, 0, 0, 0, 0, 146)) rfl) ?_
      refine e_lo [0, 1, 2, 3, 4] rfl ?_
      exact F
    · replace F := F.2 c4
      refine e_11 (f_124 (pc := 137) (e := (137, 11, 4, 0, 0, 0, 0, 139)) rfl) rfl ?_
      exact e_120 (f_124 (pc := 139) (e := (139, 120, 0, 0, 0, 0, 0, 140)) rfl) F
  · replace F := F.2 c1
    refine e_12 (f_124 (pc := 93) (e := (93, 12, 0, 0, 0, 0, 0, 94)) rfl) rfl ?_
    refine e_90r zA (f_124 (pc := 94) (e := (94, 90, 10, 3, 3, 35, 1069, 97)) rfl) rfl (hT 0 rfl) rfl rfl (hR 0 3 rfl) ?_
    refine e_90r zA (f_124 (pc := 97) (e := (97, 90, 7, 2, 3, 206, 1094, 100)) rfl) rfl (hT 67 rfl) rfl rfl (hR 67 2 rfl) ?_
    refine e_90r zA (f_124 (pc := 100) (e := (100, 90, 5, 2, 3, 140, 1106, 103)) rfl) rfl (hT 68 rfl) rfl rfl (hR 68 2 rfl) ?_
    refine e_11 (f_124 (pc := 103) (e := (103, 11, 5, 0, 0, 0, 0, 105)) rfl) rfl ?_
    refine e_10 (f_124 (pc := 105) (e := (105, 10, 1, 0, 0, 0, 0, 106)) rfl) rfl ?_
    refine e_11 (f_124 (pc := 106) (e := (106, 11, 4, 0, 0, 0, 0, 108)) rfl) rfl ?_
    refine e_0 (f_124 (pc := 108) (e := (108, 0, 2, 0, 0, 0, 0, 109)) rfl) (v := 2) rfl ?_
    refine e_10 (f_124 (pc := 109) (e := (109, 10, 2, 0, 0, 0, 0, 110)) rfl) rfl ?_
    refine e_0 (f_124 (pc := 110) (e := (110, 0, 1, 0, 0, 0, 0, 111)) rfl) (v := 1) rfl ?_
    refine e_31 (f_124 (pc := 111) (e := (111, 31, 0, 0, 0, 0, 0, 112)) rfl) ?_
    refine e_11 (f_124 (pc := 112) (e := (112, 11, 5, 0, 0, 0, 0, 114)) rfl) rfl ?_
    refine e_31 (f_124 (pc := 114) (e := (114, 31, 0, 0, 0, 0, 0, 115)) rfl) ?_
    refine e_32 (f_124 (pc := 115) (e := (115, 32, 0, 0, 0, 0, 0, 116)) rfl) ?_
    refine e_39 (f_124 (pc := 116) (e := (116, 39, 0, 0, 0, 0, 0, 117)) rfl) ?_
    refine e_0 (f_124 (pc := 117) (e := (117, 0, 3, 0, 0, 0, 0, 118)) rfl) (v := 3) rfl ?_
    refine e_35 (f_124 (pc := 118) (e := (118, 35, 0, 0, 0, 0, 0, 119)) rfl) ?_
    refine e_32 (f_124 (pc := 119) (e := (119, 32, 0, 0, 0, 0, 0, 120)) rfl) ?_
    obtain ⟨b5, b6, F⟩ := F
    refine e_111 (f_124 (pc := 120) (e := (120, 111, 0, 0, 0, 0, 0, 121)) rfl) rfl (hT 70 rfl) b5 b6 ?_
    replace F := F _ rfl
    refine e_26 (f_124 (pc := 121) (e := (121, 26, 5, 1, 0, 0, 0, 124)) rfl) (w := 1) rfl rfl ?_
    refine e_80 (f_124 (pc := 124) (e := (124, 80, 87, 0, 0, 0, 0, 127)) rfl) ?_
    refine e_lo [0, 1, 2, 3, 4, 5] rfl ?_
    exact F

/-! ChairAlley.isNobodyToCome()Z -/
set_option maxRecDepth 20000 in
theorem B_125_0 (hT : yLT T) (hR : yLR R) (F : yW l zSS D cy zFk z d 61 0 0 (fun r h' => ∃ r2 I1, r = some (yi r2) ∧ h' = (N, T, R, I1) ∧ ((r2 ≠ (I1 4 5) → K (some (yi 0)) (N, T, R, I1)) ∧ (¬ (r2 ≠ (I1 4 5)) → K (some (yi 1)) (N, T, R, I1)))) 0 0 0 [(0, yr (some 16)), (1, yi (I 4 5))] [] (N, T, R, I)) :
    yW l zSS D cy zFk z (d + 1) 125 bc bs K 0 0 0 [(0, yr (some 0))] [] (N, T, R, I) := by
  refine e_12 (f_125 (pc := 0) (e := (0, 12, 0, 0, 0, 0, 0, 1)) rfl) rfl ?_
  refine e_90r zA (f_125 (pc := 1) (e := (1, 90, 10, 1, 3, 19, 1064, 4)) rfl) rfl (hT 0 rfl) rfl rfl (hR 0 1 rfl) ?_
  refine e_90r zA (f_125 (pc := 4) (e := (4, 90, 9, 1, 3, 92, 1084, 7)) rfl) rfl (hT 3 rfl) rfl rfl (hR 3 1 rfl) ?_
  refine e_12 (f_125 (pc := 7) (e := (7, 12, 0, 0, 0, 0, 0, 8)) rfl) rfl ?_
  refine e_90r zA (f_125 (pc := 8) (e := (8, 90, 10, 1, 3, 19, 1064, 11)) rfl) rfl (hT 0 rfl) rfl rfl (hR 0 1 rfl) ?_
  refine e_90r zA (f_125 (pc := 11) (e := (11, 90, 9, 0, 3, 28, 1067, 14)) rfl) rfl (hT 3 rfl) rfl rfl (hR 3 0 rfl) ?_
  refine e_90 zA (f_125 (pc := 14) (e := (14, 90, 1, 5, 0, 218, 1093, 17)) rfl) rfl (hT 4 rfl) rfl rfl ?_
  refine e_130 (f_125 (pc := 17) (e := (17, 130, 61, 0, 5, 224, 1121, 20)) rfl) zA (as := [yr (some 16), yi _]) (rest := []) rfl rfl rfl rfl (Nat.le_of_ble_eq_true rfl) (Nat.le_of_ble_eq_true rfl) ⟨_, _, _, rfl, (hT 16 rfl)⟩ (mc := 0) (ms := 0) (Nat.zero_le _) (Nat.zero_le _) ?_
  refine e_K ?_ F
  rintro r h' ⟨r2, I1, rfl, rfl, F⟩
  refine e_12 (f_125 (pc := 20) (e := (20, 12, 0, 0, 0, 0, 0, 21)) rfl) rfl ?_
  refine e_90r zA (f_125 (pc := 21) (e := (21, 90, 10, 1, 3, 19, 1064, 24)) rfl) rfl (hT 0 rfl) rfl rfl (hR 0 1 rfl) ?_
  refine e_90r zA (f_125 (pc := 24) (e := (24, 90, 9, 0, 3, 28, 1067, 27)) rfl) rfl (hT 3 rfl) rfl rfl (hR 3 0 rfl) ?_
  refine e_90 zA (f_125 (pc := 27) (e := (27, 90, 1, 5, 0, 218, 1093, 30)) rfl) rfl (hT 4 rfl) rfl rfl ?_
  refine e_71 (f_125 (pc := 30) (e := (30, 71, 37, 0, 0, 0, 0, 33)) rfl) (fun c3 => ?_) (fun c3 => ?_)
  · replace F := F.1 c3
    refine e_0 (f_125 (pc := 37) (e := (37, 0, 0, 0, 0, 0, 0, 38)) rfl) (v := 0) rfl ?_
    exact e_121 (f_125 (pc := 38) (e := (38, 121, 0, 0, 0, 0, 0, 0)) rfl) (.inl rfl) F
  · replace F := F.2 c3
    refine e_0 (f_125 (pc := 33) (e := (33, 0, 1, 0, 0, 0, 0, 34)) rfl) (v := 1) rfl ?_
    refine e_80 (f_125 (pc := 34) (e := (34, 80, 38, 0, 0, 0, 0, 37)) rfl) ?_
    exact e_121 (f_125 (pc := 38) (e := (38, 121, 0, 0, 0, 0, 0, 0)) rfl) (.inr rfl) F

/-! ChairAlley.isOut(I)Z -/
set_option maxRecDepth 20000 in
theorem B_126_0 (hT : yLT T) (hR : yLR R) {x1 : Int} (F : yW l zSS D cy zFk z d 11 0 0 (fun r h' => ∃ r2 I1, r = some (yi r2) ∧ h' = (N, T, R, I1) ∧ ((r2 = 0 → K (some (yi 0)) (N, T, R, I1)) ∧ (¬ (r2 = 0) → 0 ≤ x1 ∧ x1 < 8 ∧ (((I1 20 x1.toNat) = (-1) → K (some (yi 0)) (N, T, R, I1)) ∧ (¬ ((I1 20 x1.toNat) = (-1)) → K (some (yi 1)) (N, T, R, I1)))))) 0 0 0 [(0, yr (some 4)), (1, yi x1)] [] (N, T, R, I)) :
    yW l zSS D cy zFk z (d + 1) 126 bc bs K 0 0 0 [(0, yr (some 0)), (1, yi x1)] [] (N, T, R, I) := by
  refine e_12 (f_126 (pc := 0) (e := (0, 12, 0, 0, 0, 0, 0, 1)) rfl) rfl ?_
  refine e_90r zA (f_126 (pc := 1) (e := (1, 90, 10, 1, 3, 19, 1064, 4)) rfl) rfl (hT 0 rfl) rfl rfl (hR 0 1 rfl) ?_
  refine e_90r zA (f_126 (pc := 4) (e := (4, 90, 9, 0, 3, 28, 1067, 7)) rfl) rfl (hT 3 rfl) rfl rfl (hR 3 0 rfl) ?_
  refine e_10 (f_126 (pc := 7) (e := (7, 10, 1, 0, 0, 0, 0, 8)) rfl) rfl ?_
  refine e_130 (f_126 (pc := 8) (e := (8, 130, 11, 0, 1, 120, 1101, 11)) rfl) zA (as := [yr (some 4), yi x1]) (rest := []) rfl rfl rfl rfl (Nat.le_of_ble_eq_true rfl) (Nat.le_of_ble_eq_true rfl) ⟨_, _, _, rfl, (hT 4 rfl)⟩ (mc := 0) (ms := 0) (Nat.zero_le _) (Nat.zero_le _) ?_
  refine e_K ?_ F
  rintro r h' ⟨r2, I1, rfl, rfl, F⟩
  refine e_60 (f_126 (pc := 11) (e := (11, 60, 34, 0, 0, 0, 0, 14)) rfl) (fun c3 => ?_) (fun c3 => ?_)
  · replace F := F.1 c3
    refine e_0 (f_126 (pc := 34) (e := (34, 0, 0, 0, 0, 0, 0, 35)) rfl) (v := 0) rfl ?_
    exact e_121 (f_126 (pc := 35) (e := (35, 121, 0, 0, 0, 0, 0, 0)) rfl) (.inl rfl) F
  · replace F := F.2 c3
    refine e_12 (f_126 (pc := 14) (e := (14, 12, 0, 0, 0, 0, 0, 15)) rfl) rfl ?_
    refine e_90r zA (f_126 (pc := 15) (e := (15, 90, 10, 1, 3, 19, 1064, 18)) rfl) rfl (hT 0 rfl) rfl rfl (hR 0 1 rfl) ?_
    refine e_90r zA (f_126 (pc := 18) (e := (18, 90, 9, 1, 3, 92, 1084, 21)) rfl) rfl (hT 3 rfl) rfl rfl (hR 3 1 rfl) ?_
    refine e_90r zA (f_126 (pc := 21) (e := (21, 90, 5, 4, 3, 127, 1102, 24)) rfl) rfl (hT 16 rfl) rfl rfl (hR 16 4 rfl) ?_
    refine e_10 (f_126 (pc := 24) (e := (24, 10, 1, 0, 0, 0, 0, 25)) rfl) rfl ?_
    obtain ⟨b4, b5, F⟩ := F
    refine e_110 (f_126 (pc := 25) (e := (25, 110, 0, 0, 0, 0, 0, 26)) rfl) rfl (hT 20 rfl) b4 b5 ?_
    refine e_0 (f_126 (pc := 26) (e := (26, 0, 4294967295, 0, 0, 0, 0, 27)) rfl) (v := (-1)) rfl ?_
    refine e_70 (f_126 (pc := 27) (e := (27, 70, 34, 0, 0, 0, 0, 30)) rfl) (fun c6 => ?_) (fun c6 => ?_)
    · replace F := F.1 c6
      refine e_0 (f_126 (pc := 34) (e := (34, 0, 0, 0, 0, 0, 0, 35)) rfl) (v := 0) rfl ?_
      exact e_121 (f_126 (pc := 35) (e := (35, 121, 0, 0, 0, 0, 0, 0)) rfl) (.inl rfl) F
    · replace F := F.2 c6
      refine e_0 (f_126 (pc := 30) (e := (30, 0, 1, 0, 0, 0, 0, 31)) rfl) (v := 1) rfl ?_
      refine e_80 (f_126 (pc := 31) (e := (31, 80, 35, 0, 0, 0, 0, 34)) rfl) ?_
      exact e_121 (f_126 (pc := 35) (e := (35, 121, 0, 0, 0, 0, 0, 0)) rfl) (.inr rfl) F

/-! ChairAlley.isToCome(I)Z -/
set_option maxRecDepth 20000 in
theorem B_127_0 (hT : yLT T) (hR : yLR R) {x1 : Int} (F : yW l zSS D cy zFk z d 11 0 0 (fun r h' => ∃ r2 I1, r = some (yi r2) ∧ h' = (N, T, R, I1) ∧ ((r2 = 0 → K (some (yi 0)) (N, T, R, I1)) ∧ (¬ (r2 = 0) → 0 ≤ x1 ∧ x1 < 8 ∧ (((I1 25 x1.toNat) ≠ (-1) → K (some (yi 0)) (N, T, R, I1)) ∧ (¬ ((I1 25 x1.toNat) ≠ (-1)) → K (some (yi 1)) (N, T, R, I1)))))) 0 0 0 [(0, yr (some 4)), (1, yi x1)] [] (N, T, R, I)) :
    yW l zSS D cy zFk z (d + 1) 127 bc bs K 0 0 0 [(0, yr (some 0)), (1, yi x1)] [] (N, T, R, I) := by
  refine e_12 (f_127 (pc := 0) (e := (0, 12, 0, 0, 0, 0, 0, 1)) rfl) rfl ?_
  refine e_90r zA (f_127 (pc := 1) (e := (1, 90, 10, 1, 3, 19, 1064, 4)) rfl) rfl (hT 0 rfl) rfl rfl (hR 0 1 rfl) ?_
  refine e_90r zA (f_127 (pc := 4) (e := (4, 90, 9, 0, 3, 28, 1067, 7)) rfl) rfl (hT 3 rfl) rfl rfl (hR 3 0 rfl) ?_
  refine e_10 (f_127 (pc := 7) (e := (7, 10, 1, 0, 0, 0, 0, 8)) rfl) rfl ?_
  refine e_130 (f_127 (pc := 8) (e := (8, 130, 11, 0, 1, 120, 1101, 11)) rfl) zA (as := [yr (some 4), yi x1]) (rest := []) rfl rfl rfl rfl (Nat.le_of_ble_eq_true rfl) (Nat.le_of_ble_eq_true rfl) ⟨_, _, _, rfl, (hT 4 rfl)⟩ (mc := 0) (ms := 0) (Nat.zero_le _) (Nat.zero_le _) ?_
  refine e_K ?_ F
  rintro r h' ⟨r2, I1, rfl, rfl, F⟩
  refine e_60 (f_127 (pc := 11) (e := (11, 60, 34, 0, 0, 0, 0, 14)) rfl) (fun c3 => ?_) (fun c3 => ?_)
  · replace F := F.1 c3
    refine e_0 (f_127 (pc := 34) (e := (34, 0, 0, 0, 0, 0, 0, 35)) rfl) (v := 0) rfl ?_
    exact e_121 (f_127 (pc := 35) (e := (35, 121, 0, 0, 0, 0, 0, 0)) rfl) (.inl rfl) F
  · replace F := F.2 c3
    refine e_12 (f_127 (pc := 14) (e := (14, 12, 0, 0, 0, 0, 0, 15)) rfl) rfl ?_
    refine e_90r zA (f_127 (pc := 15) (e := (15, 90, 10, 1, 3, 19, 1064, 18)) rfl) rfl (hT 0 rfl) rfl rfl (hR 0 1 rfl) ?_
    refine e_90r zA (f_127 (pc := 18) (e := (18, 90, 9, 1, 3, 92, 1084, 21)) rfl) rfl (hT 3 rfl) rfl rfl (hR 3 1 rfl) ?_
    refine e_90r zA (f_127 (pc := 21) (e := (21, 90, 5, 9, 3, 156, 1111, 24)) rfl) rfl (hT 16 rfl) rfl rfl (hR 16 9 rfl) ?_
    refine e_10 (f_127 (pc := 24) (e := (24, 10, 1, 0, 0, 0, 0, 25)) rfl) rfl ?_
    obtain ⟨b4, b5, F⟩ := F
    refine e_110 (f_127 (pc := 25) (e := (25, 110, 0, 0, 0, 0, 0, 26)) rfl) rfl (hT 25 rfl) b4 b5 ?_
    refine e_0 (f_127 (pc := 26) (e := (26, 0, 4294967295, 0, 0, 0, 0, 27)) rfl) (v := (-1)) rfl ?_
    refine e_71 (f_127 (pc := 27) (e := (27, 71, 34, 0, 0, 0, 0, 30)) rfl) (fun c6 => ?_) (fun c6 => ?_)
    · replace F := F.1 c6
      refine e_0 (f_127 (pc := 34) (e := (34, 0, 0, 0, 0, 0, 0, 35)) rfl) (v := 0) rfl ?_
      exact e_121 (f_127 (pc := 35) (e := (35, 121, 0, 0, 0, 0, 0, 0)) rfl) (.inl rfl) F
    · replace F := F.2 c6
      refine e_0 (f_127 (pc := 30) (e := (30, 0, 1, 0, 0, 0, 0, 31)) rfl) (v := 1) rfl ?_
      refine e_80 (f_127 (pc := 31) (e := (31, 80, 35, 0, 0, 0, 0, 34)) rfl) ?_
      exact e_121 (f_127 (pc := 35) (e := (35, 121, 0, 0, 0, 0, 0, 0)) rfl) (.inr rfl) F

/-! ChairAlley.judge(I)I -/
set_option maxRecDepth 20000 in
theorem B_128_0 (hT : yLT T) (hR : yLR R) {x1 : Int} (F : (x1 = 0 → yW l zSS D cy zFk z d 128 bc bs K 0 0 12 [(0, yr (some 0)), (1, yi x1)] [] (N, T, R, I)) ∧ (¬ (x1 = 0) → (x1 = 1 → yW l zSS D cy zFk z d 128 bc bs K 0 0 12 [(0, yr (some 0)), (1, yi x1)] [] (N, T, R, I)) ∧ (¬ (x1 = 1) → K (some (yi (-2))) (N, T, R, I)))) :
    yW l zSS D cy zFk z d 128 bc bs K 0 0 0 [(0, yr (some 0)), (1, yi x1)] [] (N, T, R, I) := by
  refine e_10 (f_128 (pc := 0) (e := (0, 10, 1, 0, 0, 0, 0, 1)) rfl) rfl ?_
  refine e_60 (f_128 (pc := 1) (e := (1, 60, 12, 0, 0, 0, 0, 4)) rfl) (fun c1 => ?_) (fun c1 => ?_)
  · replace F := F.1 c1
    refine e_lo [0, 1] rfl ?_
    exact F
  · replace F := F.2 c1
    refine e_10 (f_128 (pc := 4) (e := (4, 10, 1, 0, 0, 0, 0, 5)) rfl) rfl ?_
    refine e_0 (f_128 (pc := 5) (e := (5, 0, 1, 0, 0, 0, 0, 6)) rfl) (v := 1) rfl ?_
    refine e_70 (f_128 (pc := 6) (e := (6, 70, 12, 0, 0, 0, 0, 9)) rfl) (fun c2 => ?_) (fun c2 => ?_)
    · replace F := F.1 c2
      refine e_lo [0, 1] rfl ?_
      exact F
    · replace F := F.2 c2
      refine e_1 (f_128 (pc := 9) (e := (9, 1, 4294967294, 0, 0, 0, 0, 11)) rfl) (v := (-2)) rfl ?_
      exact e_120 (f_128 (pc := 11) (e := (11, 120, 0, 0, 0, 0, 0, 12)) rfl) F
set_option maxRecDepth 20000 in
theorem B_128_12 (hT : yLT T) (hR : yLR R) {x1 : Int} (F : yW l zSS D cy zFk z d 102 0 0 (fun r h' => ∃ I1, r = none ∧ h' = (N, T, R, I1) ∧ (yW l zSS D cy zFk z (d + 1) 128 bc bs K 0 0 33 [(0, yr (some 0)), (1, yi x1), (2, yi 0), (3, yi 0), (4, yi 0)] [] (N, T, R, I1))) 0 0 0 [(0, yr (some 67)), (1, yr (some 16))] [] (N, T, R, I)) :
    yW l zSS D cy zFk z (d + 1) 128 bc bs K 0 0 12 [(0, yr (some 0)), (1, yi x1)] [] (N, T, R, I) := by
  refine e_12 (f_128 (pc := 12) (e := (12, 12, 0, 0, 0, 0, 0, 13)) rfl) rfl ?_
  refine e_90r zA (f_128 (pc := 13) (e := (13, 90, 10, 3, 3, 35, 1069, 16)) rfl) rfl (hT 0 rfl) rfl rfl (hR 0 3 rfl) ?_
  refine e_12 (f_128 (pc := 16) (e := (16, 12, 0, 0, 0, 0, 0, 17)) rfl) rfl ?_
  refine e_90r zA (f_128 (pc := 17) (e := (17, 90, 10, 1, 3, 19, 1064, 20)) rfl) rfl (hT 0 rfl) rfl rfl (hR 0 1 rfl) ?_
  refine e_90r zA (f_128 (pc := 20) (e := (20, 90, 9, 1, 3, 92, 1084, 23)) rfl) rfl (hT 3 rfl) rfl rfl (hR 3 1 rfl) ?_
  refine e_130 (f_128 (pc := 23) (e := (23, 130, 102, 0, 7, 193, 1122, 26)) rfl) zA (as := [yr (some 67), yr (some 16)]) (rest := []) rfl rfl rfl rfl (Nat.le_of_ble_eq_true rfl) (Nat.le_of_ble_eq_true rfl) ⟨_, _, _, rfl, (hT 67 rfl)⟩ (mc := 0) (ms := 0) (Nat.zero_le _) (Nat.zero_le _) ?_
  refine e_K ?_ F
  rintro r h' ⟨I1, rfl, rfl, F⟩
  refine e_0 (f_128 (pc := 26) (e := (26, 0, 0, 0, 0, 0, 0, 27)) rfl) (v := 0) rfl ?_
  refine e_20 (f_128 (pc := 27) (e := (27, 20, 2, 0, 0, 0, 0, 28)) rfl) ?_
  refine e_0 (f_128 (pc := 28) (e := (28, 0, 0, 0, 0, 0, 0, 29)) rfl) (v := 0) rfl ?_
  refine e_20 (f_128 (pc := 29) (e := (29, 20, 3, 0, 0, 0, 0, 30)) rfl) ?_
  refine e_0 (f_128 (pc := 30) (e := (30, 0, 0, 0, 0, 0, 0, 31)) rfl) (v := 0) rfl ?_
  refine e_21 (f_128 (pc := 31) (e := (31, 21, 4, 0, 0, 0, 0, 33)) rfl) ?_
  refine e_lo [0, 1, 2, 3, 4] rfl ?_
  exact F
set_option maxRecDepth 20000 in
theorem B_128_33 (hT : yLT T) (hR : yLR R) {x1 x2 x3 x4 : Int} (F : ((I 29 0) ≤ x4 → yW l zSS D cy zFk z (d + 1) 128 bc bs K 0 0 98 [(0, yr (some 0)), (1, yi x1), (2, yi x2), (3, yi x3)] [] (N, T, R, I)) ∧ (¬ ((I 29 0) ≤ x4) → (40 ≤ x4 → yW l zSS D cy zFk z (d + 1) 128 bc bs K 0 0 98 [(0, yr (some 0)), (1, yi x1), (2, yi x2), (3, yi x3)] [] (N, T, R, I)) ∧ (¬ (40 ≤ x4) → (x2 ≠ 0 → yW l zSS D cy zFk z (d + 1) 128 bc bs K 0 0 98 [(0, yr (some 0)), (1, yi x1), (2, yi x2), (3, yi x3)] [] (N, T, R, I)) ∧ (¬ (x2 ≠ 0) → 0 ≤ x4 ∧ x4 < 40 ∧ (yW l zSS D cy zFk z d 87 0 0 (fun r h' => ∃ r7 I6, r = some (yi r7) ∧ h' = (N, T, R, I6) ∧ ((r7 ≠ 0 → yW l zSS D cy zFk z (d + 1) 128 bc bs K 0 0 33 [(0, yr (some 0)), (1, yi x1), (2, yi r7), (3, yi (yadd x3 0)), (4, yi (yadd x4 1))] [] (N, T, R, I6)) ∧ (¬ (r7 ≠ 0) → yW l zSS D cy zFk z (d + 1) 128 bc bs K 0 0 33 [(0, yr (some 0)), (1, yi x1), (2, yi r7), (3, yi (yadd x3 1)), (4, yi (yadd x4 1))] [] (N, T, R, I6)))) 0 0 0 [(0, yr (some 67)), (1, yi (I 30 x4.toNat))] [] (N, T, R, I)))))) :
    yW l zSS D cy zFk z (d + 1) 128 bc bs K 0 0 33 [(0, yr (some 0)), (1, yi x1), (2, yi x2), (3, yi x3), (4, yi x4)] [] (N, T, R, I) := by
  refine e_11 (f_128 (pc := 33) (e := (33, 11, 4, 0, 0, 0, 0, 35)) rfl) rfl ?_
  refine e_12 (f_128 (pc := 35) (e := (35, 12, 0, 0, 0, 0, 0, 36)) rfl) rfl ?_
  refine e_90r zA (f_128 (pc := 36) (e := (36, 90, 10, 1, 3, 19, 1064, 39)) rfl) rfl (hT 0 rfl) rfl rfl (hR 0 1 rfl) ?_
  refine e_90r zA (f_128 (pc := 39) (e := (39, 90, 9, 2, 3, 101, 1086, 42)) rfl) rfl (hT 3 rfl) rfl rfl (hR 3 2 rfl) ?_
  refine e_90 zA (f_128 (pc := 42) (e := (42, 90, 2, 0, 0, 105, 1087, 45)) rfl) rfl (hT 29 rfl) rfl rfl ?_
  refine e_73 (f_128 (pc := 45) (e := (45, 73, 98, 0, 0, 0, 0, 48)) rfl) (fun c1 => ?_) (fun c1 => ?_)
  · replace F := F.1 c1
    refine e_lo [0, 1, 2, 3] rfl ?_
    exact F
  · replace F := F.2 c1
    refine e_11 (f_128 (pc := 48) (e := (48, 11, 4, 0, 0, 0, 0, 50)) rfl) rfl ?_
    refine e_1 (f_128 (pc := 50) (e := (50, 1, 40, 0, 0, 0, 0, 52)) rfl) (v := 40) rfl ?_
    refine e_73 (f_128 (pc := 52) (e := (52, 73, 98, 0, 0, 0, 0, 55)) rfl) (fun c2 => ?_) (fun c2 => ?_)
    · replace F := F.1 c2
      refine e_lo [0, 1, 2, 3] rfl ?_
      exact F
    · replace F := F.2 c2
      refine e_10 (f_128 (pc := 55) (e := (55, 10, 2, 0, 0, 0, 0, 56)) rfl) rfl ?_
      refine e_61 (f_128 (pc := 56) (e := (56, 61, 98, 0, 0, 0, 0, 59)) rfl) (fun c3 => ?_) (fun c3 => ?_)
      · replace F := F.1 c3
        refine e_lo [0, 1, 2, 3] rfl ?_
        exact F
      · replace F := F.2 c3
        refine e_12 (f_128 (pc := 59) (e := (59, 12, 0, 0, 0, 0, 0, 60)) rfl) rfl ?_
        refine e_90r zA (f_128 (pc := 60) (e := (60, 90, 10, 3, 3, 35, 1069, 63)) rfl) rfl (hT 0 rfl) rfl rfl (hR 0 3 rfl) ?_
        refine e_12 (f_128 (pc := 63) (e := (63, 12, 0, 0, 0, 0, 0, 64)) rfl) rfl ?_
        refine e_90r zA (f_128 (pc := 64) (e := (64, 90, 10, 1, 3, 19, 1064, 67)) rfl) rfl (hT 0 rfl) rfl rfl (hR 0 1 rfl) ?_
        refine e_90r zA (f_128 (pc := 67) (e := (67, 90, 9, 2, 3, 101, 1086, 70)) rfl) rfl (hT 3 rfl) rfl rfl (hR 3 2 rfl) ?_
        refine e_90r zA (f_128 (pc := 70) (e := (70, 90, 2, 1, 3, 301, 1123, 73)) rfl) rfl (hT 29 rfl) rfl rfl (hR 29 1 rfl) ?_
        refine e_11 (f_128 (pc := 73) (e := (73, 11, 4, 0, 0, 0, 0, 75)) rfl) rfl ?_
        obtain ⟨b4, b5, F⟩ := F
        refine e_110 (f_128 (pc := 75) (e := (75, 110, 0, 0, 0, 0, 0, 76)) rfl) rfl (hT 30 rfl) b4 b5 ?_
        refine e_130 (f_128 (pc := 76) (e := (76, 130, 87, 0, 7, 302, 1124, 79)) rfl) zA (as := [yr (some 67), yi _]) (rest := []) rfl rfl rfl rfl (Nat.le_of_ble_eq_true rfl) (Nat.le_of_ble_eq_true rfl) ⟨_, _, _, rfl, (hT 67 rfl)⟩ (mc := 0) (ms := 0) (Nat.zero_le _) (Nat.zero_le _) ?_
        refine e_K ?_ F
        rintro r h' ⟨r7, I6, rfl, rfl, F⟩
        refine e_20 (f_128 (pc := 79) (e := (79, 20, 2, 0, 0, 0, 0, 80)) rfl) ?_
        refine e_10 (f_128 (pc := 80) (e := (80, 10, 3, 0, 0, 0, 0, 81)) rfl) rfl ?_
        refine e_10 (f_128 (pc := 81) (e := (81, 10, 2, 0, 0, 0, 0, 82)) rfl) rfl ?_
        refine e_61 (f_128 (pc := 82) (e := (82, 61, 89, 0, 0, 0, 0, 85)) rfl) (fun c8 => ?_) (fun c8 => ?_)
        · replace F := F.1 c8
          refine e_0 (f_128 (pc := 89) (e := (89, 0, 0, 0, 0, 0, 0, 90)) rfl) (v := 0) rfl ?_
          refine e_30 (f_128 (pc := 90) (e := (90, 30, 0, 0, 0, 0, 0, 91)) rfl) ?_
          refine e_20 (f_128 (pc := 91) (e := (91, 20, 3, 0, 0, 0, 0, 92)) rfl) ?_
          refine e_26 (f_128 (pc := 92) (e := (92, 26, 4, 1, 0, 0, 0, 95)) rfl) (w := 1) rfl rfl ?_
          refine e_80 (f_128 (pc := 95) (e := (95, 80, 33, 0, 0, 0, 0, 98)) rfl) ?_
          refine e_lo [0, 1, 2, 3, 4] rfl ?_
          exact F
        · replace F := F.2 c8
          refine e_0 (f_128 (pc := 85) (e := (85, 0, 1, 0, 0, 0, 0, 86)) rfl) (v := 1) rfl ?_
          refine e_80 (f_128 (pc := 86) (e := (86, 80, 90, 0, 0, 0, 0, 89)) rfl) ?_
          refine e_30 (f_128 (pc := 90) (e := (90, 30, 0, 0, 0, 0, 0, 91)) rfl) ?_
          refine e_20 (f_128 (pc := 91) (e := (91, 20, 3, 0, 0, 0, 0, 92)) rfl) ?_
          refine e_26 (f_128 (pc := 92) (e := (92, 26, 4, 1, 0, 0, 0, 95)) rfl) (w := 1) rfl rfl ?_
          refine e_80 (f_128 (pc := 95) (e := (95, 80, 33, 0, 0, 0, 0, 98)) rfl) ?_
          refine e_lo [0, 1, 2, 3, 4] rfl ?_
          exact F
set_option maxRecDepth 20000 in
theorem B_128_98 (hT : yLT T) (hR : yLR R) {x1 x2 x3 : Int} (F : ∀ I1, I1 = yU I 0 7 x2 → (∀ I2, I2 = yU I1 0 8 x3 → (yW l zSS D cy zFk z d 61 0 0 (fun r h' => ∃ r4 I3, r = some (yi r4) ∧ h' = (N, T, R, I3) ∧ (∀ I5, I5 = yU I3 0 9 r4 → ((x1 ≠ 1 → yW l zSS D cy zFk z (d + 1) 128 bc bs K 0 0 145 [(2, yi x2), (3, yi x3)] [] (N, T, R, I5)) ∧ (¬ (x1 ≠ 1) → (x3 ≤ 0 → yW l zSS D cy zFk z (d + 1) 128 bc bs K 0 0 145 [(2, yi x2), (3, yi x3)] [] (N, T, R, I5)) ∧ (¬ (x3 ≤ 0) → yW l zSS D cy zFk z d 134 0 0 (fun r h' => ∃ I8, r = none ∧ h' = (N, T, R, I8) ∧ (yW l zSS D cy zFk z (d + 1) 128 bc bs K 0 0 145 [(2, yi x2), (3, yi x3)] [] (N, T, R, I8))) 0 0 0 [(0, yr (some 0))] [] (N, T, R, I5)))))) 0 0 0 [(0, yr (some 68)), (1, yi (I2 4 5))] [] (N, T, R, I2)))) :
    yW l zSS D cy zFk z (d + 1) 128 bc bs K 0 0 98 [(0, yr (some 0)), (1, yi x1), (2, yi x2), (3, yi x3)] [] (N, T, R, I) := by
  refine e_12 (f_128 (pc := 98) (e := (98, 12, 0, 0, 0, 0, 0, 99)) rfl) rfl ?_
  refine e_10 (f_128 (pc := 99) (e := (99, 10, 2, 0, 0, 0, 0, 100)) rfl) rfl ?_
  refine e_91 zA (f_128 (pc := 100) (e := (100, 91, 10, 7, 0, 57, 1075, 103)) rfl) rfl (hT 0 rfl) rfl rfl trivial ?_
  replace F := F _ rfl
  refine e_12 (f_128 (pc := 103) (e := (103, 12, 0, 0, 0, 0, 0, 104)) rfl) rfl ?_
  refine e_10 (f_128 (pc := 104) (e := (104, 10, 3, 0, 0, 0, 0, 105)) rfl) rfl ?_
  refine e_91 zA (f_128 (pc := 105) (e := (105, 91, 10, 8, 0, 61, 1076, 108)) rfl) rfl (hT 0 rfl) rfl rfl trivial ?_
  replace F := F _ rfl
  refine e_12 (f_128 (pc := 108) (e := (108, 12, 0, 0, 0, 0, 0, 109)) rfl) rfl ?_
  refine e_12 (f_128 (pc := 109) (e := (109, 12, 0, 0, 0, 0, 0, 110)) rfl) rfl ?_
  refine e_90r zA (f_128 (pc := 110) (e := (110, 90, 10, 3, 3, 35, 1069, 113)) rfl) rfl (hT 0 rfl) rfl rfl (hR 0 3 rfl) ?_
  refine e_90r zA (f_128 (pc := 113) (e := (113, 90, 7, 2, 3, 206, 1094, 116)) rfl) rfl (hT 67 rfl) rfl rfl (hR 67 2 rfl) ?_
  refine e_12 (f_128 (pc := 116) (e := (116, 12, 0, 0, 0, 0, 0, 117)) rfl) rfl ?_
  refine e_90r zA (f_128 (pc := 117) (e := (117, 90, 10, 1, 3, 19, 1064, 120)) rfl) rfl (hT 0 rfl) rfl rfl (hR 0 1 rfl) ?_
  refine e_90r zA (f_128 (pc := 120) (e := (120, 90, 9, 0, 3, 28, 1067, 123)) rfl) rfl (hT 3 rfl) rfl rfl (hR 3 0 rfl) ?_
  refine e_90 zA (f_128 (pc := 123) (e := (123, 90, 1, 5, 0, 218, 1093, 126)) rfl) rfl (hT 4 rfl) rfl rfl ?_
  refine e_130 (f_128 (pc := 126) (e := (126, 130, 61, 0, 5, 224, 1121, 129)) rfl) zA (as := [yr (some 68), yi _]) (rest := [yr (some 0)]) rfl rfl rfl rfl (Nat.le_of_ble_eq_true rfl) (Nat.le_of_ble_eq_true rfl) ⟨_, _, _, rfl, (hT 68 rfl)⟩ (mc := 0) (ms := 0) (Nat.zero_le _) (Nat.zero_le _) ?_
  refine e_K ?_ F
  rintro r h' ⟨r4, I3, rfl, rfl, F⟩
  refine e_91 zA (f_128 (pc := 129) (e := (129, 91, 10, 9, 0, 64, 1077, 132)) rfl) rfl (hT 0 rfl) rfl rfl trivial ?_
  replace F := F _ rfl
  refine e_10 (f_128 (pc := 132) (e := (132, 10, 1, 0, 0, 0, 0, 133)) rfl) rfl ?_
  refine e_0 (f_128 (pc := 133) (e := (133, 0, 1, 0, 0, 0, 0, 134)) rfl) (v := 1) rfl ?_
  refine e_71 (f_128 (pc := 134) (e := (134, 71, 145, 0, 0, 0, 0, 137)) rfl) (fun c6 => ?_) (fun c6 => ?_)
  · replace F := F.1 c6
    refine e_lo [2, 3] rfl ?_
    exact F
  · replace F := F.2 c6
    refine e_10 (f_128 (pc := 137) (e := (137, 10, 3, 0, 0, 0, 0, 138)) rfl) rfl ?_
    refine e_65 (f_128 (pc := 138) (e := (138, 65, 145, 0, 0, 0, 0, 141)) rfl) (fun c7 => ?_) (fun c7 => ?_)
    · replace F := F.1 c7
      refine e_lo [2, 3] rfl ?_
      exact F
    · replace F := F.2 c7
      refine e_12 (f_128 (pc := 141) (e := (141, 12, 0, 0, 0, 0, 0, 142)) rfl) rfl ?_
      refine e_130 (f_128 (pc := 142) (e := (142, 130, 134, 0, 10, 215, 1125, 145)) rfl) zA (as := [yr (some 0)]) (rest := []) rfl rfl rfl rfl (Nat.le_of_ble_eq_true rfl) (Nat.le_of_ble_eq_true rfl) ⟨_, _, _, rfl, (hT 0 rfl)⟩ (mc := 0) (ms := 0) (Nat.zero_le _) (Nat.zero_le _) ?_
      refine e_K ?_ F
      rintro r h' ⟨I8, rfl, rfl, F⟩
      refine e_lo [2, 3] rfl ?_
      exact F
set_option maxRecDepth 20000 in
theorem B_128_145 (hT : yLT T) (hR : yLR R) {x2 x3 : Int} (F : (x2 ≠ 0 → K (some (yi x3)) (N, T, R, I)) ∧ (¬ (x2 ≠ 0) → K (some (yi (-1))) (N, T, R, I))) :
    yW l zSS D cy zFk z d 128 bc bs K 0 0 145 [(2, yi x2), (3, yi x3)] [] (N, T, R, I) := by
  refine e_10 (f_128 (pc := 145) (e := (145, 10, 2, 0, 0, 0, 0, 146)) rfl) rfl ?_
  refine e_61 (f_128 (pc := 146) (e := (146, 61, 153, 0, 0, 0, 0, 149)) rfl) (fun c1 => ?_) (fun c1 => ?_)
  · replace F := F.1 c1
    refine e_10 (f_128 (pc := 153) (e := (153, 10, 3, 0, 0, 0, 0, 154)) rfl) rfl ?_
    exact e_120 (f_128 (pc := 154) (e := (154, 120, 0, 0, 0, 0, 0, 0)) rfl) F
  · replace F := F.2 c1
    refine e_0 (f_128 (pc := 149) (e := (149, 0, 4294967295, 0, 0, 0, 0, 150)) rfl) (v := (-1)) rfl ?_
    refine e_80 (f_128 (pc := 150) (e := (150, 80, 154, 0, 0, 0, 0, 153)) rfl) ?_
    exact e_120 (f_128 (pc := 154) (e := (154, 120, 0, 0, 0, 0, 0, 0)) rfl) F

/-! ChairAlley.judged(I)I -/
set_option maxRecDepth 20000 in
theorem B_129_0 (hT : yLT T) (hR : yLR R) {x1 : Int} (F : (x1 = 0 → K (some (yi (I 0 7))) (N, T, R, I)) ∧ (¬ (x1 = 0) → (x1 = 1 → K (some (yi (I 0 8))) (N, T, R, I)) ∧ (¬ (x1 = 1) → (x1 = 2 → K (some (yi (I 0 9))) (N, T, R, I)) ∧ (¬ (x1 = 2) → K (some (yi (-1))) (N, T, R, I))))) :
    yW l zSS D cy zFk z d 129 bc bs K 0 0 0 [(0, yr (some 0)), (1, yi x1)] [] (N, T, R, I) := by
  refine e_10 (f_129 (pc := 0) (e := (0, 10, 1, 0, 0, 0, 0, 1)) rfl) rfl ?_
  refine e_83 (f_129 (pc := 1) (e := (1, 83, 2147483648, 3, 8, 0, 0, 43)) rfl) (v := x1) (low := 0) rfl ?_
  by_cases c1 : x1 = 0
  · replace F := F.1 c1
    rw [show ySw 0 (yTg zGG 8) 43 x1 = 28 from by rw [c1]; rfl]
    refine e_12 (f_129 (pc := 28) (e := (28, 12, 0, 0, 0, 0, 0, 29)) rfl) rfl ?_
    refine e_90 zA (f_129 (pc := 29) (e := (29, 90, 10, 7, 0, 57, 1075, 32)) rfl) rfl (hT 0 rfl) rfl rfl ?_
    exact e_120 (f_129 (pc := 32) (e := (32, 120, 0, 0, 0, 0, 0, 33)) rfl) F
  · replace F := F.2 c1
    by_cases c2 : x1 = 1
    · replace F := F.1 c2
      rw [show ySw 0 (yTg zGG 8) 43 x1 = 33 from by rw [c2]; rfl]
      refine e_12 (f_129 (pc := 33) (e := (33, 12, 0, 0, 0, 0, 0, 34)) rfl) rfl ?_
      refine e_90 zA (f_129 (pc := 34) (e := (34, 90, 10, 8, 0, 61, 1076, 37)) rfl) rfl (hT 0 rfl) rfl rfl ?_
      exact e_120 (f_129 (pc := 37) (e := (37, 120, 0, 0, 0, 0, 0, 38)) rfl) F
    · replace F := F.2 c2
      by_cases c3 : x1 = 2
      · replace F := F.1 c3
        rw [show ySw 0 (yTg zGG 8) 43 x1 = 38 from by rw [c3]; rfl]
        refine e_12 (f_129 (pc := 38) (e := (38, 12, 0, 0, 0, 0, 0, 39)) rfl) rfl ?_
        refine e_90 zA (f_129 (pc := 39) (e := (39, 90, 10, 9, 0, 64, 1077, 42)) rfl) rfl (hT 0 rfl) rfl rfl ?_
        exact e_120 (f_129 (pc := 42) (e := (42, 120, 0, 0, 0, 0, 0, 43)) rfl) F
      · replace F := F.2 c3
        rw [show ySw 0 (yTg zGG 8) 43 x1 = 43 from ySw_out (n := 3) rfl (by omega)]
        refine e_0 (f_129 (pc := 43) (e := (43, 0, 4294967295, 0, 0, 0, 0, 44)) rfl) (v := (-1)) rfl ?_
        exact e_120 (f_129 (pc := 44) (e := (44, 120, 0, 0, 0, 0, 0, 0)) rfl) F

/-! ChairAlley.lane(II)Z -/
set_option maxRecDepth 20000 in
theorem B_130_0 (hT : yLT T) (hR : yLR R) {x1 x2 : Int} (F : yW l zSS D cy zFk z d 10 0 0 (fun r h' => ∃ r2 I1, r = some (yi r2) ∧ h' = (N, T, R, I1) ∧ ((r2 = 0 → K (some (yi 0)) (N, T, R, I1)) ∧ (¬ (r2 = 0) → yW l zSS D cy zFk z d 12 0 0 (fun r h' => ∃ r5 I4, r = some (yi r5) ∧ h' = (N, T, R, I4) ∧ ((r5 = 0 → (x2 < (-1) → K (some (yi 0)) (N, T, R, I4)) ∧ (¬ (x2 < (-1)) → (4 ≤ x2 → K (some (yi 0)) (N, T, R, I4)) ∧ (¬ (4 ≤ x2) → 0 ≤ x1 ∧ x1 < 100 ∧ (((I4 17 x1.toNat) ≠ x2 → yW l zSS D cy zFk z d 2 0 0 (fun r h' => ∃ I12, r = none ∧ h' = (N, T, R, I12) ∧ (0 ≤ x1 ∧ x1 < 100 ∧ (∀ I15, I15 = yU I12 17 x1.toNat (ynar 1 x2) → (K (some (yi 1)) (N, T, R, I15))))) 0 0 0 [(0, yr (some 89)), (1, yr (some 16))] [] (N, T, R, I4)) ∧ (¬ ((I4 17 x1.toNat) ≠ x2) → K (some (yi 0)) (N, T, R, I4)))))) ∧ (¬ (r5 = 0) → K (some (yi 0)) (N, T, R, I4)))) 0 0 0 [(0, yr (some 4)), (1, yi x1), (2, yi 1)] [] (N, T, R, I1)))) 0 0 0 [(0, yr (some 4)), (1, yi x1)] [] (N, T, R, I)) :
    yW l zSS D cy zFk z (d + 1) 130 bc bs K 0 0 0 [(0, yr (some 0)), (1, yi x1), (2, yi x2)] [] (N, T, R, I) := by
  refine e_12 (f_130 (pc := 0) (e := (0, 12, 0, 0, 0, 0, 0, 1)) rfl) rfl ?_
  refine e_90r zA (f_130 (pc := 1) (e := (1, 90, 10, 1, 3, 19, 1064, 4)) rfl) rfl (hT 0 rfl) rfl rfl (hR 0 1 rfl) ?_
  refine e_90r zA (f_130 (pc := 4) (e := (4, 90, 9, 0, 3, 28, 1067, 7)) rfl) rfl (hT 3 rfl) rfl rfl (hR 3 0 rfl) ?_
  refine e_10 (f_130 (pc := 7) (e := (7, 10, 1, 0, 0, 0, 0, 8)) rfl) rfl ?_
  refine e_130 (f_130 (pc := 8) (e := (8, 130, 10, 0, 1, 159, 1097, 11)) rfl) zA (as := [yr (some 4), yi x1]) (rest := []) rfl rfl rfl rfl (Nat.le_of_ble_eq_true rfl) (Nat.le_of_ble_eq_true rfl) ⟨_, _, _, rfl, (hT 4 rfl)⟩ (mc := 0) (ms := 0) (Nat.zero_le _) (Nat.zero_le _) ?_
  refine e_K ?_ F
  rintro r h' ⟨r2, I1, rfl, rfl, F⟩
  refine e_60 (f_130 (pc := 11) (e := (11, 60, 29, 0, 0, 0, 0, 14)) rfl) (fun c3 => ?_) (fun c3 => ?_)
  · replace F := F.1 c3
    refine e_0 (f_130 (pc := 29) (e := (29, 0, 0, 0, 0, 0, 0, 30)) rfl) (v := 0) rfl ?_
    exact e_121 (f_130 (pc := 30) (e := (30, 121, 0, 0, 0, 0, 0, 31)) rfl) (.inl rfl) F
  · replace F := F.2 c3
    refine e_12 (f_130 (pc := 14) (e := (14, 12, 0, 0, 0, 0, 0, 15)) rfl) rfl ?_
    refine e_90r zA (f_130 (pc := 15) (e := (15, 90, 10, 1, 3, 19, 1064, 18)) rfl) rfl (hT 0 rfl) rfl rfl (hR 0 1 rfl) ?_
    refine e_90r zA (f_130 (pc := 18) (e := (18, 90, 9, 0, 3, 28, 1067, 21)) rfl) rfl (hT 3 rfl) rfl rfl (hR 3 0 rfl) ?_
    refine e_10 (f_130 (pc := 21) (e := (21, 10, 1, 0, 0, 0, 0, 22)) rfl) rfl ?_
    refine e_0 (f_130 (pc := 22) (e := (22, 0, 1, 0, 0, 0, 0, 23)) rfl) (v := 1) rfl ?_
    refine e_130 (f_130 (pc := 23) (e := (23, 130, 12, 0, 1, 162, 1098, 26)) rfl) zA (as := [yr (some 4), yi x1, yi 1]) (rest := []) rfl rfl rfl rfl (Nat.le_of_ble_eq_true rfl) (Nat.le_of_ble_eq_true rfl) ⟨_, _, _, rfl, (hT 4 rfl)⟩ (mc := 0) (ms := 0) (Nat.zero_le _) (Nat.zero_le _) ?_
    refine e_K ?_ F
    rintro r h' ⟨r5, I4, rfl, rfl, F⟩
    refine e_60 (f_130 (pc := 26) (e := (26, 60, 31, 0, 0, 0, 0, 29)) rfl) (fun c6 => ?_) (fun c6 => ?_)
    · replace F := F.1 c6
      refine e_10 (f_130 (pc := 31) (e := (31, 10, 2, 0, 0, 0, 0, 32)) rfl) rfl ?_
      refine e_0 (f_130 (pc := 32) (e := (32, 0, 4294967295, 0, 0, 0, 0, 33)) rfl) (v := (-1)) rfl ?_
      refine e_72 (f_130 (pc := 33) (e := (33, 72, 57, 0, 0, 0, 0, 36)) rfl) (fun c7 => ?_) (fun c7 => ?_)
      · replace F := F.1 c7
        refine e_0 (f_130 (pc := 57) (e := (57, 0, 0, 0, 0, 0, 0, 58)) rfl) (v := 0) rfl ?_
        exact e_121 (f_130 (pc := 58) (e := (58, 121, 0, 0, 0, 0, 0, 59)) rfl) (.inl rfl) F
      · replace F := F.2 c7
        refine e_10 (f_130 (pc := 36) (e := (36, 10, 2, 0, 0, 0, 0, 37)) rfl) rfl ?_
        refine e_0 (f_130 (pc := 37) (e := (37, 0, 4, 0, 0, 0, 0, 38)) rfl) (v := 4) rfl ?_
        refine e_73 (f_130 (pc := 38) (e := (38, 73, 57, 0, 0, 0, 0, 41)) rfl) (fun c8 => ?_) (fun c8 => ?_)
        · replace F := F.1 c8
          refine e_0 (f_130 (pc := 57) (e := (57, 0, 0, 0, 0, 0, 0, 58)) rfl) (v := 0) rfl ?_
          exact e_121 (f_130 (pc := 58) (e := (58, 121, 0, 0, 0, 0, 0, 59)) rfl) (.inl rfl) F
        · replace F := F.2 c8
          refine e_12 (f_130 (pc := 41) (e := (41, 12, 0, 0, 0, 0, 0, 42)) rfl) rfl ?_
          refine e_90r zA (f_130 (pc := 42) (e := (42, 90, 10, 1, 3, 19, 1064, 45)) rfl) rfl (hT 0 rfl) rfl rfl (hR 0 1 rfl) ?_
          refine e_90r zA (f_130 (pc := 45) (e := (45, 90, 9, 1, 3, 92, 1084, 48)) rfl) rfl (hT 3 rfl) rfl rfl (hR 3 1 rfl) ?_
          refine e_90r zA (f_130 (pc := 48) (e := (48, 90, 5, 1, 3, 166, 1099, 51)) rfl) rfl (hT 16 rfl) rfl rfl (hR 16 1 rfl) ?_
          refine e_10 (f_130 (pc := 51) (e := (51, 10, 1, 0, 0, 0, 0, 52)) rfl) rfl ?_
          obtain ⟨b9, b10, F⟩ := F
          refine e_110 (f_130 (pc := 52) (e := (52, 110, 0, 0, 0, 0, 0, 53)) rfl) rfl (hT 17 rfl) b9 b10 ?_
          refine e_10 (f_130 (pc := 53) (e := (53, 10, 2, 0, 0, 0, 0, 54)) rfl) rfl ?_
          refine e_71 (f_130 (pc := 54) (e := (54, 71, 59, 0, 0, 0, 0, 57)) rfl) (fun c11 => ?_) (fun c11 => ?_)
          · replace F := F.1 c11
            refine e_12 (f_130 (pc := 59) (e := (59, 12, 0, 0, 0, 0, 0, 60)) rfl) rfl ?_
            refine e_90r zA (f_130 (pc := 60) (e := (60, 90, 10, 4, 3, 42, 1071, 63)) rfl) rfl (hT 0 rfl) rfl rfl (hR 0 4 rfl) ?_
            refine e_12 (f_130 (pc := 63) (e := (63, 12, 0, 0, 0, 0, 0, 64)) rfl) rfl ?_
            refine e_90r zA (f_130 (pc := 64) (e := (64, 90, 10, 1, 3, 19, 1064, 67)) rfl) rfl (hT 0 rfl) rfl rfl (hR 0 1 rfl) ?_
            refine e_90r zA (f_130 (pc := 67) (e := (67, 90, 9, 1, 3, 92, 1084, 70)) rfl) rfl (hT 3 rfl) rfl rfl (hR 3 1 rfl) ?_
            refine e_130 (f_130 (pc := 70) (e := (70, 130, 2, 0, 0, 241, 1116, 73)) rfl) zA (as := [yr (some 89), yr (some 16)]) (rest := []) rfl rfl rfl rfl (Nat.le_of_ble_eq_true rfl) (Nat.le_of_ble_eq_true rfl) ⟨_, _, _, rfl, (hT 89 rfl)⟩ (mc := 0) (ms := 0) (Nat.zero_le _) (Nat.zero_le _) ?_
            refine e_K ?_ F
            rintro r h' ⟨I12, rfl, rfl, F⟩
            refine e_12 (f_130 (pc := 73) (e := (73, 12, 0, 0, 0, 0, 0, 74)) rfl) rfl ?_
            refine e_90r zA (f_130 (pc := 74) (e := (74, 90, 10, 1, 3, 19, 1064, 77)) rfl) rfl (hT 0 rfl) rfl rfl (hR 0 1 rfl) ?_
            refine e_90r zA (f_130 (pc := 77) (e := (77, 90, 9, 1, 3, 92, 1084, 80)) rfl) rfl (hT 3 rfl) rfl rfl (hR 3 1 rfl) ?_
            refine e_90r zA (f_130 (pc := 80) (e := (80, 90, 5, 1, 3, 166, 1099, 83)) rfl) rfl (hT 16 rfl) rfl rfl (hR 16 1 rfl) ?_
            refine e_10 (f_130 (pc := 83) (e := (83, 10, 1, 0, 0, 0, 0, 84)) rfl) rfl ?_
            refine e_10 (f_130 (pc := 84) (e := (84, 10, 2, 0, 0, 0, 0, 85)) rfl) rfl ?_
            obtain ⟨b13, b14, F⟩ := F
            refine e_111 (f_130 (pc := 85) (e := (85, 111, 0, 0, 0, 0, 0, 86)) rfl) rfl (hT 17 rfl) b13 b14 ?_
            replace F := F _ rfl
            refine e_0 (f_130 (pc := 86) (e := (86, 0, 1, 0, 0, 0, 0, 87)) rfl) (v := 1) rfl ?_
            exact e_121 (f_130 (pc := 87) (e := (87, 121, 0, 0, 0, 0, 0, 0)) rfl) (.inr rfl) F
          · replace F := F.2 c11
            refine e_0 (f_130 (pc := 57) (e := (57, 0, 0, 0, 0, 0, 0, 58)) rfl) (v := 0) rfl ?_
            exact e_121 (f_130 (pc := 58) (e := (58, 121, 0, 0, 0, 0, 0, 59)) rfl) (.inl rfl) F
    · replace F := F.2 c6
      refine e_0 (f_130 (pc := 29) (e := (29, 0, 0, 0, 0, 0, 0, 30)) rfl) (v := 0) rfl ?_
      exact e_121 (f_130 (pc := 30) (e := (30, 121, 0, 0, 0, 0, 0, 31)) rfl) (.inl rfl) F

/-! ChairAlley.last()I -/
set_option maxRecDepth 20000 in
theorem B_131_0 (hT : yLT T) (hR : yLR R) (F : yW l zSS D cy zFk z d 125 0 0 (fun r h' => ∃ r2 I1, r = some (yi r2) ∧ h' = (N, T, R, I1) ∧ ((r2 = 0 → yW l zSS D cy zFk z d 102 0 0 (fun r h' => ∃ I4, r = none ∧ h' = (N, T, R, I4) ∧ (yW l zSS D cy zFk z d 96 0 0 (fun r h' => ∃ I5, r = none ∧ h' = (N, T, R, I5) ∧ (yW l zSS D cy zFk z d 89 0 0 (fun r h' => ∃ I6, r = none ∧ h' = (N, T, R, I6) ∧ (yW l zSS D cy zFk z d 93 0 0 (fun r h' => ∃ r8 I7, r = some (yi r8) ∧ h' = (N, T, R, I7) ∧ (K (some (yi r8)) (N, T, R, I7))) 0 0 0 [(0, yr (some 67))] [] (N, T, R, I6))) 0 0 0 [(0, yr (some 67)), (1, yi 500)] [] (N, T, R, I5))) 0 0 0 [(0, yr (some 67))] [] (N, T, R, I4))) 0 0 0 [(0, yr (some 67)), (1, yr (some 16))] [] (N, T, R, I1)) ∧ (¬ (r2 = 0) → K (some (yi (-1))) (N, T, R, I1)))) 0 0 0 [(0, yr (some 0))] [] (N, T, R, I)) :
    yW l zSS D cy zFk z (d + 1) 131 bc bs K 0 0 0 [(0, yr (some 0))] [] (N, T, R, I) := by
  refine e_12 (f_131 (pc := 0) (e := (0, 12, 0, 0, 0, 0, 0, 1)) rfl) rfl ?_
  refine e_130 (f_131 (pc := 1) (e := (1, 130, 125, 0, 10, 254, 1126, 4)) rfl) zA (as := [yr (some 0)]) (rest := []) rfl rfl rfl rfl (Nat.le_of_ble_eq_true rfl) (Nat.le_of_ble_eq_true rfl) ⟨_, _, _, rfl, (hT 0 rfl)⟩ (mc := 0) (ms := 0) (Nat.zero_le _) (Nat.zero_le _) ?_
  refine e_K ?_ F
  rintro r h' ⟨r2, I1, rfl, rfl, F⟩
  refine e_60 (f_131 (pc := 4) (e := (4, 60, 9, 0, 0, 0, 0, 7)) rfl) (fun c3 => ?_) (fun c3 => ?_)
  · replace F := F.1 c3
    refine e_12 (f_131 (pc := 9) (e := (9, 12, 0, 0, 0, 0, 0, 10)) rfl) rfl ?_
    refine e_90r zA (f_131 (pc := 10) (e := (10, 90, 10, 3, 3, 35, 1069, 13)) rfl) rfl (hT 0 rfl) rfl rfl (hR 0 3 rfl) ?_
    refine e_12 (f_131 (pc := 13) (e := (13, 12, 0, 0, 0, 0, 0, 14)) rfl) rfl ?_
    refine e_90r zA (f_131 (pc := 14) (e := (14, 90, 10, 1, 3, 19, 1064, 17)) rfl) rfl (hT 0 rfl) rfl rfl (hR 0 1 rfl) ?_
    refine e_90r zA (f_131 (pc := 17) (e := (17, 90, 9, 1, 3, 92, 1084, 20)) rfl) rfl (hT 3 rfl) rfl rfl (hR 3 1 rfl) ?_
    refine e_130 (f_131 (pc := 20) (e := (20, 130, 102, 0, 7, 193, 1122, 23)) rfl) zA (as := [yr (some 67), yr (some 16)]) (rest := []) rfl rfl rfl rfl (Nat.le_of_ble_eq_true rfl) (Nat.le_of_ble_eq_true rfl) ⟨_, _, _, rfl, (hT 67 rfl)⟩ (mc := 0) (ms := 0) (Nat.zero_le _) (Nat.zero_le _) ?_
    refine e_K ?_ F
    rintro r h' ⟨I4, rfl, rfl, F⟩
    refine e_12 (f_131 (pc := 23) (e := (23, 12, 0, 0, 0, 0, 0, 24)) rfl) rfl ?_
    refine e_90r zA (f_131 (pc := 24) (e := (24, 90, 10, 3, 3, 35, 1069, 27)) rfl) rfl (hT 0 rfl) rfl rfl (hR 0 3 rfl) ?_
    refine e_130 (f_131 (pc := 27) (e := (27, 130, 96, 0, 7, 203, 1092, 30)) rfl) zA (as := [yr (some 67)]) (rest := []) rfl rfl rfl rfl (Nat.le_of_ble_eq_true rfl) (Nat.le_of_ble_eq_true rfl) ⟨_, _, _, rfl, (hT 67 rfl)⟩ (mc := 0) (ms := 0) (Nat.zero_le _) (Nat.zero_le _) ?_
    refine e_K ?_ F
    rintro r h' ⟨I5, rfl, rfl, F⟩
    refine e_12 (f_131 (pc := 30) (e := (30, 12, 0, 0, 0, 0, 0, 31)) rfl) rfl ?_
    refine e_90r zA (f_131 (pc := 31) (e := (31, 90, 10, 3, 3, 35, 1069, 34)) rfl) rfl (hT 0 rfl) rfl rfl (hR 0 3 rfl) ?_
    refine e_2 (f_131 (pc := 34) (e := (34, 2, 500, 0, 0, 0, 0, 37)) rfl) (v := 500) rfl ?_
    refine e_130 (f_131 (pc := 37) (e := (37, 130, 89, 0, 7, 258, 1127, 40)) rfl) zA (as := [yr (some 67), yi 500]) (rest := []) rfl rfl rfl rfl (Nat.le_of_ble_eq_true rfl) (Nat.le_of_ble_eq_true rfl) ⟨_, _, _, rfl, (hT 67 rfl)⟩ (mc := 0) (ms := 0) (Nat.zero_le _) (Nat.zero_le _) ?_
    refine e_K ?_ F
    rintro r h' ⟨I6, rfl, rfl, F⟩
    refine e_12 (f_131 (pc := 40) (e := (40, 12, 0, 0, 0, 0, 0, 41)) rfl) rfl ?_
    refine e_90r zA (f_131 (pc := 41) (e := (41, 90, 10, 3, 3, 35, 1069, 44)) rfl) rfl (hT 0 rfl) rfl rfl (hR 0 3 rfl) ?_
    refine e_130 (f_131 (pc := 44) (e := (44, 130, 93, 0, 7, 261, 1128, 47)) rfl) zA (as := [yr (some 67)]) (rest := []) rfl rfl rfl rfl (Nat.le_of_ble_eq_true rfl) (Nat.le_of_ble_eq_true rfl) ⟨_, _, _, rfl, (hT 67 rfl)⟩ (mc := 0) (ms := 0) (Nat.zero_le _) (Nat.zero_le _) ?_
    refine e_K ?_ F
    rintro r h' ⟨r8, I7, rfl, rfl, F⟩
    exact e_120 (f_131 (pc := 47) (e := (47, 120, 0, 0, 0, 0, 0, 0)) rfl) F
  · replace F := F.2 c3
    refine e_0 (f_131 (pc := 7) (e := (7, 0, 4294967295, 0, 0, 0, 0, 8)) rfl) (v := (-1)) rfl ?_
    exact e_120 (f_131 (pc := 8) (e := (8, 120, 0, 0, 0, 0, 0, 9)) rfl) F

/-! ChairAlley.latest()I -/
set_option maxRecDepth 20000 in
theorem B_132_0 (hT : yLT T) (hR : yLR R) (F : yW l zSS D cy zFk z d 102 0 0 (fun r h' => ∃ I1, r = none ∧ h' = (N, T, R, I1) ∧ (yW l zSS D cy zFk z d 96 0 0 (fun r h' => ∃ I2, r = none ∧ h' = (N, T, R, I2) ∧ (yW l zSS D cy zFk z d 89 0 0 (fun r h' => ∃ I3, r = none ∧ h' = (N, T, R, I3) ∧ (yW l zSS D cy zFk z (d + 1) 132 bc bs K 0 0 35 [(0, yr (some 0)), (1, yi (-1)), (2, yi 0)] [] (N, T, R, I3))) 0 0 0 [(0, yr (some 67)), (1, yi 500)] [] (N, T, R, I2))) 0 0 0 [(0, yr (some 67))] [] (N, T, R, I1))) 0 0 0 [(0, yr (some 67)), (1, yr (some 16))] [] (N, T, R, I)) :
    yW l zSS D cy zFk z (d + 1) 132 bc bs K 0 0 0 [(0, yr (some 0))] [] (N, T, R, I) := by
  refine e_12 (f_132 (pc := 0) (e := (0, 12, 0, 0, 0, 0, 0, 1)) rfl) rfl ?_
  refine e_90r zA (f_132 (pc := 1) (e := (1, 90, 10, 3, 3, 35, 1069, 4)) rfl) rfl (hT 0 rfl) rfl rfl (hR 0 3 rfl) ?_
  refine e_12 (f_132 (pc := 4) (e := (4, 12, 0, 0, 0, 0, 0, 5)) rfl) rfl ?_
  refine e_90r zA (f_132 (pc := 5) (e := (5, 90, 10, 1, 3, 19, 1064, 8)) rfl) rfl (hT 0 rfl) rfl rfl (hR 0 1 rfl) ?_
  refine e_90r zA (f_132 (pc := 8) (e := (8, 90, 9, 1, 3, 92, 1084, 11)) rfl) rfl (hT 3 rfl) rfl rfl (hR 3 1 rfl) ?_
  refine e_130 (f_132 (pc := 11) (e := (11, 130, 102, 0, 7, 193, 1122, 14)) rfl) zA (as := [yr (some 67), yr (some 16)]) (rest := []) rfl rfl rfl rfl (Nat.le_of_ble_eq_true rfl) (Nat.le_of_ble_eq_true rfl) ⟨_, _, _, rfl, (hT 67 rfl)⟩ (mc := 0) (ms := 0) (Nat.zero_le _) (Nat.zero_le _) ?_
  refine e_K ?_ F
  rintro r h' ⟨I1, rfl, rfl, F⟩
  refine e_12 (f_132 (pc := 14) (e := (14, 12, 0, 0, 0, 0, 0, 15)) rfl) rfl ?_
  refine e_90r zA (f_132 (pc := 15) (e := (15, 90, 10, 3, 3, 35, 1069, 18)) rfl) rfl (hT 0 rfl) rfl rfl (hR 0 3 rfl) ?_
  refine e_130 (f_132 (pc := 18) (e := (18, 130, 96, 0, 7, 203, 1092, 21)) rfl) zA (as := [yr (some 67)]) (rest := []) rfl rfl rfl rfl (Nat.le_of_ble_eq_true rfl) (Nat.le_of_ble_eq_true rfl) ⟨_, _, _, rfl, (hT 67 rfl)⟩ (mc := 0) (ms := 0) (Nat.zero_le _) (Nat.zero_le _) ?_
  refine e_K ?_ F
  rintro r h' ⟨I2, rfl, rfl, F⟩
  refine e_12 (f_132 (pc := 21) (e := (21, 12, 0, 0, 0, 0, 0, 22)) rfl) rfl ?_
  refine e_90r zA (f_132 (pc := 22) (e := (22, 90, 10, 3, 3, 35, 1069, 25)) rfl) rfl (hT 0 rfl) rfl rfl (hR 0 3 rfl) ?_
  refine e_2 (f_132 (pc := 25) (e := (25, 2, 500, 0, 0, 0, 0, 28)) rfl) (v := 500) rfl ?_
  refine e_130 (f_132 (pc := 28) (e := (28, 130, 89, 0, 7, 258, 1127, 31)) rfl) zA (as := [yr (some 67), yi 500]) (rest := []) rfl rfl rfl rfl (Nat.le_of_ble_eq_true rfl) (Nat.le_of_ble_eq_true rfl) ⟨_, _, _, rfl, (hT 67 rfl)⟩ (mc := 0) (ms := 0) (Nat.zero_le _) (Nat.zero_le _) ?_
  refine e_K ?_ F
  rintro r h' ⟨I3, rfl, rfl, F⟩
  refine e_0 (f_132 (pc := 31) (e := (31, 0, 4294967295, 0, 0, 0, 0, 32)) rfl) (v := (-1)) rfl ?_
  refine e_20 (f_132 (pc := 32) (e := (32, 20, 1, 0, 0, 0, 0, 33)) rfl) ?_
  refine e_0 (f_132 (pc := 33) (e := (33, 0, 0, 0, 0, 0, 0, 34)) rfl) (v := 0) rfl ?_
  refine e_20 (f_132 (pc := 34) (e := (34, 20, 2, 0, 0, 0, 0, 35)) rfl) ?_
  refine e_lo [0, 1, 2] rfl ?_
  exact F
set_option maxRecDepth 20000 in
theorem B_132_35 (hT : yLT T) (hR : yLR R) {x1 x2 : Int} (F : ((I 4 5) ≤ x2 → K (some (yi x1)) (N, T, R, I)) ∧ (¬ ((I 4 5) ≤ x2) → (8 ≤ x2 → K (some (yi x1)) (N, T, R, I)) ∧ (¬ (8 ≤ x2) → (x1 = (-1) → yW l zSS D cy zFk z d 132 bc bs K 0 0 35 [(0, yr (some 0)), (1, yi x2), (2, yi (yadd x2 1))] [] (N, T, R, I)) ∧ (¬ (x1 = (-1)) → 0 ≤ x2 ∧ x2 < 8 ∧ (0 ≤ x1 ∧ x1 < 8 ∧ (((I 76 x2.toNat) ≤ (I 76 x1.toNat) → yW l zSS D cy zFk z d 132 bc bs K 0 0 35 [(0, yr (some 0)), (1, yi x1), (2, yi (yadd x2 1))] [] (N, T, R, I)) ∧ (¬ ((I 76 x2.toNat) ≤ (I 76 x1.toNat)) → yW l zSS D cy zFk z d 132 bc bs K 0 0 35 [(0, yr (some 0)), (1, yi x2), (2, yi (yadd x2 1))] [] (N, T, R, I)))))))) :
    yW l zSS D cy zFk z d 132 bc bs K 0 0 35 [(0, yr (some 0)), (1, yi x1), (2, yi x2)] [] (N, T, R, I) := by
  refine e_10 (f_132 (pc := 35) (e := (35, 10, 2, 0, 0, 0, 0, 36)) rfl) rfl ?_
  refine e_12 (f_132 (pc := 36) (e := (36, 12, 0, 0, 0, 0, 0, 37)) rfl) rfl ?_
  refine e_90r zA (f_132 (pc := 37) (e := (37, 90, 10, 1, 3, 19, 1064, 40)) rfl) rfl (hT 0 rfl) rfl rfl (hR 0 1 rfl) ?_
  refine e_90r zA (f_132 (pc := 40) (e := (40, 90, 9, 0, 3, 28, 1067, 43)) rfl) rfl (hT 3 rfl) rfl rfl (hR 3 0 rfl) ?_
  refine e_90 zA (f_132 (pc := 43) (e := (43, 90, 1, 5, 0, 218, 1093, 46)) rfl) rfl (hT 4 rfl) rfl rfl ?_
  refine e_73 (f_132 (pc := 46) (e := (46, 73, 95, 0, 0, 0, 0, 49)) rfl) (fun c1 => ?_) (fun c1 => ?_)
  · replace F := F.1 c1
    refine e_10 (f_132 (pc := 95) (e := (95, 10, 1, 0, 0, 0, 0, 96)) rfl) rfl ?_
    exact e_120 (f_132 (pc := 96) (e := (96, 120, 0, 0, 0, 0, 0, 0)) rfl) F
  · replace F := F.2 c1
    refine e_10 (f_132 (pc := 49) (e := (49, 10, 2, 0, 0, 0, 0, 50)) rfl) rfl ?_
    refine e_1 (f_132 (pc := 50) (e := (50, 1, 8, 0, 0, 0, 0, 52)) rfl) (v := 8) rfl ?_
    refine e_73 (f_132 (pc := 52) (e := (52, 73, 95, 0, 0, 0, 0, 55)) rfl) (fun c2 => ?_) (fun c2 => ?_)
    · replace F := F.1 c2
      refine e_10 (f_132 (pc := 95) (e := (95, 10, 1, 0, 0, 0, 0, 96)) rfl) rfl ?_
      exact e_120 (f_132 (pc := 96) (e := (96, 120, 0, 0, 0, 0, 0, 0)) rfl) F
    · replace F := F.2 c2
      refine e_10 (f_132 (pc := 55) (e := (55, 10, 1, 0, 0, 0, 0, 56)) rfl) rfl ?_
      refine e_0 (f_132 (pc := 56) (e := (56, 0, 4294967295, 0, 0, 0, 0, 57)) rfl) (v := (-1)) rfl ?_
      refine e_70 (f_132 (pc := 57) (e := (57, 70, 87, 0, 0, 0, 0, 60)) rfl) (fun c3 => ?_) (fun c3 => ?_)
      · replace F := F.1 c3
        refine e_10 (f_132 (pc := 87) (e := (87, 10, 2, 0, 0, 0, 0, 88)) rfl) rfl ?_
        refine e_20 (f_132 (pc := 88) (e := (88, 20, 1, 0, 0, 0, 0, 89)) rfl) ?_
        refine e_26 (f_132 (pc := 89) (e := (89, 26, 2, 1, 0, 0, 0, 92)) rfl) (w := 1) rfl rfl ?_
        refine e_80 (f_132 (pc := 92) (e := (92, 80, 35, 0, 0, 0, 0, 95)) rfl) ?_
        refine e_lo [0, 1, 2] rfl ?_
        exact F
      · replace F := F.2 c3
        refine e_12 (f_132 (pc := 60) (e := (60, 12, 0, 0, 0, 0, 0, 61)) rfl) rfl ?_
        refine e_90r zA (f_132 (pc := 61) (e := (61, 90, 10, 3, 3, 35, 1069, 64)) rfl) rfl (hT 0 rfl) rfl rfl (hR 0 3 rfl) ?_
        refine e_90r zA (f_132 (pc := 64) (e := (64, 90, 7, 2, 3, 206, 1094, 67)) rfl) rfl (hT 67 rfl) rfl rfl (hR 67 2 rfl) ?_
        refine e_90r zA (f_132 (pc := 67) (e := (67, 90, 5, 8, 3, 153, 1110, 70)) rfl) rfl (hT 68 rfl) rfl rfl (hR 68 8 rfl) ?_
        refine e_10 (f_132 (pc := 70) (e := (70, 10, 2, 0, 0, 0, 0, 71)) rfl) rfl ?_
        obtain ⟨b4, b5, F⟩ := F
        refine e_110 (f_132 (pc := 71) (e := (71, 110, 0, 0, 0, 0, 0, 72)) rfl) rfl (hT 76 rfl) b4 b5 ?_
        refine e_12 (f_132 (pc := 72) (e := (72, 12, 0, 0, 0, 0, 0, 73)) rfl) rfl ?_
        refine e_90r zA (f_132 (pc := 73) (e := (73, 90, 10, 3, 3, 35, 1069, 76)) rfl) rfl (hT 0 rfl) rfl rfl (hR 0 3 rfl) ?_
        refine e_90r zA (f_132 (pc := 76) (e := (76, 90, 7, 2, 3, 206, 1094, 79)) rfl) rfl (hT 67 rfl) rfl rfl (hR 67 2 rfl) ?_
        refine e_90r zA (f_132 (pc := 79) (e := (79, 90, 5, 8, 3, 153, 1110, 82)) rfl) rfl (hT 68 rfl) rfl rfl (hR 68 8 rfl) ?_
        refine e_10 (f_132 (pc := 82) (e := (82, 10, 1, 0, 0, 0, 0, 83)) rfl) rfl ?_
        obtain ⟨b6, b7, F⟩ := F
        refine e_110 (f_132 (pc := 83) (e := (83, 110, 0, 0, 0, 0, 0, 84)) rfl) rfl (hT 76 rfl) b6 b7 ?_
        refine e_75 (f_132 (pc := 84) (e := (84, 75, 89, 0, 0, 0, 0, 87)) rfl) (fun c8 => ?_) (fun c8 => ?_)
        · replace F := F.1 c8
          refine e_26 (f_132 (pc := 89) (e := (89, 26, 2, 1, 0, 0, 0, 92)) rfl) (w := 1) rfl rfl ?_
          refine e_80 (f_132 (pc := 92) (e := (92, 80, 35, 0, 0, 0, 0, 95)) rfl) ?_
          refine e_lo [0, 1, 2] rfl ?_
          exact F
        · replace F := F.2 c8
          refine e_10 (f_132 (pc := 87) (e := (87, 10, 2, 0, 0, 0, 0, 88)) rfl) rfl ?_
          refine e_20 (f_132 (pc := 88) (e := (88, 20, 1, 0, 0, 0, 0, 89)) rfl) ?_
          refine e_26 (f_132 (pc := 89) (e := (89, 26, 2, 1, 0, 0, 0, 92)) rfl) (w := 1) rfl rfl ?_
          refine e_80 (f_132 (pc := 92) (e := (92, 80, 35, 0, 0, 0, 0, 95)) rfl) ?_
          refine e_lo [0, 1, 2] rfl ?_
          exact F

/-! ChairAlley.lent(II)I -/
set_option maxRecDepth 20000 in
theorem B_133_0 (hT : yLT T) (hR : yLR R) {x1 x2 : Int} (F : yW l zSS D cy zFk z d 127 0 0 (fun r h' => ∃ r2 I1, r = some (yi r2) ∧ h' = (N, T, R, I1) ∧ ((r2 = 0 → K (some (yi (-1001))) (N, T, R, I1)) ∧ (¬ (r2 = 0) → yW l zSS D cy zFk z d 11 0 0 (fun r h' => ∃ r5 I4, r = some (yi r5) ∧ h' = (N, T, R, I4) ∧ ((r5 ≠ 0 → yW l zSS D cy zFk z d 102 0 0 (fun r h' => ∃ I7, r = none ∧ h' = (N, T, R, I7) ∧ (yW l zSS D cy zFk z d 96 0 0 (fun r h' => ∃ I8, r = none ∧ h' = (N, T, R, I8) ∧ (yW l zSS D cy zFk z d 89 0 0 (fun r h' => ∃ I9, r = none ∧ h' = (N, T, R, I9) ∧ (yW l zSS D cy zFk z d 106 0 0 (fun r h' => ∃ r11 I10, r = some (yi r11) ∧ h' = (N, T, R, I10) ∧ (yW l zSS D cy zFk z d 102 0 0 (fun r h' => ∃ I12, r = none ∧ h' = (N, T, R, I12) ∧ (0 ≤ x2 ∧ x2 < 8 ∧ (0 ≤ x1 ∧ x1 < 8 ∧ (∀ I17, I17 = yU I12 71 x1.toNat (ynar 1 (I12 19 x2.toNat)) → (yW l zSS D cy zFk z d 89 0 0 (fun r h' => ∃ I18, r = none ∧ h' = (N, T, R, I18) ∧ (yW l zSS D cy zFk z d 106 0 0 (fun r h' => ∃ r20 I19, r = some (yi r20) ∧ h' = (N, T, R, I19) ∧ (K (some (yi (ysub r11 r20))) (N, T, R, I19))) 0 0 0 [(0, yr (some 67)), (1, yi x1)] [] (N, T, R, I18))) 0 0 0 [(0, yr (some 67)), (1, yi 500)] [] (N, T, R, I17)))))) 0 0 0 [(0, yr (some 67)), (1, yr (some 16))] [] (N, T, R, I10))) 0 0 0 [(0, yr (some 67)), (1, yi x1)] [] (N, T, R, I9))) 0 0 0 [(0, yr (some 67)), (1, yi 500)] [] (N, T, R, I8))) 0 0 0 [(0, yr (some 67))] [] (N, T, R, I7))) 0 0 0 [(0, yr (some 67)), (1, yr (some 16))] [] (N, T, R, I4)) ∧ (¬ (r5 ≠ 0) → K (some (yi (-1001))) (N, T, R, I4)))) 0 0 0 [(0, yr (some 4)), (1, yi x2)] [] (N, T, R, I1)))) 0 0 0 [(0, yr (some 0)), (1, yi x1)] [] (N, T, R, I)) :
    yW l zSS D cy zFk z (d + 1) 133 bc bs K 0 0 0 [(0, yr (some 0)), (1, yi x1), (2, yi x2)] [] (N, T, R, I) := by
  refine e_12 (f_133 (pc := 0) (e := (0, 12, 0, 0, 0, 0, 0, 1)) rfl) rfl ?_
  refine e_10 (f_133 (pc := 1) (e := (1, 10, 1, 0, 0, 0, 0, 2)) rfl) rfl ?_
  refine e_130 (f_133 (pc := 2) (e := (2, 130, 127, 0, 10, 280, 1129, 5)) rfl) zA (as := [yr (some 0), yi x1]) (rest := []) rfl rfl rfl rfl (Nat.le_of_ble_eq_true rfl) (Nat.le_of_ble_eq_true rfl) ⟨_, _, _, rfl, (hT 0 rfl)⟩ (mc := 0) (ms := 0) (Nat.zero_le _) (Nat.zero_le _) ?_
  refine e_K ?_ F
  rintro r h' ⟨r2, I1, rfl, rfl, F⟩
  refine e_60 (f_133 (pc := 5) (e := (5, 60, 22, 0, 0, 0, 0, 8)) rfl) (fun c3 => ?_) (fun c3 => ?_)
  · replace F := F.1 c3
    refine e_2 (f_133 (pc := 22) (e := (22, 2, 4294966295, 0, 0, 0, 0, 25)) rfl) (v := (-1001)) rfl ?_
    exact e_120 (f_133 (pc := 25) (e := (25, 120, 0, 0, 0, 0, 0, 26)) rfl) F
  · replace F := F.2 c3
    refine e_12 (f_133 (pc := 8) (e := (8, 12, 0, 0, 0, 0, 0, 9)) rfl) rfl ?_
    refine e_90r zA (f_133 (pc := 9) (e := (9, 90, 10, 1, 3, 19, 1064, 12)) rfl) rfl (hT 0 rfl) rfl rfl (hR 0 1 rfl) ?_
    refine e_90r zA (f_133 (pc := 12) (e := (12, 90, 9, 0, 3, 28, 1067, 15)) rfl) rfl (hT 3 rfl) rfl rfl (hR 3 0 rfl) ?_
    refine e_10 (f_133 (pc := 15) (e := (15, 10, 2, 0, 0, 0, 0, 16)) rfl) rfl ?_
    refine e_130 (f_133 (pc := 16) (e := (16, 130, 11, 0, 1, 120, 1101, 19)) rfl) zA (as := [yr (some 4), yi x2]) (rest := []) rfl rfl rfl rfl (Nat.le_of_ble_eq_true rfl) (Nat.le_of_ble_eq_true rfl) ⟨_, _, _, rfl, (hT 4 rfl)⟩ (mc := 0) (ms := 0) (Nat.zero_le _) (Nat.zero_le _) ?_
    refine e_K ?_ F
    rintro r h' ⟨r5, I4, rfl, rfl, F⟩
    refine e_61 (f_133 (pc := 19) (e := (19, 61, 26, 0, 0, 0, 0, 22)) rfl) (fun c6 => ?_) (fun c6 => ?_)
    · replace F := F.1 c6
      refine e_12 (f_133 (pc := 26) (e := (26, 12, 0, 0, 0, 0, 0, 27)) rfl) rfl ?_
      refine e_90r zA (f_133 (pc := 27) (e := (27, 90, 10, 3, 3, 35, 1069, 30)) rfl) rfl (hT 0 rfl) rfl rfl (hR 0 3 rfl) ?_
      refine e_12 (f_133 (pc := 30) (e := (30, 12, 0, 0, 0, 0, 0, 31)) rfl) rfl ?_
      refine e_90r zA (f_133 (pc := 31) (e := (31, 90, 10, 1, 3, 19, 1064, 34)) rfl) rfl (hT 0 rfl) rfl rfl (hR 0 1 rfl) ?_
      refine e_90r zA (f_133 (pc := 34) (e := (34, 90, 9, 1, 3, 92, 1084, 37)) rfl) rfl (hT 3 rfl) rfl rfl (hR 3 1 rfl) ?_
      refine e_130 (f_133 (pc := 37) (e := (37, 130, 102, 0, 7, 193, 1122, 40)) rfl) zA (as := [yr (some 67), yr (some 16)]) (rest := []) rfl rfl rfl rfl (Nat.le_of_ble_eq_true rfl) (Nat.le_of_ble_eq_true rfl) ⟨_, _, _, rfl, (hT 67 rfl)⟩ (mc := 0) (ms := 0) (Nat.zero_le _) (Nat.zero_le _) ?_
      refine e_K ?_ F
      rintro r h' ⟨I7, rfl, rfl, F⟩
      refine e_12 (f_133 (pc := 40) (e := (40, 12, 0, 0, 0, 0, 0, 41)) rfl) rfl ?_
      refine e_90r zA (f_133 (pc := 41) (e := (41, 90, 10, 3, 3, 35, 1069, 44)) rfl) rfl (hT 0 rfl) rfl rfl (hR 0 3 rfl) ?_
      refine e_130 (f_133 (pc := 44) (e := (44, 130, 96, 0, 7, 203, 1092, 47)) rfl) zA (as := [yr (some 67)]) (rest := []) rfl rfl rfl rfl (Nat.le_of_ble_eq_true rfl) (Nat.le_of_ble_eq_true rfl) ⟨_, _, _, rfl, (hT 67 rfl)⟩ (mc := 0) (ms := 0) (Nat.zero_le _) (Nat.zero_le _) ?_
      refine e_K ?_ F
      rintro r h' ⟨I8, rfl, rfl, F⟩
      refine e_12 (f_133 (pc := 47) (e := (47, 12, 0, 0, 0, 0, 0, 48)) rfl) rfl ?_
      refine e_90r zA (f_133 (pc := 48) (e := (48, 90, 10, 3, 3, 35, 1069, 51)) rfl) rfl (hT 0 rfl) rfl rfl (hR 0 3 rfl) ?_
      refine e_2 (f_133 (pc := 51) (e := (51, 2, 500, 0, 0, 0, 0, 54)) rfl) (v := 500) rfl ?_
      refine e_130 (f_133 (pc := 54) (e := (54, 130, 89, 0, 7, 258, 1127, 57)) rfl) zA (as := [yr (some 67), yi 500]) (rest := []) rfl rfl rfl rfl (Nat.le_of_ble_eq_true rfl) (Nat.le_of_ble_eq_true rfl) ⟨_, _, _, rfl, (hT 67 rfl)⟩ (mc := 0) (ms := 0) (Nat.zero_le _) (Nat.zero_le _) ?_
      refine e_K ?_ F
      rintro r h' ⟨I9, rfl, rfl, F⟩
      refine e_12 (f_133 (pc := 57) (e := (57, 12, 0, 0, 0, 0, 0, 58)) rfl) rfl ?_
      refine e_90r zA (f_133 (pc := 58) (e := (58, 90, 10, 3, 3, 35, 1069, 61)) rfl) rfl (hT 0 rfl) rfl rfl (hR 0 3 rfl) ?_
      refine e_10 (f_133 (pc := 61) (e := (61, 10, 1, 0, 0, 0, 0, 62)) rfl) rfl ?_
      refine e_130 (f_133 (pc := 62) (e := (62, 130, 106, 0, 7, 283, 1130, 65)) rfl) zA (as := [yr (some 67), yi x1]) (rest := []) rfl rfl rfl rfl (Nat.le_of_ble_eq_true rfl) (Nat.le_of_ble_eq_true rfl) ⟨_, _, _, rfl, (hT 67 rfl)⟩ (mc := 0) (ms := 0) (Nat.zero_le _) (Nat.zero_le _) ?_
      refine e_K ?_ F
      rintro r h' ⟨r11, I10, rfl, rfl, F⟩
      refine e_20 (f_133 (pc := 65) (e := (65, 20, 3, 0, 0, 0, 0, 66)) rfl) ?_
      refine e_12 (f_133 (pc := 66) (e := (66, 12, 0, 0, 0, 0, 0, 67)) rfl) rfl ?_
      refine e_90r zA (f_133 (pc := 67) (e := (67, 90, 10, 3, 3, 35, 1069, 70)) rfl) rfl (hT 0 rfl) rfl rfl (hR 0 3 rfl) ?_
      refine e_12 (f_133 (pc := 70) (e := (70, 12, 0, 0, 0, 0, 0, 71)) rfl) rfl ?_
      refine e_90r zA (f_133 (pc := 71) (e := (71, 90, 10, 1, 3, 19, 1064, 74)) rfl) rfl (hT 0 rfl) rfl rfl (hR 0 1 rfl) ?_
      refine e_90r zA (f_133 (pc := 74) (e := (74, 90, 9, 1, 3, 92, 1084, 77)) rfl) rfl (hT 3 rfl) rfl rfl (hR 3 1 rfl) ?_
      refine e_130 (f_133 (pc := 77) (e := (77, 130, 102, 0, 7, 193, 1122, 80)) rfl) zA (as := [yr (some 67), yr (some 16)]) (rest := []) rfl rfl rfl rfl (Nat.le_of_ble_eq_true rfl) (Nat.le_of_ble_eq_true rfl) ⟨_, _, _, rfl, (hT 67 rfl)⟩ (mc := 0) (ms := 0) (Nat.zero_le _) (Nat.zero_le _) ?_
      refine e_K ?_ F
      rintro r h' ⟨I12, rfl, rfl, F⟩
      refine e_12 (f_133 (pc := 80) (e := (80, 12, 0, 0, 0, 0, 0, 81)) rfl) rfl ?_
      refine e_90r zA (f_133 (pc := 81) (e := (81, 90, 10, 3, 3, 35, 1069, 84)) rfl) rfl (hT 0 rfl) rfl rfl (hR 0 3 rfl) ?_
      refine e_90r zA (f_133 (pc := 84) (e := (84, 90, 7, 2, 3, 206, 1094, 87)) rfl) rfl (hT 67 rfl) rfl rfl (hR 67 2 rfl) ?_
      refine e_90r zA (f_133 (pc := 87) (e := (87, 90, 5, 3, 3, 131, 1103, 90)) rfl) rfl (hT 68 rfl) rfl rfl (hR 68 3 rfl) ?_
      refine e_10 (f_133 (pc := 90) (e := (90, 10, 1, 0, 0, 0, 0, 91)) rfl) rfl ?_
      refine e_12 (f_133 (pc := 91) (e := (91, 12, 0, 0, 0, 0, 0, 92)) rfl) rfl ?_
      refine e_90r zA (f_133 (pc := 92) (e := (92, 90, 10, 1, 3, 19, 1064, 95)) rfl) rfl (hT 0 rfl) rfl rfl (hR 0 1 rfl) ?_
      refine e_90r zA (f_133 (pc := 95) (e := (95, 90, 9, 1, 3, 92, 1084, 98)) rfl) rfl (hT 3 rfl) rfl rfl (hR 3 1 rfl) ?_
      refine e_90r zA (f_133 (pc := 98) (e := (98, 90, 5, 3, 3, 131, 1103, 101)) rfl) rfl (hT 16 rfl) rfl rfl (hR 16 3 rfl) ?_
      refine e_10 (f_133 (pc := 101) (e := (101, 10, 2, 0, 0, 0, 0, 102)) rfl) rfl ?_
      obtain ⟨b13, b14, F⟩ := F
      refine e_110 (f_133 (pc := 102) (e := (102, 110, 0, 0, 0, 0, 0, 103)) rfl) rfl (hT 19 rfl) b13 b14 ?_
      obtain ⟨b15, b16, F⟩ := F
      refine e_111 (f_133 (pc := 103) (e := (103, 111, 0, 0, 0, 0, 0, 104)) rfl) rfl (hT 71 rfl) b15 b16 ?_
      replace F := F _ rfl
      refine e_12 (f_133 (pc := 104) (e := (104, 12, 0, 0, 0, 0, 0, 105)) rfl) rfl ?_
      refine e_90r zA (f_133 (pc := 105) (e := (105, 90, 10, 3, 3, 35, 1069, 108)) rfl) rfl (hT 0 rfl) rfl rfl (hR 0 3 rfl) ?_
      refine e_2 (f_133 (pc := 108) (e := (108, 2, 500, 0, 0, 0, 0, 111)) rfl) (v := 500) rfl ?_
      refine e_130 (f_133 (pc := 111) (e := (111, 130, 89, 0, 7, 258, 1127, 114)) rfl) zA (as := [yr (some 67), yi 500]) (rest := []) rfl rfl rfl rfl (Nat.le_of_ble_eq_true rfl) (Nat.le_of_ble_eq_true rfl) ⟨_, _, _, rfl, (hT 67 rfl)⟩ (mc := 0) (ms := 0) (Nat.zero_le _) (Nat.zero_le _) ?_
      refine e_K ?_ F
      rintro r h' ⟨I18, rfl, rfl, F⟩
      refine e_10 (f_133 (pc := 114) (e := (114, 10, 3, 0, 0, 0, 0, 115)) rfl) rfl ?_
      refine e_12 (f_133 (pc := 115) (e := (115, 12, 0, 0, 0, 0, 0, 116)) rfl) rfl ?_
      refine e_90r zA (f_133 (pc := 116) (e := (116, 90, 10, 3, 3, 35, 1069, 119)) rfl) rfl (hT 0 rfl) rfl rfl (hR 0 3 rfl) ?_
      refine e_10 (f_133 (pc := 119) (e := (119, 10, 1, 0, 0, 0, 0, 120)) rfl) rfl ?_
      refine e_130 (f_133 (pc := 120) (e := (120, 130, 106, 0, 7, 283, 1130, 123)) rfl) zA (as := [yr (some 67), yi x1]) (rest := [yi r11]) rfl rfl rfl rfl (Nat.le_of_ble_eq_true rfl) (Nat.le_of_ble_eq_true rfl) ⟨_, _, _, rfl, (hT 67 rfl)⟩ (mc := 0) (ms := 0) (Nat.zero_le _) (Nat.zero_le _) ?_
      refine e_K ?_ F
      rintro r h' ⟨r20, I19, rfl, rfl, F⟩
      refine e_31 (f_133 (pc := 123) (e := (123, 31, 0, 0, 0, 0, 0, 124)) rfl) ?_
      exact e_120 (f_133 (pc := 124) (e := (124, 120, 0, 0, 0, 0, 0, 0)) rfl) F
    · replace F := F.2 c6
      refine e_2 (f_133 (pc := 22) (e := (22, 2, 4294966295, 0, 0, 0, 0, 25)) rfl) (v := (-1001)) rfl ?_
      exact e_120 (f_133 (pc := 25) (e := (25, 120, 0, 0, 0, 0, 0, 26)) rfl) F

/-! ChairAlley.liveWhatWasTried()V -/
set_option maxRecDepth 20000 in
theorem B_134_0 (hT : yLT T) (hR : yLR R) (F : yW l zSS D cy zFk z d 2 0 0 (fun r h' => ∃ I1, r = none ∧ h' = (N, T, R, I1) ∧ (yW l zSS D cy zFk z d 62 0 0 (fun r h' => ∃ I2, r = none ∧ h' = (N, T, R, I2) ∧ (K none (N, T, R, I2))) 0 0 0 [(0, yr (some 16)), (1, yr (some 68))] [] (N, T, R, I1))) 0 0 0 [(0, yr (some 89)), (1, yr (some 16))] [] (N, T, R, I)) :
    yW l zSS D cy zFk z (d + 1) 134 bc bs K 0 0 0 [(0, yr (some 0))] [] (N, T, R, I) := by
  refine e_12 (f_134 (pc := 0) (e := (0, 12, 0, 0, 0, 0, 0, 1)) rfl) rfl ?_
  refine e_90r zA (f_134 (pc := 1) (e := (1, 90, 10, 4, 3, 42, 1071, 4)) rfl) rfl (hT 0 rfl) rfl rfl (hR 0 4 rfl) ?_
  refine e_12 (f_134 (pc := 4) (e := (4, 12, 0, 0, 0, 0, 0, 5)) rfl) rfl ?_
  refine e_90r zA (f_134 (pc := 5) (e := (5, 90, 10, 1, 3, 19, 1064, 8)) rfl) rfl (hT 0 rfl) rfl rfl (hR 0 1 rfl) ?_
  refine e_90r zA (f_134 (pc := 8) (e := (8, 90, 9, 1, 3, 92, 1084, 11)) rfl) rfl (hT 3 rfl) rfl rfl (hR 3 1 rfl) ?_
  refine e_130 (f_134 (pc := 11) (e := (11, 130, 2, 0, 0, 241, 1116, 14)) rfl) zA (as := [yr (some 89), yr (some 16)]) (rest := []) rfl rfl rfl rfl (Nat.le_of_ble_eq_true rfl) (Nat.le_of_ble_eq_true rfl) ⟨_, _, _, rfl, (hT 89 rfl)⟩ (mc := 0) (ms := 0) (Nat.zero_le _) (Nat.zero_le _) ?_
  refine e_K ?_ F
  rintro r h' ⟨I1, rfl, rfl, F⟩
  refine e_12 (f_134 (pc := 14) (e := (14, 12, 0, 0, 0, 0, 0, 15)) rfl) rfl ?_
  refine e_90r zA (f_134 (pc := 15) (e := (15, 90, 10, 1, 3, 19, 1064, 18)) rfl) rfl (hT 0 rfl) rfl rfl (hR 0 1 rfl) ?_
  refine e_90r zA (f_134 (pc := 18) (e := (18, 90, 9, 1, 3, 92, 1084, 21)) rfl) rfl (hT 3 rfl) rfl rfl (hR 3 1 rfl) ?_
  refine e_12 (f_134 (pc := 21) (e := (21, 12, 0, 0, 0, 0, 0, 22)) rfl) rfl ?_
  refine e_90r zA (f_134 (pc := 22) (e := (22, 90, 10, 3, 3, 35, 1069, 25)) rfl) rfl (hT 0 rfl) rfl rfl (hR 0 3 rfl) ?_
  refine e_90r zA (f_134 (pc := 25) (e := (25, 90, 7, 2, 3, 206, 1094, 28)) rfl) rfl (hT 67 rfl) rfl rfl (hR 67 2 rfl) ?_
  refine e_130 (f_134 (pc := 28) (e := (28, 130, 62, 0, 5, 330, 1131, 31)) rfl) zA (as := [yr (some 16), yr (some 68)]) (rest := []) rfl rfl rfl rfl (Nat.le_of_ble_eq_true rfl) (Nat.le_of_ble_eq_true rfl) ⟨_, _, _, rfl, (hT 16 rfl)⟩ (mc := 0) (ms := 0) (Nat.zero_le _) (Nat.zero_le _) ?_
  refine e_K ?_ F
  rintro r h' ⟨I2, rfl, rfl, F⟩
  exact e_122 (f_134 (pc := 31) (e := (31, 122, 0, 0, 0, 0, 0, 0)) rfl) F

/-! ChairAlley.mayBecomeLane(I)Z -/
set_option maxRecDepth 20000 in
theorem B_135_0 (hT : yLT T) (hR : yLR R) {x1 : Int} (F : yW l zSS D cy zFk z d 10 0 0 (fun r h' => ∃ r2 I1, r = some (yi r2) ∧ h' = (N, T, R, I1) ∧ ((r2 = 0 → K (some (yi 0)) (N, T, R, I1)) ∧ (¬ (r2 = 0) → yW l zSS D cy zFk z d 12 0 0 (fun r h' => ∃ r5 I4, r = some (yi r5) ∧ h' = (N, T, R, I4) ∧ ((r5 ≠ 0 → K (some (yi 0)) (N, T, R, I4)) ∧ (¬ (r5 ≠ 0) → 0 ≤ x1 ∧ x1 < 100 ∧ (((I4 17 x1.toNat) ≠ (-1) → K (some (yi 0)) (N, T, R, I4)) ∧ (¬ ((I4 17 x1.toNat) ≠ (-1)) → K (some (yi 1)) (N, T, R, I4)))))) 0 0 0 [(0, yr (some 4)), (1, yi x1), (2, yi 1)] [] (N, T, R, I1)))) 0 0 0 [(0, yr (some 4)), (1, yi x1)] [] (N, T, R, I)) :
    yW l zSS D cy zFk z (d + 1) 135 bc bs K 0 0 0 [(0, yr (some 0)), (1, yi x1)] [] (N, T, R, I) := by
  refine e_12 (f_135 (pc := 0) (e := (0, 12, 0, 0, 0, 0, 0, 1)) rfl) rfl ?_
  refine e_90r zA (f_135 (pc := 1) (e := (1, 90, 10, 1, 3, 19, 1064, 4)) rfl) rfl (hT 0 rfl) rfl rfl (hR 0 1 rfl) ?_
  refine e_90r zA (f_135 (pc := 4) (e := (4, 90, 9, 0, 3, 28, 1067, 7)) rfl) rfl (hT 3 rfl) rfl rfl (hR 3 0 rfl) ?_
  refine e_10 (f_135 (pc := 7) (e := (7, 10, 1, 0, 0, 0, 0, 8)) rfl) rfl ?_
  refine e_130 (f_135 (pc := 8) (e := (8, 130, 10, 0, 1, 159, 1097, 11)) rfl) zA (as := [yr (some 4), yi x1]) (rest := []) rfl rfl rfl rfl (Nat.le_of_ble_eq_true rfl) (Nat.le_of_ble_eq_true rfl) ⟨_, _, _, rfl, (hT 4 rfl)⟩ (mc := 0) (ms := 0) (Nat.zero_le _) (Nat.zero_le _) ?_
  refine e_K ?_ F
  rintro r h' ⟨r2, I1, rfl, rfl, F⟩
  refine e_60 (f_135 (pc := 11) (e := (11, 60, 49, 0, 0, 0, 0, 14)) rfl) (fun c3 => ?_) (fun c3 => ?_)
  · replace F := F.1 c3
    refine e_0 (f_135 (pc := 49) (e := (49, 0, 0, 0, 0, 0, 0, 50)) rfl) (v := 0) rfl ?_
    exact e_121 (f_135 (pc := 50) (e := (50, 121, 0, 0, 0, 0, 0, 0)) rfl) (.inl rfl) F
  · replace F := F.2 c3
    refine e_12 (f_135 (pc := 14) (e := (14, 12, 0, 0, 0, 0, 0, 15)) rfl) rfl ?_
    refine e_90r zA (f_135 (pc := 15) (e := (15, 90, 10, 1, 3, 19, 1064, 18)) rfl) rfl (hT 0 rfl) rfl rfl (hR 0 1 rfl) ?_
    refine e_90r zA (f_135 (pc := 18) (e := (18, 90, 9, 0, 3, 28, 1067, 21)) rfl) rfl (hT 3 rfl) rfl rfl (hR 3 0 rfl) ?_
    refine e_10 (f_135 (pc := 21) (e := (21, 10, 1, 0, 0, 0, 0, 22)) rfl) rfl ?_
    refine e_0 (f_135 (pc := 22) (e := (22, 0, 1, 0, 0, 0, 0, 23)) rfl) (v := 1) rfl ?_
    refine e_130 (f_135 (pc := 23) (e := (23, 130, 12, 0, 1, 162, 1098, 26)) rfl) zA (as := [yr (some 4), yi x1, yi 1]) (rest := []) rfl rfl rfl rfl (Nat.le_of_ble_eq_true rfl) (Nat.le_of_ble_eq_true rfl) ⟨_, _, _, rfl, (hT 4 rfl)⟩ (mc := 0) (ms := 0) (Nat.zero_le _) (Nat.zero_le _) ?_
    refine e_K ?_ F
    rintro r h' ⟨r5, I4, rfl, rfl, F⟩
    refine e_61 (f_135 (pc := 26) (e := (26, 61, 49, 0, 0, 0, 0, 29)) rfl) (fun c6 => ?_) (fun c6 => ?_)
    · replace F := F.1 c6
      refine e_0 (f_135 (pc := 49) (e := (49, 0, 0, 0, 0, 0, 0, 50)) rfl) (v := 0) rfl ?_
      exact e_121 (f_135 (pc := 50) (e := (50, 121, 0, 0, 0, 0, 0, 0)) rfl) (.inl rfl) F
    · replace F := F.2 c6
      refine e_12 (f_135 (pc := 29) (e := (29, 12, 0, 0, 0, 0, 0, 30)) rfl) rfl ?_
      refine e_90r zA (f_135 (pc := 30) (e := (30, 90, 10, 1, 3, 19, 1064, 33)) rfl) rfl (hT 0 rfl) rfl rfl (hR 0 1 rfl) ?_
      refine e_90r zA (f_135 (pc := 33) (e := (33, 90, 9, 1, 3, 92, 1084, 36)) rfl) rfl (hT 3 rfl) rfl rfl (hR 3 1 rfl) ?_
      refine e_90r zA (f_135 (pc := 36) (e := (36, 90, 5, 1, 3, 166, 1099, 39)) rfl) rfl (hT 16 rfl) rfl rfl (hR 16 1 rfl) ?_
      refine e_10 (f_135 (pc := 39) (e := (39, 10, 1, 0, 0, 0, 0, 40)) rfl) rfl ?_
      obtain ⟨b7, b8, F⟩ := F
      refine e_110 (f_135 (pc := 40) (e := (40, 110, 0, 0, 0, 0, 0, 41)) rfl) rfl (hT 17 rfl) b7 b8 ?_
      refine e_0 (f_135 (pc := 41) (e := (41, 0, 4294967295, 0, 0, 0, 0, 42)) rfl) (v := (-1)) rfl ?_
      refine e_71 (f_135 (pc := 42) (e := (42, 71, 49, 0, 0, 0, 0, 45)) rfl) (fun c9 => ?_) (fun c9 => ?_)
      · replace F := F.1 c9
        refine e_0 (f_135 (pc := 49) (e := (49, 0, 0, 0, 0, 0, 0, 50)) rfl) (v := 0) rfl ?_
        exact e_121 (f_135 (pc := 50) (e := (50, 121, 0, 0, 0, 0, 0, 0)) rfl) (.inl rfl) F
      · replace F := F.2 c9
        refine e_0 (f_135 (pc := 45) (e := (45, 0, 1, 0, 0, 0, 0, 46)) rfl) (v := 1) rfl ?_
        refine e_80 (f_135 (pc := 46) (e := (46, 80, 50, 0, 0, 0, 0, 49)) rfl) ?_
        exact e_121 (f_135 (pc := 50) (e := (50, 121, 0, 0, 0, 0, 0, 0)) rfl) (.inr rfl) F
end Sy
