/-! THE FRESH PAIR: constructors, printed by wip/whole/y/gen100.py -/
section Sy
variable {l : Launch} {D : va_G} {cy : Nat → ClassId} {z d bc bs N : Nat} {T : Nat → Nat × Nat} {R : Nat → Nat → Option Nat} {I : Nat → Nat → Int} {K : yKo}
set_option maxRecDepth 20000 in
theorem B_7_0n {p : Nat} (hp : yAtLand T R p) (F : ∀ I1, I1 = yU I p 0 0 → (∀ I2, I2 = yU I1 p 1 0 → (∀ I3, I3 = yU I2 p 5 0 → (∀ I4, I4 = yU I3 p 14 0 → (yW l zSS D cy zFk z d 7 bc bs K 0 0 22 [(0, yr (some p)), (1, yi 0)] [] (N, T, R, I4)))))) :
    yW l zSS D cy zFk z d 7 bc bs K 0 0 0 [(0, yr (some p))] [] (N, T, R, I) := by
  refine e_12 (f_7 (pc := 0) (e := (0, 12, 0, 0, 0, 0, 0, 1)) rfl) rfl ?_
  refine e_0 (f_7 (pc := 1) (e := (1, 0, 0, 0, 0, 0, 0, 2)) rfl) (v := 0) rfl ?_
  refine e_91 zA (f_7 (pc := 2) (e := (2, 91, 1, 0, 0, 47, 809, 5)) rfl) rfl (hp.1 0 rfl) rfl rfl trivial ?_
  replace F := F _ rfl
  refine e_12 (f_7 (pc := 5) (e := (5, 12, 0, 0, 0, 0, 0, 6)) rfl) rfl ?_
  refine e_0 (f_7 (pc := 6) (e := (6, 0, 0, 0, 0, 0, 0, 7)) rfl) (v := 0) rfl ?_
  refine e_91 zA (f_7 (pc := 7) (e := (7, 91, 1, 1, 0, 51, 810, 10)) rfl) rfl (hp.1 0 rfl) rfl rfl trivial ?_
  replace F := F _ rfl
  refine e_12 (f_7 (pc := 10) (e := (10, 12, 0, 0, 0, 0, 0, 11)) rfl) rfl ?_
  refine e_0 (f_7 (pc := 11) (e := (11, 0, 0, 0, 0, 0, 0, 12)) rfl) (v := 0) rfl ?_
  refine e_91 zA (f_7 (pc := 12) (e := (12, 91, 1, 5, 0, 54, 811, 15)) rfl) rfl (hp.1 0 rfl) rfl rfl trivial ?_
  replace F := F _ rfl
  refine e_12 (f_7 (pc := 15) (e := (15, 12, 0, 0, 0, 0, 0, 16)) rfl) rfl ?_
  refine e_0 (f_7 (pc := 16) (e := (16, 0, 0, 0, 0, 0, 0, 17)) rfl) (v := 0) rfl ?_
  refine e_91 zA (f_7 (pc := 17) (e := (17, 91, 1, 14, 0, 57, 812, 20)) rfl) rfl (hp.1 0 rfl) rfl rfl trivial ?_
  replace F := F _ rfl
  refine e_0 (f_7 (pc := 20) (e := (20, 0, 0, 0, 0, 0, 0, 21)) rfl) (v := 0) rfl ?_
  refine e_20 (f_7 (pc := 21) (e := (21, 20, 1, 0, 0, 0, 0, 22)) rfl) ?_
  refine e_lo [0, 1] rfl ?_
  exact F
set_option maxRecDepth 20000 in
theorem B_7_22n {p : Nat} (hp : yAtLand T R p) {x1 : Int} (F : (100 ≤ x1 → yW l zSS D cy zFk z d 7 bc bs K 0 0 50 [(0, yr (some p)), (1, yi 0)] [] (N, T, R, I)) ∧ (¬ (100 ≤ x1) → 0 ≤ x1 ∧ x1 < 100 ∧ (∀ I4, I4 = yU I (p + 1) x1.toNat (ynar 1 0) → (0 ≤ x1 ∧ x1 < 100 ∧ (∀ I7, I7 = yU I4 (p + 2) x1.toNat (ynar 1 (-1)) → (yW l zSS D cy zFk z d 7 bc bs K 0 0 22 [(0, yr (some p)), (1, yi (yadd x1 1))] [] (N, T, R, I7))))))) :
    yW l zSS D cy zFk z d 7 bc bs K 0 0 22 [(0, yr (some p)), (1, yi x1)] [] (N, T, R, I) := by
  refine e_10 (f_7 (pc := 22) (e := (22, 10, 1, 0, 0, 0, 0, 23)) rfl) rfl ?_
  refine e_1 (f_7 (pc := 23) (e := (23, 1, 100, 0, 0, 0, 0, 25)) rfl) (v := 100) rfl ?_
  refine e_73 (f_7 (pc := 25) (e := (25, 73, 48, 0, 0, 0, 0, 28)) rfl) (fun c1 => ?_) (fun c1 => ?_)
  · replace F := F.1 c1
    refine e_0 (f_7 (pc := 48) (e := (48, 0, 0, 0, 0, 0, 0, 49)) rfl) (v := 0) rfl ?_
    refine e_20 (f_7 (pc := 49) (e := (49, 20, 1, 0, 0, 0, 0, 50)) rfl) ?_
    refine e_lo [0, 1] rfl ?_
    exact F
  · replace F := F.2 c1
    refine e_12 (f_7 (pc := 28) (e := (28, 12, 0, 0, 0, 0, 0, 29)) rfl) rfl ?_
    refine e_90r zA (f_7 (pc := 29) (e := (29, 90, 1, 2, 3, 9, 798, 32)) rfl) rfl (hp.1 0 rfl) rfl rfl (hp.2 2 rfl) ?_
    refine e_10 (f_7 (pc := 32) (e := (32, 10, 1, 0, 0, 0, 0, 33)) rfl) rfl ?_
    refine e_0 (f_7 (pc := 33) (e := (33, 0, 0, 0, 0, 0, 0, 34)) rfl) (v := 0) rfl ?_
    obtain ⟨b2, b3, F⟩ := F
    refine e_111 (f_7 (pc := 34) (e := (34, 111, 0, 0, 0, 0, 0, 35)) rfl) rfl (hp.1 1 rfl) b2 b3 ?_
    replace F := F _ rfl
    refine e_12 (f_7 (pc := 35) (e := (35, 12, 0, 0, 0, 0, 0, 36)) rfl) rfl ?_
    refine e_90r zA (f_7 (pc := 36) (e := (36, 90, 1, 3, 3, 15, 799, 39)) rfl) rfl (hp.1 0 rfl) rfl rfl (hp.2 3 rfl) ?_
    refine e_10 (f_7 (pc := 39) (e := (39, 10, 1, 0, 0, 0, 0, 40)) rfl) rfl ?_
    refine e_0 (f_7 (pc := 40) (e := (40, 0, 4294967295, 0, 0, 0, 0, 41)) rfl) (v := (-1)) rfl ?_
    obtain ⟨b5, b6, F⟩ := F
    refine e_111 (f_7 (pc := 41) (e := (41, 111, 0, 0, 0, 0, 0, 42)) rfl) rfl (hp.1 2 rfl) b5 b6 ?_
    replace F := F _ rfl
    refine e_26 (f_7 (pc := 42) (e := (42, 26, 1, 1, 0, 0, 0, 45)) rfl) (w := 1) rfl rfl ?_
    refine e_80 (f_7 (pc := 45) (e := (45, 80, 22, 0, 0, 0, 0, 48)) rfl) ?_
    refine e_lo [0, 1] rfl ?_
    exact F
set_option maxRecDepth 20000 in
theorem B_7_50n {p : Nat} (hp : yAtLand T R p) {x1 : Int} (F : (5 ≤ x1 → yW l zSS D cy zFk z d 7 bc bs K 0 0 74 [(0, yr (some p)), (1, yi 0)] [] (N, T, R, I)) ∧ (¬ (5 ≤ x1) → 0 ≤ x1 ∧ x1 < 5 ∧ (∀ I4, I4 = yU I (p + 3) x1.toNat (ynar 1 0) → (yW l zSS D cy zFk z d 7 bc bs K 0 0 50 [(0, yr (some p)), (1, yi (yadd x1 1))] [] (N, T, R, I4))))) :
    yW l zSS D cy zFk z d 7 bc bs K 0 0 50 [(0, yr (some p)), (1, yi x1)] [] (N, T, R, I) := by
  refine e_10 (f_7 (pc := 50) (e := (50, 10, 1, 0, 0, 0, 0, 51)) rfl) rfl ?_
  refine e_12 (f_7 (pc := 51) (e := (51, 12, 0, 0, 0, 0, 0, 52)) rfl) rfl ?_
  refine e_90r zA (f_7 (pc := 52) (e := (52, 90, 1, 4, 3, 18, 800, 55)) rfl) rfl (hp.1 0 rfl) rfl rfl (hp.2 4 rfl) ?_
  refine e_103 (f_7 (pc := 55) (e := (55, 103, 0, 0, 0, 0, 0, 56)) rfl) rfl (hp.1 3 rfl) (by decide) (by decide) ?_
  refine e_73 (f_7 (pc := 56) (e := (56, 73, 72, 0, 0, 0, 0, 59)) rfl) (fun c1 => ?_) (fun c1 => ?_)
  · replace F := F.1 c1
    refine e_0 (f_7 (pc := 72) (e := (72, 0, 0, 0, 0, 0, 0, 73)) rfl) (v := 0) rfl ?_
    refine e_20 (f_7 (pc := 73) (e := (73, 20, 1, 0, 0, 0, 0, 74)) rfl) ?_
    refine e_lo [0, 1] rfl ?_
    exact F
  · replace F := F.2 c1
    refine e_12 (f_7 (pc := 59) (e := (59, 12, 0, 0, 0, 0, 0, 60)) rfl) rfl ?_
    refine e_90r zA (f_7 (pc := 60) (e := (60, 90, 1, 4, 3, 18, 800, 63)) rfl) rfl (hp.1 0 rfl) rfl rfl (hp.2 4 rfl) ?_
    refine e_10 (f_7 (pc := 63) (e := (63, 10, 1, 0, 0, 0, 0, 64)) rfl) rfl ?_
    refine e_0 (f_7 (pc := 64) (e := (64, 0, 0, 0, 0, 0, 0, 65)) rfl) (v := 0) rfl ?_
    obtain ⟨b2, b3, F⟩ := F
    refine e_111 (f_7 (pc := 65) (e := (65, 111, 0, 0, 0, 0, 0, 66)) rfl) rfl (hp.1 3 rfl) b2 b3 ?_
    replace F := F _ rfl
    refine e_26 (f_7 (pc := 66) (e := (66, 26, 1, 1, 0, 0, 0, 69)) rfl) (w := 1) rfl rfl ?_
    refine e_80 (f_7 (pc := 69) (e := (69, 80, 50, 0, 0, 0, 0, 72)) rfl) ?_
    refine e_lo [0, 1] rfl ?_
    exact F
set_option maxRecDepth 20000 in
theorem B_7_74n {p : Nat} (hp : yAtLand T R p) {x1 : Int} (F : (8 ≤ x1 → K none (N, T, R, I)) ∧ (¬ (8 ≤ x1) → 0 ≤ x1 ∧ x1 < 8 ∧ (∀ I4, I4 = yU I (p + 9) x1.toNat (ynar 1 (-1)) → (0 ≤ x1 ∧ x1 < 8 ∧ (∀ I7, I7 = yU I4 (p + 10) x1.toNat (ynar 3 0) → (yW l zSS D cy zFk z d 7 bc bs K 0 0 74 [(0, yr (some p)), (1, yi (yadd x1 1))] [] (N, T, R, I7))))))) :
    yW l zSS D cy zFk z d 7 bc bs K 0 0 74 [(0, yr (some p)), (1, yi x1)] [] (N, T, R, I) := by
  refine e_10 (f_7 (pc := 74) (e := (74, 10, 1, 0, 0, 0, 0, 75)) rfl) rfl ?_
  refine e_1 (f_7 (pc := 75) (e := (75, 1, 8, 0, 0, 0, 0, 77)) rfl) (v := 8) rfl ?_
  refine e_73 (f_7 (pc := 77) (e := (77, 73, 100, 0, 0, 0, 0, 80)) rfl) (fun c1 => ?_) (fun c1 => ?_)
  · replace F := F.1 c1
    exact e_122 (f_7 (pc := 100) (e := (100, 122, 0, 0, 0, 0, 0, 0)) rfl) F
  · replace F := F.2 c1
    refine e_12 (f_7 (pc := 80) (e := (80, 12, 0, 0, 0, 0, 0, 81)) rfl) rfl ?_
    refine e_90r zA (f_7 (pc := 81) (e := (81, 90, 1, 11, 3, 37, 806, 84)) rfl) rfl (hp.1 0 rfl) rfl rfl (hp.2 11 rfl) ?_
    refine e_10 (f_7 (pc := 84) (e := (84, 10, 1, 0, 0, 0, 0, 85)) rfl) rfl ?_
    refine e_0 (f_7 (pc := 85) (e := (85, 0, 4294967295, 0, 0, 0, 0, 86)) rfl) (v := (-1)) rfl ?_
    obtain ⟨b2, b3, F⟩ := F
    refine e_111 (f_7 (pc := 86) (e := (86, 111, 0, 0, 0, 0, 0, 87)) rfl) rfl (hp.1 9 rfl) b2 b3 ?_
    replace F := F _ rfl
    refine e_12 (f_7 (pc := 87) (e := (87, 12, 0, 0, 0, 0, 0, 88)) rfl) rfl ?_
    refine e_90r zA (f_7 (pc := 88) (e := (88, 90, 1, 12, 3, 40, 807, 91)) rfl) rfl (hp.1 0 rfl) rfl rfl (hp.2 12 rfl) ?_
    refine e_10 (f_7 (pc := 91) (e := (91, 10, 1, 0, 0, 0, 0, 92)) rfl) rfl ?_
    refine e_0 (f_7 (pc := 92) (e := (92, 0, 0, 0, 0, 0, 0, 93)) rfl) (v := 0) rfl ?_
    obtain ⟨b5, b6, F⟩ := F
    refine e_113 (f_7 (pc := 93) (e := (93, 113, 0, 0, 0, 0, 0, 94)) rfl) rfl (hp.1 10 rfl) b5 b6 (.inr rfl) ?_
    replace F := F _ rfl
    refine e_26 (f_7 (pc := 94) (e := (94, 26, 1, 1, 0, 0, 0, 97)) rfl) (w := 1) rfl rfl ?_
    refine e_80 (f_7 (pc := 97) (e := (97, 80, 74, 0, 0, 0, 0, 100)) rfl) ?_
    refine e_lo [0, 1] rfl ?_
    exact F

set_option maxRecDepth 20000 in
theorem B_57_0n {p : Nat} (hp : yAtState T R p) {q : Nat} (hq : yAtLand T R q) (F : ∀ I1, I1 = yC I (q + 2) (p + 1) 100 → (yW l zSS D cy zFk z (d + 1) 57 bc bs K 0 0 17 [(0, yr (some p)), (1, yr (some q)), (2, yi 0)] [] (N, T, R, I1))) :
    yW l zSS D cy zFk z (d + 1) 57 bc bs K 0 0 0 [(0, yr (some p)), (1, yr (some q))] [] (N, T, R, I) := by
  refine e_12 (f_57 (pc := 0) (e := (0, 12, 1, 0, 0, 0, 0, 1)) rfl) rfl ?_
  refine e_90r zA (f_57 (pc := 1) (e := (1, 90, 1, 3, 3, 48, 923, 4)) rfl) rfl (hq.1 0 rfl) rfl rfl (hq.2 3 rfl) ?_
  refine e_0 (f_57 (pc := 4) (e := (4, 0, 0, 0, 0, 0, 0, 5)) rfl) (v := 0) rfl ?_
  refine e_12 (f_57 (pc := 5) (e := (5, 12, 0, 0, 0, 0, 0, 6)) rfl) rfl ?_
  refine e_90r zA (f_57 (pc := 6) (e := (6, 90, 5, 1, 3, 9, 909, 9)) rfl) rfl (hp.1 0 rfl) rfl rfl (hp.2 1 rfl) ?_
  refine e_0 (f_57 (pc := 9) (e := (9, 0, 0, 0, 0, 0, 0, 10)) rfl) (v := 0) rfl ?_
  refine e_1 (f_57 (pc := 10) (e := (10, 1, 100, 0, 0, 0, 0, 12)) rfl) (v := 100) rfl ?_
  refine e_135 (f_57 (pc := 12) (e := (12, 135, 0, 0, 0, 51, 924, 15)) rfl) zA rfl rfl (hp.1 1 rfl) (hq.1 2 rfl) rfl rfl rfl (by decide) (Nat.succ_pos _) (Nat.le_of_ble_eq_true rfl) ?_
  replace F := F _ rfl
  refine e_0 (f_57 (pc := 15) (e := (15, 0, 0, 0, 0, 0, 0, 16)) rfl) (v := 0) rfl ?_
  refine e_20 (f_57 (pc := 16) (e := (16, 20, 2, 0, 0, 0, 0, 17)) rfl) ?_
  refine e_lo [0, 1, 2] rfl ?_
  exact F
set_option maxRecDepth 20000 in
theorem B_57_17n {p : Nat} (hp : yAtState T R p) {q : Nat} (hq : yAtLand T R q) {x2 : Int} (F : (8 ≤ x2 → yW l zSS D cy zFk z d 58 0 0 (fun r h' => ∃ I2, r = none ∧ h' = (N, T, R, I2) ∧ (K none (N, T, R, I2))) 0 0 0 [(0, yr (some p))] [] (N, T, R, I)) ∧ (¬ (8 ≤ x2) → 0 ≤ x2 ∧ x2 < 8 ∧ (0 ≤ x2 ∧ x2 < 8 ∧ (∀ I7, I7 = yU I (p + 2) x2.toNat (ynar 1 (ymax (I (q + 9) x2.toNat) 0)) → (0 ≤ x2 ∧ x2 < 8 ∧ (0 ≤ x2 ∧ x2 < 8 ∧ (∀ I12, I12 = yU I7 (p + 3) x2.toNat (ynar 1 (I7 (q + 7) x2.toNat)) → (yW l zSS D cy zFk z (d + 1) 57 bc bs K 0 0 17 [(0, yr (some p)), (1, yr (some q)), (2, yi (yadd x2 1))] [] (N, T, R, I12))))))))) :
    yW l zSS D cy zFk z (d + 1) 57 bc bs K 0 0 17 [(0, yr (some p)), (1, yr (some q)), (2, yi x2)] [] (N, T, R, I) := by
  refine e_10 (f_57 (pc := 17) (e := (17, 10, 2, 0, 0, 0, 0, 18)) rfl) rfl ?_
  refine e_1 (f_57 (pc := 18) (e := (18, 1, 8, 0, 0, 0, 0, 20)) rfl) (v := 8) rfl ?_
  refine e_73 (f_57 (pc := 20) (e := (20, 73, 57, 0, 0, 0, 0, 23)) rfl) (fun c1 => ?_) (fun c1 => ?_)
  · replace F := F.1 c1
    refine e_12 (f_57 (pc := 57) (e := (57, 12, 0, 0, 0, 0, 0, 58)) rfl) rfl ?_
    refine e_130 (f_57 (pc := 58) (e := (58, 130, 58, 0, 5, 65, 928, 61)) rfl) zA (as := [yr (some p)]) (rest := []) rfl rfl rfl rfl (Nat.le_of_ble_eq_true rfl) (Nat.le_of_ble_eq_true rfl) ⟨_, _, _, rfl, (hp.1 0 rfl)⟩ (mc := 0) (ms := 0) (Nat.zero_le _) (Nat.zero_le _) ?_
    refine e_K ?_ F
    rintro r h' ⟨I2, rfl, rfl, F⟩
    exact e_122 (f_57 (pc := 61) (e := (61, 122, 0, 0, 0, 0, 0, 0)) rfl) F
  · replace F := F.2 c1
    refine e_12 (f_57 (pc := 23) (e := (23, 12, 0, 0, 0, 0, 0, 24)) rfl) rfl ?_
    refine e_90r zA (f_57 (pc := 24) (e := (24, 90, 5, 2, 3, 15, 910, 27)) rfl) rfl (hp.1 0 rfl) rfl rfl (hp.2 2 rfl) ?_
    refine e_10 (f_57 (pc := 27) (e := (27, 10, 2, 0, 0, 0, 0, 28)) rfl) rfl ?_
    refine e_12 (f_57 (pc := 28) (e := (28, 12, 1, 0, 0, 0, 0, 29)) rfl) rfl ?_
    refine e_90r zA (f_57 (pc := 29) (e := (29, 90, 1, 11, 3, 57, 925, 32)) rfl) rfl (hq.1 0 rfl) rfl rfl (hq.2 11 rfl) ?_
    refine e_10 (f_57 (pc := 32) (e := (32, 10, 2, 0, 0, 0, 0, 33)) rfl) rfl ?_
    obtain ⟨b3, b4, F⟩ := F
    refine e_110 (f_57 (pc := 33) (e := (33, 110, 0, 0, 0, 0, 0, 34)) rfl) rfl (hq.1 9 rfl) b3 b4 ?_
    refine e_0 (f_57 (pc := 34) (e := (34, 0, 0, 0, 0, 0, 0, 35)) rfl) (v := 0) rfl ?_
    refine e_137 (f_57 (pc := 35) (e := (35, 137, 0, 0, 0, 58, 926, 38)) rfl) zA (Nat.succ_pos _) (Nat.le_of_ble_eq_true rfl) ?_
    obtain ⟨b5, b6, F⟩ := F
    refine e_111 (f_57 (pc := 38) (e := (38, 111, 0, 0, 0, 0, 0, 39)) rfl) rfl (hp.1 2 rfl) b5 b6 ?_
    replace F := F _ rfl
    refine e_12 (f_57 (pc := 39) (e := (39, 12, 0, 0, 0, 0, 0, 40)) rfl) rfl ?_
    refine e_90r zA (f_57 (pc := 40) (e := (40, 90, 5, 3, 3, 18, 911, 43)) rfl) rfl (hp.1 0 rfl) rfl rfl (hp.2 3 rfl) ?_
    refine e_10 (f_57 (pc := 43) (e := (43, 10, 2, 0, 0, 0, 0, 44)) rfl) rfl ?_
    refine e_12 (f_57 (pc := 44) (e := (44, 12, 1, 0, 0, 0, 0, 45)) rfl) rfl ?_
    refine e_90r zA (f_57 (pc := 45) (e := (45, 90, 1, 9, 3, 64, 927, 48)) rfl) rfl (hq.1 0 rfl) rfl rfl (hq.2 9 rfl) ?_
    refine e_10 (f_57 (pc := 48) (e := (48, 10, 2, 0, 0, 0, 0, 49)) rfl) rfl ?_
    obtain ⟨b8, b9, F⟩ := F
    refine e_110 (f_57 (pc := 49) (e := (49, 110, 0, 0, 0, 0, 0, 50)) rfl) rfl (hq.1 7 rfl) b8 b9 ?_
    obtain ⟨b10, b11, F⟩ := F
    refine e_111 (f_57 (pc := 50) (e := (50, 111, 0, 0, 0, 0, 0, 51)) rfl) rfl (hp.1 3 rfl) b10 b11 ?_
    replace F := F _ rfl
    refine e_26 (f_57 (pc := 51) (e := (51, 26, 2, 1, 0, 0, 0, 54)) rfl) (w := 1) rfl rfl ?_
    refine e_80 (f_57 (pc := 54) (e := (54, 80, 17, 0, 0, 0, 0, 57)) rfl) ?_
    refine e_lo [0, 1, 2] rfl ?_
    exact F

set_option maxRecDepth 20000 in
theorem B_58_0n {p : Nat} (hp : yAtState T R p) (F : ∀ I1, I1 = yU I p 0 0 → (∀ I2, I2 = yU I1 p 12 0 → (yW l zSS D cy zFk z d 58 bc bs K 0 0 12 [(0, yr (some p)), (1, yi 0)] [] (N, T, R, I2)))) :
    yW l zSS D cy zFk z d 58 bc bs K 0 0 0 [(0, yr (some p))] [] (N, T, R, I) := by
  refine e_12 (f_58 (pc := 0) (e := (0, 12, 0, 0, 0, 0, 0, 1)) rfl) rfl ?_
  refine e_0 (f_58 (pc := 1) (e := (1, 0, 0, 0, 0, 0, 0, 2)) rfl) (v := 0) rfl ?_
  refine e_91 zA (f_58 (pc := 2) (e := (2, 91, 5, 0, 0, 68, 922, 5)) rfl) rfl (hp.1 0 rfl) rfl rfl trivial ?_
  replace F := F _ rfl
  refine e_12 (f_58 (pc := 5) (e := (5, 12, 0, 0, 0, 0, 0, 6)) rfl) rfl ?_
  refine e_0 (f_58 (pc := 6) (e := (6, 0, 0, 0, 0, 0, 0, 7)) rfl) (v := 0) rfl ?_
  refine e_91 zA (f_58 (pc := 7) (e := (7, 91, 5, 12, 0, 72, 921, 10)) rfl) rfl (hp.1 0 rfl) rfl rfl trivial ?_
  replace F := F _ rfl
  refine e_0 (f_58 (pc := 10) (e := (10, 0, 0, 0, 0, 0, 0, 11)) rfl) (v := 0) rfl ?_
  refine e_20 (f_58 (pc := 11) (e := (11, 20, 1, 0, 0, 0, 0, 12)) rfl) ?_
  refine e_lo [0, 1] rfl ?_
  exact F
set_option maxRecDepth 20000 in
theorem B_58_12n {p : Nat} (hp : yAtState T R p) {x1 : Int} (F : (8 ≤ x1 → K none (N, T, R, I)) ∧ (¬ (8 ≤ x1) → 0 ≤ x1 ∧ x1 < 8 ∧ (∀ I4, I4 = yU I (p + 4) x1.toNat (ynar 1 (-1)) → (0 ≤ x1 ∧ x1 < 8 ∧ (∀ I7, I7 = yU I4 (p + 5) x1.toNat (ynar 1 (-1)) → (0 ≤ x1 ∧ x1 < 8 ∧ (∀ I10, I10 = yU I7 (p + 6) x1.toNat (ynar 1 0) → (0 ≤ x1 ∧ x1 < 8 ∧ (∀ I13, I13 = yU I10 (p + 7) x1.toNat (ynar 1 0) → (0 ≤ x1 ∧ x1 < 8 ∧ (∀ I16, I16 = yU I13 (p + 8) x1.toNat (ynar 1 0) → (0 ≤ x1 ∧ x1 < 8 ∧ (∀ I19, I19 = yU I16 (p + 9) x1.toNat (ynar 1 (-1)) → (0 ≤ x1 ∧ x1 < 8 ∧ (∀ I22, I22 = yU I19 (p + 10) x1.toNat (ynar 1 (-2)) → (0 ≤ x1 ∧ x1 < 8 ∧ (∀ I25, I25 = yU I22 (p + 11) x1.toNat (ynar 1 0) → (yW l zSS D cy zFk z d 58 bc bs K 0 0 12 [(0, yr (some p)), (1, yi (yadd x1 1))] [] (N, T, R, I25))))))))))))))))))) :
    yW l zSS D cy zFk z d 58 bc bs K 0 0 12 [(0, yr (some p)), (1, yi x1)] [] (N, T, R, I) := by
  refine e_10 (f_58 (pc := 12) (e := (12, 10, 1, 0, 0, 0, 0, 13)) rfl) rfl ?_
  refine e_1 (f_58 (pc := 13) (e := (13, 1, 8, 0, 0, 0, 0, 15)) rfl) (v := 8) rfl ?_
  refine e_73 (f_58 (pc := 15) (e := (15, 73, 81, 0, 0, 0, 0, 18)) rfl) (fun c1 => ?_) (fun c1 => ?_)
  · replace F := F.1 c1
    exact e_122 (f_58 (pc := 81) (e := (81, 122, 0, 0, 0, 0, 0, 0)) rfl) F
  · replace F := F.2 c1
    refine e_12 (f_58 (pc := 18) (e := (18, 12, 0, 0, 0, 0, 0, 19)) rfl) rfl ?_
    refine e_90r zA (f_58 (pc := 19) (e := (19, 90, 5, 4, 3, 21, 912, 22)) rfl) rfl (hp.1 0 rfl) rfl rfl (hp.2 4 rfl) ?_
    refine e_10 (f_58 (pc := 22) (e := (22, 10, 1, 0, 0, 0, 0, 23)) rfl) rfl ?_
    refine e_0 (f_58 (pc := 23) (e := (23, 0, 4294967295, 0, 0, 0, 0, 24)) rfl) (v := (-1)) rfl ?_
    obtain ⟨b2, b3, F⟩ := F
    refine e_111 (f_58 (pc := 24) (e := (24, 111, 0, 0, 0, 0, 0, 25)) rfl) rfl (hp.1 4 rfl) b2 b3 ?_
    replace F := F _ rfl
    refine e_12 (f_58 (pc := 25) (e := (25, 12, 0, 0, 0, 0, 0, 26)) rfl) rfl ?_
    refine e_90r zA (f_58 (pc := 26) (e := (26, 90, 5, 5, 3, 24, 913, 29)) rfl) rfl (hp.1 0 rfl) rfl rfl (hp.2 5 rfl) ?_
    refine e_10 (f_58 (pc := 29) (e := (29, 10, 1, 0, 0, 0, 0, 30)) rfl) rfl ?_
    refine e_0 (f_58 (pc := 30) (e := (30, 0, 4294967295, 0, 0, 0, 0, 31)) rfl) (v := (-1)) rfl ?_
    obtain ⟨b5, b6, F⟩ := F
    refine e_111 (f_58 (pc := 31) (e := (31, 111, 0, 0, 0, 0, 0, 32)) rfl) rfl (hp.1 5 rfl) b5 b6 ?_
    replace F := F _ rfl
    refine e_12 (f_58 (pc := 32) (e := (32, 12, 0, 0, 0, 0, 0, 33)) rfl) rfl ?_
    refine e_90r zA (f_58 (pc := 33) (e := (33, 90, 5, 6, 3, 27, 914, 36)) rfl) rfl (hp.1 0 rfl) rfl rfl (hp.2 6 rfl) ?_
    refine e_10 (f_58 (pc := 36) (e := (36, 10, 1, 0, 0, 0, 0, 37)) rfl) rfl ?_
    refine e_0 (f_58 (pc := 37) (e := (37, 0, 0, 0, 0, 0, 0, 38)) rfl) (v := 0) rfl ?_
    obtain ⟨b8, b9, F⟩ := F
    refine e_111 (f_58 (pc := 38) (e := (38, 111, 0, 0, 0, 0, 0, 39)) rfl) rfl (hp.1 6 rfl) b8 b9 ?_
    replace F := F _ rfl
    refine e_12 (f_58 (pc := 39) (e := (39, 12, 0, 0, 0, 0, 0, 40)) rfl) rfl ?_
    refine e_90r zA (f_58 (pc := 40) (e := (40, 90, 5, 7, 3, 30, 915, 43)) rfl) rfl (hp.1 0 rfl) rfl rfl (hp.2 7 rfl) ?_
    refine e_10 (f_58 (pc := 43) (e := (43, 10, 1, 0, 0, 0, 0, 44)) rfl) rfl ?_
    refine e_0 (f_58 (pc := 44) (e := (44, 0, 0, 0, 0, 0, 0, 45)) rfl) (v := 0) rfl ?_
    obtain ⟨b11, b12, F⟩ := F
    refine e_111 (f_58 (pc := 45) (e := (45, 111, 0, 0, 0, 0, 0, 46)) rfl) rfl (hp.1 7 rfl) b11 b12 ?_
    replace F := F _ rfl
    refine e_12 (f_58 (pc := 46) (e := (46, 12, 0, 0, 0, 0, 0, 47)) rfl) rfl ?_
    refine e_90r zA (f_58 (pc := 47) (e := (47, 90, 5, 8, 3, 33, 916, 50)) rfl) rfl (hp.1 0 rfl) rfl rfl (hp.2 8 rfl) ?_
    refine e_10 (f_58 (pc := 50) (e := (50, 10, 1, 0, 0, 0, 0, 51)) rfl) rfl ?_
    refine e_0 (f_58 (pc := 51) (e := (51, 0, 0, 0, 0, 0, 0, 52)) rfl) (v := 0) rfl ?_
    obtain ⟨b14, b15, F⟩ := F
    refine e_111 (f_58 (pc := 52) (e := (52, 111, 0, 0, 0, 0, 0, 53)) rfl) rfl (hp.1 8 rfl) b14 b15 ?_
    replace F := F _ rfl
    refine e_12 (f_58 (pc := 53) (e := (53, 12, 0, 0, 0, 0, 0, 54)) rfl) rfl ?_
    refine e_90r zA (f_58 (pc := 54) (e := (54, 90, 5, 9, 3, 36, 917, 57)) rfl) rfl (hp.1 0 rfl) rfl rfl (hp.2 9 rfl) ?_
    refine e_10 (f_58 (pc := 57) (e := (57, 10, 1, 0, 0, 0, 0, 58)) rfl) rfl ?_
    refine e_0 (f_58 (pc := 58) (e := (58, 0, 4294967295, 0, 0, 0, 0, 59)) rfl) (v := (-1)) rfl ?_
    obtain ⟨b17, b18, F⟩ := F
    refine e_111 (f_58 (pc := 59) (e := (59, 111, 0, 0, 0, 0, 0, 60)) rfl) rfl (hp.1 9 rfl) b17 b18 ?_
    replace F := F _ rfl
    refine e_12 (f_58 (pc := 60) (e := (60, 12, 0, 0, 0, 0, 0, 61)) rfl) rfl ?_
    refine e_90r zA (f_58 (pc := 61) (e := (61, 90, 5, 10, 3, 39, 918, 64)) rfl) rfl (hp.1 0 rfl) rfl rfl (hp.2 10 rfl) ?_
    refine e_10 (f_58 (pc := 64) (e := (64, 10, 1, 0, 0, 0, 0, 65)) rfl) rfl ?_
    refine e_1 (f_58 (pc := 65) (e := (65, 1, 4294967294, 0, 0, 0, 0, 67)) rfl) (v := (-2)) rfl ?_
    obtain ⟨b20, b21, F⟩ := F
    refine e_111 (f_58 (pc := 67) (e := (67, 111, 0, 0, 0, 0, 0, 68)) rfl) rfl (hp.1 10 rfl) b20 b21 ?_
    replace F := F _ rfl
    refine e_12 (f_58 (pc := 68) (e := (68, 12, 0, 0, 0, 0, 0, 69)) rfl) rfl ?_
    refine e_90r zA (f_58 (pc := 69) (e := (69, 90, 5, 11, 3, 42, 919, 72)) rfl) rfl (hp.1 0 rfl) rfl rfl (hp.2 11 rfl) ?_
    refine e_10 (f_58 (pc := 72) (e := (72, 10, 1, 0, 0, 0, 0, 73)) rfl) rfl ?_
    refine e_0 (f_58 (pc := 73) (e := (73, 0, 0, 0, 0, 0, 0, 74)) rfl) (v := 0) rfl ?_
    obtain ⟨b23, b24, F⟩ := F
    refine e_111 (f_58 (pc := 74) (e := (74, 111, 0, 0, 0, 0, 0, 75)) rfl) rfl (hp.1 11 rfl) b23 b24 ?_
    replace F := F _ rfl
    refine e_26 (f_58 (pc := 75) (e := (75, 26, 1, 1, 0, 0, 0, 78)) rfl) (w := 1) rfl rfl ?_
    refine e_80 (f_58 (pc := 78) (e := (78, 80, 12, 0, 0, 0, 0, 81)) rfl) ?_
    refine e_lo [0, 1] rfl ?_
    exact F

/-- ChairAlley$State.beginMinutes()V -/
theorem w_58n {p : Nat} (hp : yAtState T R p) (gp : (1 < p ∧ p + 13 ≤ 102) ∨ 126 ≤ p) (hk : ∀ I', (∀ k j, ¬ (p ≤ k ∧ k < p + 13) → I' k j = I k j) → (True) → K none (N, T, R, I')) : yW l zSS D cy zFk z d 58 bc bs K 0 0 0 [(0, yr (some p))] [] (N, T, R, I) := by
  have k0 : ∀ k j, ¬ (p ≤ k ∧ k < p + 13) → I k j = I k j := fun _ _ _ => rfl
  have L : ∀ m : Nat, (∀ x1 : Int, ∀ X : Nat → Nat → Int, (∀ k j, ¬ (p ≤ k ∧ k < p + 13) → X k j = I k j) → (8 - x1 : Int).toNat < m → (0 ≤ x1 ∧ x1 ≤ 8) → yW l zSS D cy zFk z d 58 bc bs K 0 0 12 [(0, yr (some p)), (1, yi x1)] [] (N, T, R, X)) := by
    intro m
    induction m with
    | zero => exact fun _ _ _ h => absurd h (Nat.not_lt_zero _)
    | succ m ih =>
      intro x1 X kX hm iv
      refine e_li (i := 1) (x := x1) rfl fun _ _ => ?_
      refine B_58_12n hp ?_
      refine ⟨fun c1 => ?_, fun c1 => ?_⟩
      · exact hk _ kX trivial
      · refine ⟨by omega, by omega, ?_⟩
        intro I2 e3
        have k4 : ∀ k j, ¬ (p ≤ k ∧ k < p + 13) → I2 k j = I k j := fun k j h => ((congrFun (congrFun e3 k) j).trans (yU_ne _ _ (by omega))).trans (kX k j h)
        refine ⟨by omega, by omega, ?_⟩
        intro I5 e6
        have k7 : ∀ k j, ¬ (p ≤ k ∧ k < p + 13) → I5 k j = I k j := fun k j h => ((congrFun (congrFun e6 k) j).trans (yU_ne _ _ (by omega))).trans (k4 k j h)
        refine ⟨by omega, by omega, ?_⟩
        intro I8 e9
        have k10 : ∀ k j, ¬ (p ≤ k ∧ k < p + 13) → I8 k j = I k j := fun k j h => ((congrFun (congrFun e9 k) j).trans (yU_ne _ _ (by omega))).trans (k7 k j h)
        refine ⟨by omega, by omega, ?_⟩
        intro I11 e12
        have k13 : ∀ k j, ¬ (p ≤ k ∧ k < p + 13) → I11 k j = I k j := fun k j h => ((congrFun (congrFun e12 k) j).trans (yU_ne _ _ (by omega))).trans (k10 k j h)
        refine ⟨by omega, by omega, ?_⟩
        intro I14 e15
        have k16 : ∀ k j, ¬ (p ≤ k ∧ k < p + 13) → I14 k j = I k j := fun k j h => ((congrFun (congrFun e15 k) j).trans (yU_ne _ _ (by omega))).trans (k13 k j h)
        refine ⟨by omega, by omega, ?_⟩
        intro I17 e18
        have k19 : ∀ k j, ¬ (p ≤ k ∧ k < p + 13) → I17 k j = I k j := fun k j h => ((congrFun (congrFun e18 k) j).trans (yU_ne _ _ (by omega))).trans (k16 k j h)
        refine ⟨by omega, by omega, ?_⟩
        intro I20 e21
        have k22 : ∀ k j, ¬ (p ≤ k ∧ k < p + 13) → I20 k j = I k j := fun k j h => ((congrFun (congrFun e21 k) j).trans (yU_ne _ _ (by omega))).trans (k19 k j h)
        refine ⟨by omega, by omega, ?_⟩
        intro I23 e24
        have k25 : ∀ k j, ¬ (p ≤ k ∧ k < p + 13) → I23 k j = I k j := fun k j h => ((congrFun (congrFun e24 k) j).trans (yU_ne _ _ (by omega))).trans (k22 k j h)
        have a26 : yadd x1 1 = (x1 + 1) := yadd_eq (by omega) (by omega)
        try rw [a26]
        exact ih _ _ k25 (by omega) (by omega)
  refine B_58_0n hp ?_
  intro I27 e28
  have k29 : ∀ k j, ¬ (p ≤ k ∧ k < p + 13) → I27 k j = I k j := fun k j h => ((congrFun (congrFun e28 k) j).trans (yU_ne _ _ (by omega))).trans (k0 k j h)
  intro I30 e31
  have k32 : ∀ k j, ¬ (p ≤ k ∧ k < p + 13) → I30 k j = I k j := fun k j h => ((congrFun (congrFun e31 k) j).trans (yU_ne _ _ (by omega))).trans (k29 k j h)
  exact (L _) _ _ k32 (Nat.lt_succ_self _) (by omega)
/-- ChairAlley$State.beginAll(LChairAlley$Land;)V -/
theorem w_57n {p : Nat} (hp : yAtState T R p) (gp : (1 < p ∧ p + 13 ≤ 102) ∨ 126 ≤ p) {q : Nat} (hq : yAtLand T R q) (gq : (1 < q ∧ q + 12 ≤ 102) ∨ 126 ≤ q) (hk : ∀ I', (∀ k j, ¬ (p ≤ k ∧ k < p + 13) → I' k j = I k j) → (True) → K none (N, T, R, I')) : yW l zSS D cy zFk z (d + 1) 57 bc bs K 0 0 0 [(0, yr (some p)), (1, yr (some q))] [] (N, T, R, I) := by
  have k0 : ∀ k j, ¬ (p ≤ k ∧ k < p + 13) → I k j = I k j := fun _ _ _ => rfl
  have L : ∀ m : Nat, (∀ x2 : Int, ∀ X : Nat → Nat → Int, (∀ k j, ¬ (p ≤ k ∧ k < p + 13) → X k j = I k j) → (8 - x2 : Int).toNat < m → (0 ≤ x2 ∧ x2 ≤ 8) → yW l zSS D cy zFk z (d + 1) 57 bc bs K 0 0 17 [(0, yr (some p)), (1, yr (some q)), (2, yi x2)] [] (N, T, R, X)) := by
    intro m
    induction m with
    | zero => exact fun _ _ _ h => absurd h (Nat.not_lt_zero _)
    | succ m ih =>
      intro x2 X kX hm iv
      refine e_li (i := 2) (x := x2) rfl fun _ _ => ?_
      refine B_57_17n hp hq ?_
      refine ⟨fun c1 => ?_, fun c1 => ?_⟩
      · refine w_58n (d := d) hp (by omega)  (fun I2 f4 q3 => ⟨_, rfl, rfl, ?_⟩)
        have k5 : ∀ k j, ¬ (p ≤ k ∧ k < p + 13) → I2 k j = I k j := fun k j h => (f4 k j (by omega)).trans (kX k j h)
        exact hk _ k5 trivial
      · refine ⟨by omega, by omega, ?_⟩
        have a6 := ymax_cs (X (q + 9) x2.toNat) 0
        refine ⟨by omega, by omega, ?_⟩
        intro I7 e8
        have k9 : ∀ k j, ¬ (p ≤ k ∧ k < p + 13) → I7 k j = I k j := fun k j h => ((congrFun (congrFun e8 k) j).trans (yU_ne _ _ (by omega))).trans (kX k j h)
        refine ⟨by omega, by omega, ?_⟩
        refine ⟨by omega, by omega, ?_⟩
        intro I10 e11
        have k12 : ∀ k j, ¬ (p ≤ k ∧ k < p + 13) → I10 k j = I k j := fun k j h => ((congrFun (congrFun e11 k) j).trans (yU_ne _ _ (by omega))).trans (k9 k j h)
        have a13 : yadd x2 1 = (x2 + 1) := yadd_eq (by omega) (by omega)
        try rw [a13]
        exact ih _ _ k12 (by omega) (by omega)
  refine B_57_0n hp hq ?_
  intro I14 e15
  have k16 : ∀ k j, ¬ (p ≤ k ∧ k < p + 13) → I14 k j = I k j := fun k j h => ((congrFun (congrFun e15 k) j).trans (yC_ne (by omega))).trans (k0 k j h)
  exact (L _) _ _ k16 (Nat.lt_succ_self _) (by omega)
/-- ChairAlley$Land.clear()V -/
theorem w_7n {p : Nat} (hp : yAtLand T R p) (gp : (1 < p ∧ p + 12 ≤ 102) ∨ 126 ≤ p) (hk : ∀ I', (∀ k j, ¬ (p ≤ k ∧ k < p + 12) → I' k j = I k j) → (0 ≤ I' p 0 ∧ I' p 0 ≤ 10 ∧ 0 ≤ I' p 1 ∧ I' p 1 ≤ 10 ∧ I' p 5 = 0) → K none (N, T, R, I')) : yW l zSS D cy zFk z d 7 bc bs K 0 0 0 [(0, yr (some p))] [] (N, T, R, I) := by
  have k0 : ∀ k j, ¬ (p ≤ k ∧ k < p + 12) → I k j = I k j := fun _ _ _ => rfl
  have L : ∀ m : Nat, (∀ x1 : Int, ∀ X : Nat → Nat → Int, (∀ k j, ¬ (p ≤ k ∧ k < p + 12) → X k j = I k j) → (300 + (100 - x1) : Int).toNat < m → (0 ≤ x1 ∧ x1 ≤ 100 ∧ 0 ≤ X p 0 ∧ X p 0 ≤ 10 ∧ 0 ≤ X p 1 ∧ X p 1 ≤ 10 ∧ X p 5 = 0) → yW l zSS D cy zFk z d 7 bc bs K 0 0 22 [(0, yr (some p)), (1, yi x1)] [] (N, T, R, X)) ∧ (∀ x1 : Int, ∀ X : Nat → Nat → Int, (∀ k j, ¬ (p ≤ k ∧ k < p + 12) → X k j = I k j) → (200 + (5 - x1) : Int).toNat < m → (0 ≤ x1 ∧ x1 ≤ 5 ∧ 0 ≤ X p 0 ∧ X p 0 ≤ 10 ∧ 0 ≤ X p 1 ∧ X p 1 ≤ 10 ∧ X p 5 = 0) → yW l zSS D cy zFk z d 7 bc bs K 0 0 50 [(0, yr (some p)), (1, yi x1)] [] (N, T, R, X)) ∧ (∀ x1 : Int, ∀ X : Nat → Nat → Int, (∀ k j, ¬ (p ≤ k ∧ k < p + 12) → X k j = I k j) → (100 + (8 - x1) : Int).toNat < m → (0 ≤ x1 ∧ x1 ≤ 8 ∧ 0 ≤ X p 0 ∧ X p 0 ≤ 10 ∧ 0 ≤ X p 1 ∧ X p 1 ≤ 10 ∧ X p 5 = 0) → yW l zSS D cy zFk z d 7 bc bs K 0 0 74 [(0, yr (some p)), (1, yi x1)] [] (N, T, R, X)) := by
    intro m
    induction m with
    | zero => exact ⟨fun _ _ _ h => absurd h (Nat.not_lt_zero _), fun _ _ _ h => absurd h (Nat.not_lt_zero _), fun _ _ _ h => absurd h (Nat.not_lt_zero _)⟩
    | succ m ih =>
      refine ⟨?_, ?_, ?_⟩
      · intro x1 X kX hm iv
        first | have tX_p_0 := kX p 0 (by omega) | skip
        first | have tX_p_1 := kX p 1 (by omega) | skip
        first | have tX_p_5 := kX p 5 (by omega) | skip
        refine e_li (i := 1) (x := x1) rfl fun _ _ => ?_
        refine B_7_22n hp ?_
        refine ⟨fun c1 => ?_, fun c1 => ?_⟩
        · exact ih.2.1 _ _ kX (by omega) (by omega)
        · refine ⟨by omega, by omega, ?_⟩
          intro I2 e3
          have k4 : ∀ k j, ¬ (p ≤ k ∧ k < p + 12) → I2 k j = I k j := fun k j h => ((congrFun (congrFun e3 k) j).trans (yU_ne _ _ (by omega))).trans (kX k j h)
          first | have tI2_p_0 : I2 p 0 = X p 0 := (congrFun (congrFun e3 p) 0).trans (yU_ne _ _ (by omega)) | skip
          first | have tI2_p_1 : I2 p 1 = X p 1 := (congrFun (congrFun e3 p) 1).trans (yU_ne _ _ (by omega)) | skip
          first | have tI2_p_5 : I2 p 5 = X p 5 := (congrFun (congrFun e3 p) 5).trans (yU_ne _ _ (by omega)) | skip
          refine ⟨by omega, by omega, ?_⟩
          intro I5 e6
          have k7 : ∀ k j, ¬ (p ≤ k ∧ k < p + 12) → I5 k j = I k j := fun k j h => ((congrFun (congrFun e6 k) j).trans (yU_ne _ _ (by omega))).trans (k4 k j h)
          first | have tI5_p_0 : I5 p 0 = I2 p 0 := (congrFun (congrFun e6 p) 0).trans (yU_ne _ _ (by omega)) | skip
          first | have tI5_p_1 : I5 p 1 = I2 p 1 := (congrFun (congrFun e6 p) 1).trans (yU_ne _ _ (by omega)) | skip
          first | have tI5_p_5 : I5 p 5 = I2 p 5 := (congrFun (congrFun e6 p) 5).trans (yU_ne _ _ (by omega)) | skip
          have a8 : yadd x1 1 = (x1 + 1) := yadd_eq (by omega) (by omega)
          try rw [a8]
          exact ih.1 _ _ k7 (by omega) (by omega)
      · intro x1 X kX hm iv
        first | have tX_p_0 := kX p 0 (by omega) | skip
        first | have tX_p_1 := kX p 1 (by omega) | skip
        first | have tX_p_5 := kX p 5 (by omega) | skip
        refine e_li (i := 1) (x := x1) rfl fun _ _ => ?_
        refine B_7_50n hp ?_
        refine ⟨fun c9 => ?_, fun c9 => ?_⟩
        · exact ih.2.2 _ _ kX (by omega) (by omega)
        · refine ⟨by omega, by omega, ?_⟩
          intro I10 e11
          have k12 : ∀ k j, ¬ (p ≤ k ∧ k < p + 12) → I10 k j = I k j := fun k j h => ((congrFun (congrFun e11 k) j).trans (yU_ne _ _ (by omega))).trans (kX k j h)
          first | have tI10_p_0 : I10 p 0 = X p 0 := (congrFun (congrFun e11 p) 0).trans (yU_ne _ _ (by omega)) | skip
          first | have tI10_p_1 : I10 p 1 = X p 1 := (congrFun (congrFun e11 p) 1).trans (yU_ne _ _ (by omega)) | skip
          first | have tI10_p_5 : I10 p 5 = X p 5 := (congrFun (congrFun e11 p) 5).trans (yU_ne _ _ (by omega)) | skip
          have a13 : yadd x1 1 = (x1 + 1) := yadd_eq (by omega) (by omega)
          try rw [a13]
          exact ih.2.1 _ _ k12 (by omega) (by omega)
      · intro x1 X kX hm iv
        first | have tX_p_0 := kX p 0 (by omega) | skip
        first | have tX_p_1 := kX p 1 (by omega) | skip
        first | have tX_p_5 := kX p 5 (by omega) | skip
        refine e_li (i := 1) (x := x1) rfl fun _ _ => ?_
        refine B_7_74n hp ?_
        refine ⟨fun c14 => ?_, fun c14 => ?_⟩
        · exact hk _ kX (by omega)
        · refine ⟨by omega, by omega, ?_⟩
          intro I15 e16
          have k17 : ∀ k j, ¬ (p ≤ k ∧ k < p + 12) → I15 k j = I k j := fun k j h => ((congrFun (congrFun e16 k) j).trans (yU_ne _ _ (by omega))).trans (kX k j h)
          first | have tI15_p_0 : I15 p 0 = X p 0 := (congrFun (congrFun e16 p) 0).trans (yU_ne _ _ (by omega)) | skip
          first | have tI15_p_1 : I15 p 1 = X p 1 := (congrFun (congrFun e16 p) 1).trans (yU_ne _ _ (by omega)) | skip
          first | have tI15_p_5 : I15 p 5 = X p 5 := (congrFun (congrFun e16 p) 5).trans (yU_ne _ _ (by omega)) | skip
          refine ⟨by omega, by omega, ?_⟩
          intro I18 e19
          have k20 : ∀ k j, ¬ (p ≤ k ∧ k < p + 12) → I18 k j = I k j := fun k j h => ((congrFun (congrFun e19 k) j).trans (yU_ne _ _ (by omega))).trans (k17 k j h)
          first | have tI18_p_0 : I18 p 0 = I15 p 0 := (congrFun (congrFun e19 p) 0).trans (yU_ne _ _ (by omega)) | skip
          first | have tI18_p_1 : I18 p 1 = I15 p 1 := (congrFun (congrFun e19 p) 1).trans (yU_ne _ _ (by omega)) | skip
          first | have tI18_p_5 : I18 p 5 = I15 p 5 := (congrFun (congrFun e19 p) 5).trans (yU_ne _ _ (by omega)) | skip
          have a21 : yadd x1 1 = (x1 + 1) := yadd_eq (by omega) (by omega)
          try rw [a21]
          exact ih.2.2 _ _ k20 (by omega) (by omega)
  refine B_7_0n hp ?_
  intro I22 e23
  have k24 : ∀ k j, ¬ (p ≤ k ∧ k < p + 12) → I22 k j = I k j := fun k j h => ((congrFun (congrFun e23 k) j).trans (yU_ne _ _ (by omega))).trans (k0 k j h)
  have tI22_p_0 := (congrFun (congrFun e23 p) 0).trans (yU_eq _ _ _ _)
  first | have tI22_p_1 : I22 p 1 = I p 1 := (congrFun (congrFun e23 p) 1).trans (yU_ne _ _ (by omega)) | skip
  first | have tI22_p_5 : I22 p 5 = I p 5 := (congrFun (congrFun e23 p) 5).trans (yU_ne _ _ (by omega)) | skip
  intro I25 e26
  have k27 : ∀ k j, ¬ (p ≤ k ∧ k < p + 12) → I25 k j = I k j := fun k j h => ((congrFun (congrFun e26 k) j).trans (yU_ne _ _ (by omega))).trans (k24 k j h)
  first | have tI25_p_0 : I25 p 0 = I22 p 0 := (congrFun (congrFun e26 p) 0).trans (yU_ne _ _ (by omega)) | skip
  have tI25_p_1 := (congrFun (congrFun e26 p) 1).trans (yU_eq _ _ _ _)
  first | have tI25_p_5 : I25 p 5 = I22 p 5 := (congrFun (congrFun e26 p) 5).trans (yU_ne _ _ (by omega)) | skip
  intro I28 e29
  have k30 : ∀ k j, ¬ (p ≤ k ∧ k < p + 12) → I28 k j = I k j := fun k j h => ((congrFun (congrFun e29 k) j).trans (yU_ne _ _ (by omega))).trans (k27 k j h)
  first | have tI28_p_0 : I28 p 0 = I25 p 0 := (congrFun (congrFun e29 p) 0).trans (yU_ne _ _ (by omega)) | skip
  first | have tI28_p_1 : I28 p 1 = I25 p 1 := (congrFun (congrFun e29 p) 1).trans (yU_ne _ _ (by omega)) | skip
  first | have tI28_p_5 : I28 p 5 = I25 p 5 := (congrFun (congrFun e29 p) 5).trans (yU_ne _ _ (by omega)) | skip
  have tI28_p_5e := (congrFun (congrFun e29 p) 5).trans (yU_eq _ _ _ _)
  intro I31 e32
  have k33 : ∀ k j, ¬ (p ≤ k ∧ k < p + 12) → I31 k j = I k j := fun k j h => ((congrFun (congrFun e32 k) j).trans (yU_ne _ _ (by omega))).trans (k30 k j h)
  first | have tI31_p_0 : I31 p 0 = I28 p 0 := (congrFun (congrFun e32 p) 0).trans (yU_ne _ _ (by omega)) | skip
  first | have tI31_p_1 : I31 p 1 = I28 p 1 := (congrFun (congrFun e32 p) 1).trans (yU_ne _ _ (by omega)) | skip
  first | have tI31_p_5 : I31 p 5 = I28 p 5 := (congrFun (congrFun e32 p) 5).trans (yU_ne _ _ (by omega)) | skip
  exact (L _).1 _ _ k33 (Nat.lt_succ_self _) (by omega)
set_option maxRecDepth 20000 in
/-- World.<init> -/
theorem w_111n {p : Nat} (gp : 126 ≤ p ∨ (1 < p ∧ p ≤ 70)) (hp : T p = (19, 4)) (hb1 : 31 ≤ bc) (hb2 : 940 ≤ bs) (hk : ∀ T' R' I', cWd T' R' p → (∀ k, k ≤ p → T' k = T k) → (∀ k j, k < p → R' k j = R k j) → (∀ k j, k ≤ p → I' k j = I k j) → cLd I' (p + 1) → I' (p + 1) 5 = 0 → K none (p + 32, T', R', I')) :
    yW l zSS D cy zFk z (d + 2) 111 bc bs K 0 0 0 [(0, yr (some p))] [] (p + 1, T, R, I) := by
  refine e_12 (f_111 (pc := 0) (e := (0, 12, 0, 0, 0, 0, 0, 1)) rfl) rfl ?_
  refine e_133 (f_111 (pc := 1) (e := (1, 133, 0, 0, 0, 1, 1044, 4)) rfl) zA rfl (Nat.succ_pos _) (Nat.le_of_ble_eq_true rfl) ?_
  -- land
  refine e_12 (f_111 (pc := 4) (e := (4, 12, 0, 0, 0, 0, 0, 5)) rfl) rfl ?_
  refine e_100 zA (f_111 (pc := 5) (e := (5, 100, 1, 15, 0, 7, 1045, 8)) rfl) (by omega) (by omega) ?_
  refine ck_new (N' := p + 2) rfl (fun T1 R1 I1 e1 e2 e3 => ?_)
  refine e_50 (f_111 (pc := 8) (e := (8, 50, 0, 0, 0, 0, 0, 9)) rfl) rfl ?_
  refine e_131 (f_111 (pc := 9) (e := (9, 131, 4, 1, 1, 9, 99999, 12)) rfl) zA (as := [yr (some (p + 1))]) (rest := [yr (some (p + 1)), yr (some p)]) rfl rfl rfl rfl (Nat.le_of_ble_eq_true rfl) (Nat.le_of_ble_eq_true rfl) ⟨_, _, rfl⟩ (mc := 11) (ms := 264) (by omega) (by omega) ?_
  refine w_4 (p := p + 1) (by rw [e1]; exact yNT_eq _ _ _ _) (by decide) (by decide) (fun T2 R2 I2 atL m2 => ?_)
  have eT2 : ∀ k, k ≤ p → T2 k = T k := fun k g => by rw [m2.1 k (by omega), e1, yNT_ne _ _ _ (by omega)]
  have eR2 : ∀ k j, k ≤ p → R2 k j = R k j := fun k j g => by rw [m2.2.1 k j (by omega), e2, yNR_ne _ _ (by omega)]
  have eI2 : ∀ k j, k ≤ p → I2 k j = I k j := fun k j g => by rw [m2.2.2 k j (by omega), e3, yNI_ne _ _ (by omega)]
  refine e_91 zA (f_111 (pc := 12) (e := (12, 91, 9, 0, 3, 10, 1046, 15)) rfl) rfl (show T2 p = (19, 4) by rw [eT2 p (Nat.le_refl _)]; exact hp) rfl rfl trivial ?_
  refine ck_ref (fun R3 h3 => ?_)
  -- state
  refine e_12 (f_111 (pc := 15) (e := (15, 12, 0, 0, 0, 0, 0, 16)) rfl) rfl ?_
  refine e_100 zA (f_111 (pc := 16) (e := (16, 100, 5, 14, 0, 16, 1047, 19)) rfl) (by omega) (by omega) ?_
  refine ck_new (N' := p + 14) rfl (fun T4 R4 I4 e1 e2 e3 => ?_)
  refine e_50 (f_111 (pc := 19) (e := (19, 50, 0, 0, 0, 0, 0, 20)) rfl) rfl ?_
  refine e_131 (f_111 (pc := 20) (e := (20, 131, 55, 1, 2, 18, 99999, 23)) rfl) zA (as := [yr (some (p + 13))]) (rest := [yr (some (p + 13)), yr (some p)]) rfl rfl rfl rfl (Nat.le_of_ble_eq_true rfl) (Nat.le_of_ble_eq_true rfl) ⟨_, _, rfl⟩ (mc := 12) (ms := 480) (by omega) (by omega) ?_
  refine w_55 (p := p + 13) (by rw [e1]; exact yNT_eq _ _ _ _) (by decide) (by decide) (fun T5 R5 I5 atS m5 => ?_)
  have eT5 : ∀ k, k < p + 13 → T5 k = T2 k := fun k g => by rw [m5.1 k (by omega), e1, yNT_ne _ _ _ (by omega)]
  have eR5 : ∀ k j, k < p + 13 → R5 k j = R3 k j := fun k j g => by rw [m5.2.1 k j (by omega), e2, yNR_ne _ _ (by omega)]
  have eI5 : ∀ k j, k < p + 13 → I5 k j = I2 k j := fun k j g => by rw [m5.2.2 k j (by omega), e3, yNI_ne _ _ (by omega)]
  refine e_91 zA (f_111 (pc := 23) (e := (23, 91, 9, 1, 3, 19, 1048, 26)) rfl) rfl (show T5 p = (19, 4) by rw [eT5 p (by omega), eT2 p (Nat.le_refl _)]; exact hp) rfl rfl trivial ?_
  refine ck_ref (fun R6 h6 => ?_)
  -- plan
  refine e_12 (f_111 (pc := 26) (e := (26, 12, 0, 0, 0, 0, 0, 27)) rfl) rfl ?_
  refine e_100 zA (f_111 (pc := 27) (e := (27, 100, 2, 2, 0, 23, 1049, 30)) rfl) (by omega) (by omega) ?_
  refine ck_new (N' := p + 27) rfl (fun T7 R7 I7 e1 e2 e3 => ?_)
  refine e_50 (f_111 (pc := 30) (e := (30, 50, 0, 0, 0, 0, 0, 31)) rfl) rfl ?_
  refine e_131 (f_111 (pc := 31) (e := (31, 131, 26, 1, 3, 25, 99999, 34)) rfl) zA (as := [yr (some (p + 26))]) (rest := [yr (some (p + 26)), yr (some p)]) rfl rfl rfl rfl (Nat.le_of_ble_eq_true rfl) (Nat.le_of_ble_eq_true rfl) ⟨_, _, rfl⟩ (mc := 1) (ms := 40) (by omega) (by omega) ?_
  refine w_26 (p := p + 26) (by rw [e1]; exact yNT_eq _ _ _ _) (by decide) (by decide) (fun T8 R8 I8 atP m8 => ?_)
  have eT8 : ∀ k, k < p + 26 → T8 k = T5 k := fun k g => by rw [m8.1 k (by omega), e1, yNT_ne _ _ _ (by omega)]
  have eR8 : ∀ k j, k < p + 26 → R8 k j = R6 k j := fun k j g => by rw [m8.2.1 k j (by omega), e2, yNR_ne _ _ (by omega)]
  have eI8 : ∀ k j, k < p + 26 → I8 k j = I5 k j := fun k j g => by rw [m8.2.2 k j (by omega), e3, yNI_ne _ _ (by omega)]
  refine e_91 zA (f_111 (pc := 34) (e := (34, 91, 9, 2, 3, 26, 1050, 37)) rfl) rfl (show T8 p = (19, 4) by rw [eT8 p (by omega), eT5 p (by omega), eT2 p (Nat.le_refl _)]; exact hp) rfl rfl trivial ?_
  refine ck_ref (fun R9 h9 => ?_)
  -- sentence
  refine e_12 (f_111 (pc := 37) (e := (37, 12, 0, 0, 0, 0, 0, 38)) rfl) rfl ?_
  refine e_100 zA (f_111 (pc := 38) (e := (38, 100, 4, 5, 0, 30, 1051, 41)) rfl) (by omega) (by omega) ?_
  refine ck_new (N' := p + 29) rfl (fun T10 R10 I10 e1 e2 e3 => ?_)
  refine e_50 (f_111 (pc := 41) (e := (41, 50, 0, 0, 0, 0, 0, 42)) rfl) rfl ?_
  refine e_131 (f_111 (pc := 42) (e := (42, 131, 45, 1, 4, 32, 99999, 45)) rfl) zA (as := [yr (some (p + 28))]) (rest := [yr (some (p + 28)), yr (some p)]) rfl rfl rfl rfl (Nat.le_of_ble_eq_true rfl) (Nat.le_of_ble_eq_true rfl) ⟨_, _, rfl⟩ (mc := 3) (ms := 120) (by omega) (by omega) ?_
  refine w_45 (p := p + 28) (by rw [e1]; exact yNT_eq _ _ _ _) (by decide) (by decide) (fun T11 R11 I11 atN m11 => ?_)
  have eT11 : ∀ k, k < p + 28 → T11 k = T8 k := fun k g => by rw [m11.1 k (by omega), e1, yNT_ne _ _ _ (by omega)]
  have eR11 : ∀ k j, k < p + 28 → R11 k j = R9 k j := fun k j g => by rw [m11.2.1 k j (by omega), e2, yNR_ne _ _ (by omega)]
  have eI11 : ∀ k j, k < p + 28 → I11 k j = I8 k j := fun k j g => by rw [m11.2.2 k j (by omega), e3, yNI_ne _ _ (by omega)]
  have tp : T11 p = (19, 4) := by rw [eT11 p (by omega), eT8 p (by omega), eT5 p (by omega), eT2 p (Nat.le_refl _)]; exact hp
  refine e_91 zA (f_111 (pc := 45) (e := (45, 91, 9, 3, 3, 33, 1052, 48)) rfl) rfl tp rfl rfl trivial ?_
  refine ck_ref (fun R12 h12 => ?_)
  -- what lies where
  have f12 : ∀ k j, k ≠ p → R12 k j = R11 k j := fun k j g => by rw [h12, yUR_ne _ _ (fun q => g q.1)]
  have f9 : ∀ k j, k ≠ p → R9 k j = R8 k j := fun k j g => by rw [h9, yUR_ne _ _ (fun q => g q.1)]
  have f6 : ∀ k j, k ≠ p → R6 k j = R5 k j := fun k j g => by rw [h6, yUR_ne _ _ (fun q => g q.1)]
  have f3 : ∀ k j, k ≠ p → R3 k j = R2 k j := fun k j g => by rw [h3, yUR_ne _ _ (fun q => g q.1)]
  have r0 : R12 p 0 = some (p + 1) := by rw [h12, yUR_ne _ _ (by omega), eR11 p 0 (by omega), h9, yUR_ne _ _ (by omega), eR8 p 0 (by omega), h6, yUR_ne _ _ (by omega), eR5 p 0 (by omega), h3, yUR_eq]
  have r1 : R12 p 1 = some (p + 13) := by rw [h12, yUR_ne _ _ (by omega), eR11 p 1 (by omega), h9, yUR_ne _ _ (by omega), eR8 p 1 (by omega), h6, yUR_eq]
  have r2 : R12 p 2 = some (p + 26) := by rw [h12, yUR_ne _ _ (by omega), eR11 p 2 (by omega), h9, yUR_eq]
  have r3 : R12 p 3 = some (p + 28) := by rw [h12, yUR_eq]
  have oR : ∀ k j, k < p → R12 k j = R k j := fun k j g => by
    rw [f12 k j (by omega), eR11 k j (by omega), f9 k j (by omega), eR8 k j (by omega), f6 k j (by omega), eR5 k j (by omega), f3 k j (by omega), eR2 k j (by omega)]
  have oT : ∀ k, k ≤ p → T11 k = T k := fun k g => by rw [eT11 k (by omega), eT8 k (by omega), eT5 k (by omega), eT2 k g]
  have oI : ∀ k j, k ≤ p → I11 k j = I k j := fun k j g => by rw [eI11 k j (by omega), eI8 k j (by omega), eI5 k j (by omega), eI2 k j g]
  have aL : yAtLand T11 R12 (p + 1) := yAtLand_cg atL (fun k _ _ => by rw [eT11 k (by omega), eT8 k (by omega), eT5 k (by omega)]) (fun j => by rw [f12 _ j (by omega), eR11 _ j (by omega), f9 _ j (by omega), eR8 _ j (by omega), f6 _ j (by omega), eR5 _ j (by omega), f3 _ j (by omega)])
  have aS : yAtState T11 R12 (p + 13) := yAtState_cg atS (fun k _ _ => by rw [eT11 k (by omega), eT8 k (by omega)]) (fun j => by rw [f12 _ j (by omega), eR11 _ j (by omega), f9 _ j (by omega), eR8 _ j (by omega), f6 _ j (by omega)])
  have aP : yAtPlan T11 R12 (p + 26) := yAtPlan_cg atP (fun k _ _ => by rw [eT11 k (by omega)]) (fun j => by rw [f12 _ j (by omega), eR11 _ j (by omega), f9 _ j (by omega)])
  have aN : yAtSentence T11 R12 (p + 28) := yAtSentence_cg atN (fun k _ _ => rfl) (fun j => by rw [f12 _ j (by omega)])
  have aW : yAtWorld T11 R12 p := by
    refine ⟨fun j hj => ?_, fun j hj => ?_⟩
    · have hj : j < 32 := Nat.le_of_ble_eq_true hj
      by_cases c0 : j < 1
      · rw [show j = 0 by omega]; exact tp
      · by_cases c1 : j < 13
        · have := aL.1 (j - 1) (Nat.ble_eq.mpr (by omega))
          rw [show p + 1 + (j - 1) = p + j by omega] at this
          rw [this]
          exact (by decide : ∀ i : Fin 12, yTLand i.1 = yTWorld (i.1 + 1)) ⟨j - 1, by omega⟩ |>.trans (by rw [show j - 1 + 1 = j by omega])
        · by_cases c2 : j < 26
          · have := aS.1 (j - 13) (Nat.ble_eq.mpr (by omega))
            rw [show p + 13 + (j - 13) = p + j by omega] at this
            rw [this]
            exact (by decide : ∀ i : Fin 13, yTState i.1 = yTWorld (i.1 + 13)) ⟨j - 13, by omega⟩ |>.trans (by rw [show j - 13 + 13 = j by omega])
          · by_cases c3 : j < 28
            · have := aP.1 (j - 26) (Nat.ble_eq.mpr (by omega))
              rw [show p + 26 + (j - 26) = p + j by omega] at this
              rw [this]
              exact (by decide : ∀ i : Fin 2, yTPlan i.1 = yTWorld (i.1 + 26)) ⟨j - 26, by omega⟩ |>.trans (by rw [show j - 26 + 26 = j by omega])
            · have := aN.1 (j - 28) (Nat.ble_eq.mpr (by omega))
              rw [show p + 28 + (j - 28) = p + j by omega] at this
              rw [this]
              exact (by decide : ∀ i : Fin 4, yTSentence i.1 = yTWorld (i.1 + 28)) ⟨j - 28, by omega⟩ |>.trans (by rw [show j - 28 + 28 = j by omega])
    · by_cases g : j < 4
      · rcases (show j = 0 ∨ j = 1 ∨ j = 2 ∨ j = 3 by omega) with rfl | rfl | rfl | rfl
        · exact r0
        · exact r1
        · exact r2
        · exact r3
      · exfalso
        unfold ySWorld at hj
        rw [List.getD, List.getElem?_eq_none (by simp; omega)] at hj
        exact absurd hj (by decide)
  -- clear, begin
  refine e_12 (f_111 (pc := 48) (e := (48, 12, 0, 0, 0, 0, 0, 49)) rfl) rfl ?_
  refine e_90r zA (f_111 (pc := 49) (e := (49, 90, 9, 0, 3, 10, 1046, 52)) rfl) rfl tp rfl rfl r0 ?_
  refine e_130 (f_111 (pc := 52) (e := (52, 130, 7, 0, 1, 37, 1053, 55)) rfl) zA (as := [yr (some (p + 1))]) (rest := []) rfl rfl rfl rfl (Nat.le_of_ble_eq_true rfl) (Nat.le_of_ble_eq_true rfl) ⟨_, _, _, rfl, show T11 (p + 1) = (10 + 1, 15) from aL.1 0 rfl⟩ (mc := 0) (ms := 0) (by omega) (by omega) ?_
  refine w_7n aL (by omega) (fun X fX lX => ?_)
  refine e_12 (f_111 (pc := 55) (e := (55, 12, 0, 0, 0, 0, 0, 56)) rfl) rfl ?_
  refine e_90r zA (f_111 (pc := 56) (e := (56, 90, 9, 1, 3, 19, 1048, 59)) rfl) rfl tp rfl rfl r1 ?_
  refine e_12 (f_111 (pc := 59) (e := (59, 12, 0, 0, 0, 0, 0, 60)) rfl) rfl ?_
  refine e_90r zA (f_111 (pc := 60) (e := (60, 90, 9, 0, 3, 10, 1046, 63)) rfl) rfl tp rfl rfl r0 ?_
  refine e_130 (f_111 (pc := 63) (e := (63, 130, 57, 0, 5, 40, 1054, 66)) rfl) zA (as := [yr (some (p + 13)), yr (some (p + 1))]) (rest := []) rfl rfl rfl rfl (Nat.le_of_ble_eq_true rfl) (Nat.le_of_ble_eq_true rfl) ⟨_, _, _, rfl, show T11 (p + 13) = (10 + 5, 14) from aS.1 0 rfl⟩ (mc := 0) (ms := 0) (by omega) (by omega) ?_
  refine w_57n aS (by omega) aL (by omega) (fun Y fY _ => ?_)
  refine e_122 (f_111 (pc := 66) (e := (66, 122, 0, 0, 0, 0, 0, 0)) rfl) (hk T11 R12 Y ⟨aW, aL, aS, aP, aN⟩ oT oR (fun k j g => by rw [fY k j (by omega), fX k j (by omega)]; exact oI k j g) ?_ (by rw [fY (p + 1) 5 (by omega)]; exact lX.2.2.2.2))
  unfold cLd
  rw [fY (p + 1) 0 (by omega), fY (p + 1) 1 (by omega)]
  exact ⟨lX.1, lX.2.1, lX.2.2.1, lX.2.2.2.1⟩
set_option maxRecDepth 20000 in
theorem w_30 {p : Nat} (hp : T p = (13, 12)) (hb1 : 1 ≤ bc) (hb2 : 940 ≤ bs) (hk : ∀ T' R' I', T' (p + 1) = (0, 940) → R' p 0 = some (p + 1) → cMk p T R I T' R' I' → (∀ k j, p < k → k < p + 2 → I' k j = 0) → K none (p + 2, T', R', I')) :
    yW l zSS D cy zFk z (d + 1) 30 bc bs K 0 0 0 [(0, yr (some p))] [] (p + 1, T, R, I) := by
  have m0 : cMk p T R I T R I := cMk_0
  have p0 : T p = (13, 12) := hp
  refine e_12 (f_30 (pc := 0) (e := (0, 12, 0, 0, 0, 0, 0, 1)) rfl) rfl ?_
  refine e_133 (f_30 (pc := 1) (e := (1, 133, 0, 0, 0, 3, 858, 4)) rfl) zA rfl (Nat.succ_pos _) (Nat.le_of_ble_eq_true rfl) ?_
  refine e_12 (f_30 (pc := 4) (e := (4, 12, 0, 0, 0, 0, 0, 5)) rfl) rfl ?_
  refine e_2 (f_30 (pc := 5) (e := (5, 2, 940, 0, 0, 0, 0, 8)) rfl) (v := 940) rfl ?_
  refine e_101 (f_30 (pc := 8) (e := (8, 101, 0, 0, 0, 0, 0, 10)) rfl) zA (n := 940) rfl (by decide) (by omega) (by omega) ?_
  refine e_91 zA (f_30 (pc := 10) (e := (10, 91, 3, 0, 3, 9, 859, 13)) rfl) rfl (show yNT T (p + 1) 0 940 p = (13, 12) from (yNT_ne _ _ _ (by omega)).trans p0) rfl rfl trivial ?_
  refine ck_put (N := p + 1) (N' := p + 2) rfl (fun T1 R1 I1 eT1 eR1 eI1 => ?_)
  have m1 := cMk_s m0 (by omega) eT1 eR1 eI1
  have p1 : T1 p = (13, 12) := by rw [eT1, yNT_ne _ _ _ (by omega)]; exact p0
  have zz : ∀ k j, p < k → k < p + 2 → I1 k j = 0 := by
    intro k j h1 h2
    rcases (show k = p + 1 by omega) with rfl
    · rw [eI1, yNI_eq]
  exact e_122 (f_30 (pc := 13) (e := (13, 122, 0, 0, 0, 0, 0, 0)) rfl) (hk _ _ _ (by rw [eT1, yNT_eq]) (by rw [eR1, yUR_eq]) m1 zz)
set_option maxRecDepth 20000 in
theorem w_107 {p : Nat} {q : Nat} (hp : T p = (18, 5)) (hb1 : 3 ≤ bc) (hb2 : 1700 ≤ bs) (hk : ∀ T' R' I', T' (p + 1) = (1, 800) → T' (p + 2) = (1, 800) → T' (p + 3) = (1, 100) → R' p 1 = some (p + 1) → R' p 2 = some (p + 2) → R' p 3 = some (p + 3) → R' p 0 = some q → cMk p T R I T' R' I' → (∀ k j, p < k → k < p + 4 → I' k j = 0) → K none (p + 4, T', R', I')) :
    yW l zSS D cy zFk z (d + 1) 107 bc bs K 0 0 0 [(0, yr (some p)), (1, yr (some q))] [] (p + 1, T, R, I) := by
  have m0 : cMk p T R I T R I := cMk_0
  have p0 : T p = (18, 5) := hp
  refine e_12 (f_107 (pc := 0) (e := (0, 12, 0, 0, 0, 0, 0, 1)) rfl) rfl ?_
  refine e_133 (f_107 (pc := 1) (e := (1, 133, 0, 0, 0, 3, 1032, 4)) rfl) zA rfl (Nat.succ_pos _) (Nat.le_of_ble_eq_true rfl) ?_
  refine e_12 (f_107 (pc := 4) (e := (4, 12, 0, 0, 0, 0, 0, 5)) rfl) rfl ?_
  refine e_2 (f_107 (pc := 5) (e := (5, 2, 800, 0, 0, 0, 0, 8)) rfl) (v := 800) rfl ?_
  refine e_101 (f_107 (pc := 8) (e := (8, 101, 1, 0, 0, 0, 0, 10)) rfl) zA (n := 800) rfl (by decide) (by omega) (by omega) ?_
  refine e_91 zA (f_107 (pc := 10) (e := (10, 91, 8, 1, 3, 9, 1033, 13)) rfl) rfl (show yNT T (p + 1) 1 800 p = (18, 5) from (yNT_ne _ _ _ (by omega)).trans p0) rfl rfl trivial ?_
  refine ck_put (N := p + 1) (N' := p + 2) rfl (fun T1 R1 I1 eT1 eR1 eI1 => ?_)
  have m1 := cMk_s m0 (by omega) eT1 eR1 eI1
  have p1 : T1 p = (18, 5) := by rw [eT1, yNT_ne _ _ _ (by omega)]; exact p0
  refine e_12 (f_107 (pc := 13) (e := (13, 12, 0, 0, 0, 0, 0, 14)) rfl) rfl ?_
  refine e_2 (f_107 (pc := 14) (e := (14, 2, 800, 0, 0, 0, 0, 17)) rfl) (v := 800) rfl ?_
  refine e_101 (f_107 (pc := 17) (e := (17, 101, 1, 0, 0, 0, 0, 19)) rfl) zA (n := 800) rfl (by decide) (by omega) (by omega) ?_
  refine e_91 zA (f_107 (pc := 19) (e := (19, 91, 8, 2, 3, 15, 1034, 22)) rfl) rfl (show yNT T1 (p + 2) 1 800 p = (18, 5) from (yNT_ne _ _ _ (by omega)).trans p1) rfl rfl trivial ?_
  refine ck_put (N := p + 2) (N' := p + 3) rfl (fun T2 R2 I2 eT2 eR2 eI2 => ?_)
  have m2 := cMk_s m1 (by omega) eT2 eR2 eI2
  have p2 : T2 p = (18, 5) := by rw [eT2, yNT_ne _ _ _ (by omega)]; exact p1
  refine e_12 (f_107 (pc := 22) (e := (22, 12, 0, 0, 0, 0, 0, 23)) rfl) rfl ?_
  refine e_1 (f_107 (pc := 23) (e := (23, 1, 100, 0, 0, 0, 0, 25)) rfl) (v := 100) rfl ?_
  refine e_101 (f_107 (pc := 25) (e := (25, 101, 1, 0, 0, 0, 0, 27)) rfl) zA (n := 100) rfl (by decide) (by omega) (by omega) ?_
  refine e_91 zA (f_107 (pc := 27) (e := (27, 91, 8, 3, 3, 18, 1035, 30)) rfl) rfl (show yNT T2 (p + 3) 1 100 p = (18, 5) from (yNT_ne _ _ _ (by omega)).trans p2) rfl rfl trivial ?_
  refine ck_put (N := p + 3) (N' := p + 4) rfl (fun T3 R3 I3 eT3 eR3 eI3 => ?_)
  have m3 := cMk_s m2 (by omega) eT3 eR3 eI3
  have p3 : T3 p = (18, 5) := by rw [eT3, yNT_ne _ _ _ (by omega)]; exact p2
  refine e_12 (f_107 (pc := 30) (e := (30, 12, 0, 0, 0, 0, 0, 31)) rfl) rfl ?_
  refine e_12 (f_107 (pc := 31) (e := (31, 12, 1, 0, 0, 0, 0, 32)) rfl) rfl ?_
  refine e_91 zA (f_107 (pc := 32) (e := (32, 91, 8, 0, 3, 21, 1036, 35)) rfl) rfl (show T3 p = (18, 5) from p3) rfl rfl trivial ?_
  refine ck_ref (fun R3' eR' => ?_)
  have m3' : cMk p T R I T3 R3' I3 := ⟨m3.1, fun k j h => by rw [eR', yUR_ne _ _ (by omega)]; exact m3.2.1 k j h, m3.2.2⟩
  have zz : ∀ k j, p < k → k < p + 4 → I3 k j = 0 := by
    intro k j h1 h2
    rcases (show k = p + 1 ∨ k = p + 2 ∨ k = p + 3 by omega) with rfl | rfl | rfl
    · rw [eI3, yNI_ne _ _ (by omega), eI2, yNI_ne _ _ (by omega), eI1, yNI_eq]
    · rw [eI3, yNI_ne _ _ (by omega), eI2, yNI_eq]
    · rw [eI3, yNI_eq]
  exact e_122 (f_107 (pc := 35) (e := (35, 122, 0, 0, 0, 0, 0, 0)) rfl) (hk _ _ _ (by rw [eT3, yNT_ne _ _ _ (by omega), eT2, yNT_ne _ _ _ (by omega), eT1, yNT_eq]) (by rw [eT3, yNT_ne _ _ _ (by omega), eT2, yNT_eq]) (by rw [eT3, yNT_eq]) (by rw [eR', yUR_ne _ _ (by omega), eR3, yUR_ne _ _ (by omega), yNR_ne _ _ (by omega), eR2, yUR_ne _ _ (by omega), yNR_ne _ _ (by omega), eR1, yUR_eq]) (by rw [eR', yUR_ne _ _ (by omega), eR3, yUR_ne _ _ (by omega), yNR_ne _ _ (by omega), eR2, yUR_eq]) (by rw [eR', yUR_ne _ _ (by omega), eR3, yUR_eq]) (by rw [eR', yUR_eq]) m3' zz)
set_option maxRecDepth 20000 in
theorem w_0 {p : Nat} (hp : T p = (10, 2)) (hb1 : 1 ≤ bc) (hb2 : 8 ≤ bs) (hk : ∀ T' R' I', T' (p + 1) = (4, 8) → R' p 0 = some (p + 1) → (∀ j, R' (p + 1) j = none) → cMk p T R I T' R' I' → (∀ k j, p < k → k < p + 2 → I' k j = 0) → K none (p + 2, T', R', I')) :
    yW l zSS D cy zFk z (d + 1) 0 bc bs K 0 0 0 [(0, yr (some p))] [] (p + 1, T, R, I) := by
  have m0 : cMk p T R I T R I := cMk_0
  have p0 : T p = (10, 2) := hp
  refine e_12 (f_0 (pc := 0) (e := (0, 12, 0, 0, 0, 0, 0, 1)) rfl) rfl ?_
  refine e_133 (f_0 (pc := 1) (e := (1, 133, 0, 0, 0, 3, 791, 4)) rfl) zA rfl (Nat.succ_pos _) (Nat.le_of_ble_eq_true rfl) ?_
  refine e_12 (f_0 (pc := 4) (e := (4, 12, 0, 0, 0, 0, 0, 5)) rfl) rfl ?_
  refine e_1 (f_0 (pc := 5) (e := (5, 1, 8, 0, 0, 0, 0, 7)) rfl) (v := 8) rfl ?_
  refine e_102 (f_0 (pc := 7) (e := (7, 102, 4, 0, 0, 11, 792, 10)) rfl) (n := 8) rfl (by decide) (by omega) (by omega) ?_
  refine e_91 zA (f_0 (pc := 10) (e := (10, 91, 0, 0, 3, 13, 793, 13)) rfl) rfl (show yNT T (p + 1) 4 8 p = (10, 2) from (yNT_ne _ _ _ (by omega)).trans p0) rfl rfl trivial ?_
  refine ck_put (N := p + 1) (N' := p + 2) rfl (fun T1 R1 I1 eT1 eR1 eI1 => ?_)
  have m1 := cMk_s m0 (by omega) eT1 eR1 eI1
  have p1 : T1 p = (10, 2) := by rw [eT1, yNT_ne _ _ _ (by omega)]; exact p0
  have zz : ∀ k j, p < k → k < p + 2 → I1 k j = 0 := by
    intro k j h1 h2
    rcases (show k = p + 1 by omega) with rfl
    · rw [eI1, yNI_eq]
  exact e_122 (f_0 (pc := 13) (e := (13, 122, 0, 0, 0, 0, 0, 0)) rfl) (hk _ _ _ (by rw [eT1, yNT_eq]) (by rw [eR1, yUR_eq]) (fun j => by rw [eR1, yUR_ne _ _ (by omega), yNR_eq]) m1 zz)
set_option maxRecDepth 20000 in
theorem w_69 {p : Nat} (hp : T p = (16, 14)) (hb1 : 9 ≤ bc) (hb2 : 192 ≤ bs) (hk : ∀ T' R' I', T' (p + 1) = (1, 3) → T' (p + 2) = (1, 3) → T' (p + 3) = (1, 3) → T' (p + 4) = (1, 3) → T' (p + 5) = (1, 144) → T' (p + 6) = (1, 36) → T' (p + 7) = (0, 0) → T' (p + 8) = (1, 0) → T' (p + 9) = (1, 0) → R' p 3 = some (p + 1) → R' p 4 = some (p + 2) → R' p 5 = some (p + 3) → R' p 6 = some (p + 4) → R' p 7 = some (p + 5) → R' p 8 = some (p + 6) → R' p 9 = some (p + 7) → R' p 10 = some (p + 8) → R' p 12 = some (p + 9) → cMk p T R I T' R' I' → (∀ k j, p < k → k < p + 10 → I' k j = 0) → K none (p + 10, T', R', I')) :
    yW l zSS D cy zFk z (d + 1) 69 bc bs K 0 0 0 [(0, yr (some p))] [] (p + 1, T, R, I) := by
  have m0 : cMk p T R I T R I := cMk_0
  have p0 : T p = (16, 14) := hp
  refine e_12 (f_69 (pc := 0) (e := (0, 12, 0, 0, 0, 0, 0, 1)) rfl) rfl ?_
  refine e_133 (f_69 (pc := 1) (e := (1, 133, 0, 0, 0, 3, 938, 4)) rfl) zA rfl (Nat.succ_pos _) (Nat.le_of_ble_eq_true rfl) ?_
  refine e_12 (f_69 (pc := 4) (e := (4, 12, 0, 0, 0, 0, 0, 5)) rfl) rfl ?_
  refine e_0 (f_69 (pc := 5) (e := (5, 0, 3, 0, 0, 0, 0, 6)) rfl) (v := 3) rfl ?_
  refine e_101 (f_69 (pc := 6) (e := (6, 101, 1, 0, 0, 0, 0, 8)) rfl) zA (n := 3) rfl (by decide) (by omega) (by omega) ?_
  refine e_91 zA (f_69 (pc := 8) (e := (8, 91, 6, 3, 3, 11, 939, 11)) rfl) rfl (show yNT T (p + 1) 1 3 p = (16, 14) from (yNT_ne _ _ _ (by omega)).trans p0) rfl rfl trivial ?_
  refine ck_put (N := p + 1) (N' := p + 2) rfl (fun T1 R1 I1 eT1 eR1 eI1 => ?_)
  have m1 := cMk_s m0 (by omega) eT1 eR1 eI1
  have p1 : T1 p = (16, 14) := by rw [eT1, yNT_ne _ _ _ (by omega)]; exact p0
  refine e_12 (f_69 (pc := 11) (e := (11, 12, 0, 0, 0, 0, 0, 12)) rfl) rfl ?_
  refine e_0 (f_69 (pc := 12) (e := (12, 0, 3, 0, 0, 0, 0, 13)) rfl) (v := 3) rfl ?_
  refine e_101 (f_69 (pc := 13) (e := (13, 101, 1, 0, 0, 0, 0, 15)) rfl) zA (n := 3) rfl (by decide) (by omega) (by omega) ?_
  refine e_91 zA (f_69 (pc := 15) (e := (15, 91, 6, 4, 3, 15, 940, 18)) rfl) rfl (show yNT T1 (p + 2) 1 3 p = (16, 14) from (yNT_ne _ _ _ (by omega)).trans p1) rfl rfl trivial ?_
  refine ck_put (N := p + 2) (N' := p + 3) rfl (fun T2 R2 I2 eT2 eR2 eI2 => ?_)
  have m2 := cMk_s m1 (by omega) eT2 eR2 eI2
  have p2 : T2 p = (16, 14) := by rw [eT2, yNT_ne _ _ _ (by omega)]; exact p1
  refine e_12 (f_69 (pc := 18) (e := (18, 12, 0, 0, 0, 0, 0, 19)) rfl) rfl ?_
  refine e_0 (f_69 (pc := 19) (e := (19, 0, 3, 0, 0, 0, 0, 20)) rfl) (v := 3) rfl ?_
  refine e_101 (f_69 (pc := 20) (e := (20, 101, 1, 0, 0, 0, 0, 22)) rfl) zA (n := 3) rfl (by decide) (by omega) (by omega) ?_
  refine e_91 zA (f_69 (pc := 22) (e := (22, 91, 6, 5, 3, 18, 941, 25)) rfl) rfl (show yNT T2 (p + 3) 1 3 p = (16, 14) from (yNT_ne _ _ _ (by omega)).trans p2) rfl rfl trivial ?_
  refine ck_put (N := p + 3) (N' := p + 4) rfl (fun T3 R3 I3 eT3 eR3 eI3 => ?_)
  have m3 := cMk_s m2 (by omega) eT3 eR3 eI3
  have p3 : T3 p = (16, 14) := by rw [eT3, yNT_ne _ _ _ (by omega)]; exact p2
  refine e_12 (f_69 (pc := 25) (e := (25, 12, 0, 0, 0, 0, 0, 26)) rfl) rfl ?_
  refine e_0 (f_69 (pc := 26) (e := (26, 0, 3, 0, 0, 0, 0, 27)) rfl) (v := 3) rfl ?_
  refine e_101 (f_69 (pc := 27) (e := (27, 101, 1, 0, 0, 0, 0, 29)) rfl) zA (n := 3) rfl (by decide) (by omega) (by omega) ?_
  refine e_91 zA (f_69 (pc := 29) (e := (29, 91, 6, 6, 3, 21, 942, 32)) rfl) rfl (show yNT T3 (p + 4) 1 3 p = (16, 14) from (yNT_ne _ _ _ (by omega)).trans p3) rfl rfl trivial ?_
  refine ck_put (N := p + 4) (N' := p + 5) rfl (fun T4 R4 I4 eT4 eR4 eI4 => ?_)
  have m4 := cMk_s m3 (by omega) eT4 eR4 eI4
  have p4 : T4 p = (16, 14) := by rw [eT4, yNT_ne _ _ _ (by omega)]; exact p3
  refine e_12 (f_69 (pc := 32) (e := (32, 12, 0, 0, 0, 0, 0, 33)) rfl) rfl ?_
  refine e_2 (f_69 (pc := 33) (e := (33, 2, 144, 0, 0, 0, 0, 36)) rfl) (v := 144) rfl ?_
  refine e_101 (f_69 (pc := 36) (e := (36, 101, 1, 0, 0, 0, 0, 38)) rfl) zA (n := 144) rfl (by decide) (by omega) (by omega) ?_
  refine e_91 zA (f_69 (pc := 38) (e := (38, 91, 6, 7, 3, 24, 943, 41)) rfl) rfl (show yNT T4 (p + 5) 1 144 p = (16, 14) from (yNT_ne _ _ _ (by omega)).trans p4) rfl rfl trivial ?_
  refine ck_put (N := p + 5) (N' := p + 6) rfl (fun T5 R5 I5 eT5 eR5 eI5 => ?_)
  have m5 := cMk_s m4 (by omega) eT5 eR5 eI5
  have p5 : T5 p = (16, 14) := by rw [eT5, yNT_ne _ _ _ (by omega)]; exact p4
  refine e_12 (f_69 (pc := 41) (e := (41, 12, 0, 0, 0, 0, 0, 42)) rfl) rfl ?_
  refine e_1 (f_69 (pc := 42) (e := (42, 1, 36, 0, 0, 0, 0, 44)) rfl) (v := 36) rfl ?_
  refine e_101 (f_69 (pc := 44) (e := (44, 101, 1, 0, 0, 0, 0, 46)) rfl) zA (n := 36) rfl (by decide) (by omega) (by omega) ?_
  refine e_91 zA (f_69 (pc := 46) (e := (46, 91, 6, 8, 3, 27, 944, 49)) rfl) rfl (show yNT T5 (p + 6) 1 36 p = (16, 14) from (yNT_ne _ _ _ (by omega)).trans p5) rfl rfl trivial ?_
  refine ck_put (N := p + 6) (N' := p + 7) rfl (fun T6 R6 I6 eT6 eR6 eI6 => ?_)
  have m6 := cMk_s m5 (by omega) eT6 eR6 eI6
  have p6 : T6 p = (16, 14) := by rw [eT6, yNT_ne _ _ _ (by omega)]; exact p5
  refine e_12 (f_69 (pc := 49) (e := (49, 12, 0, 0, 0, 0, 0, 50)) rfl) rfl ?_
  refine e_0 (f_69 (pc := 50) (e := (50, 0, 0, 0, 0, 0, 0, 51)) rfl) (v := 0) rfl ?_
  refine e_101 (f_69 (pc := 51) (e := (51, 101, 0, 0, 0, 0, 0, 53)) rfl) zA (n := 0) rfl (by decide) (by omega) (by omega) ?_
  refine e_91 zA (f_69 (pc := 53) (e := (53, 91, 6, 9, 3, 30, 945, 56)) rfl) rfl (show yNT T6 (p + 7) 0 0 p = (16, 14) from (yNT_ne _ _ _ (by omega)).trans p6) rfl rfl trivial ?_
  refine ck_put (N := p + 7) (N' := p + 8) rfl (fun T7 R7 I7 eT7 eR7 eI7 => ?_)
  have m7 := cMk_s m6 (by omega) eT7 eR7 eI7
  have p7 : T7 p = (16, 14) := by rw [eT7, yNT_ne _ _ _ (by omega)]; exact p6
  refine e_12 (f_69 (pc := 56) (e := (56, 12, 0, 0, 0, 0, 0, 57)) rfl) rfl ?_
  refine e_0 (f_69 (pc := 57) (e := (57, 0, 0, 0, 0, 0, 0, 58)) rfl) (v := 0) rfl ?_
  refine e_101 (f_69 (pc := 58) (e := (58, 101, 1, 0, 0, 0, 0, 60)) rfl) zA (n := 0) rfl (by decide) (by omega) (by omega) ?_
  refine e_91 zA (f_69 (pc := 60) (e := (60, 91, 6, 10, 3, 34, 946, 63)) rfl) rfl (show yNT T7 (p + 8) 1 0 p = (16, 14) from (yNT_ne _ _ _ (by omega)).trans p7) rfl rfl trivial ?_
  refine ck_put (N := p + 8) (N' := p + 9) rfl (fun T8 R8 I8 eT8 eR8 eI8 => ?_)
  have m8 := cMk_s m7 (by omega) eT8 eR8 eI8
  have p8 : T8 p = (16, 14) := by rw [eT8, yNT_ne _ _ _ (by omega)]; exact p7
  refine e_12 (f_69 (pc := 63) (e := (63, 12, 0, 0, 0, 0, 0, 64)) rfl) rfl ?_
  refine e_0 (f_69 (pc := 64) (e := (64, 0, 0, 0, 0, 0, 0, 65)) rfl) (v := 0) rfl ?_
  refine e_101 (f_69 (pc := 65) (e := (65, 101, 1, 0, 0, 0, 0, 67)) rfl) zA (n := 0) rfl (by decide) (by omega) (by omega) ?_
  refine e_91 zA (f_69 (pc := 67) (e := (67, 91, 6, 12, 3, 37, 947, 70)) rfl) rfl (show yNT T8 (p + 9) 1 0 p = (16, 14) from (yNT_ne _ _ _ (by omega)).trans p8) rfl rfl trivial ?_
  refine ck_put (N := p + 9) (N' := p + 10) rfl (fun T9 R9 I9 eT9 eR9 eI9 => ?_)
  have m9 := cMk_s m8 (by omega) eT9 eR9 eI9
  have p9 : T9 p = (16, 14) := by rw [eT9, yNT_ne _ _ _ (by omega)]; exact p8
  have zz : ∀ k j, p < k → k < p + 10 → I9 k j = 0 := by
    intro k j h1 h2
    rcases (show k = p + 1 ∨ k = p + 2 ∨ k = p + 3 ∨ k = p + 4 ∨ k = p + 5 ∨ k = p + 6 ∨ k = p + 7 ∨ k = p + 8 ∨ k = p + 9 by omega) with rfl | rfl | rfl | rfl | rfl | rfl | rfl | rfl | rfl
    · rw [eI9, yNI_ne _ _ (by omega), eI8, yNI_ne _ _ (by omega), eI7, yNI_ne _ _ (by omega), eI6, yNI_ne _ _ (by omega), eI5, yNI_ne _ _ (by omega), eI4, yNI_ne _ _ (by omega), eI3, yNI_ne _ _ (by omega), eI2, yNI_ne _ _ (by omega), eI1, yNI_eq]
    · rw [eI9, yNI_ne _ _ (by omega), eI8, yNI_ne _ _ (by omega), eI7, yNI_ne _ _ (by omega), eI6, yNI_ne _ _ (by omega), eI5, yNI_ne _ _ (by omega), eI4, yNI_ne _ _ (by omega), eI3, yNI_ne _ _ (by omega), eI2, yNI_eq]
    · rw [eI9, yNI_ne _ _ (by omega), eI8, yNI_ne _ _ (by omega), eI7, yNI_ne _ _ (by omega), eI6, yNI_ne _ _ (by omega), eI5, yNI_ne _ _ (by omega), eI4, yNI_ne _ _ (by omega), eI3, yNI_eq]
    · rw [eI9, yNI_ne _ _ (by omega), eI8, yNI_ne _ _ (by omega), eI7, yNI_ne _ _ (by omega), eI6, yNI_ne _ _ (by omega), eI5, yNI_ne _ _ (by omega), eI4, yNI_eq]
    · rw [eI9, yNI_ne _ _ (by omega), eI8, yNI_ne _ _ (by omega), eI7, yNI_ne _ _ (by omega), eI6, yNI_ne _ _ (by omega), eI5, yNI_eq]
    · rw [eI9, yNI_ne _ _ (by omega), eI8, yNI_ne _ _ (by omega), eI7, yNI_ne _ _ (by omega), eI6, yNI_eq]
    · rw [eI9, yNI_ne _ _ (by omega), eI8, yNI_ne _ _ (by omega), eI7, yNI_eq]
    · rw [eI9, yNI_ne _ _ (by omega), eI8, yNI_eq]
    · rw [eI9, yNI_eq]
  exact e_122 (f_69 (pc := 70) (e := (70, 122, 0, 0, 0, 0, 0, 0)) rfl) (hk _ _ _ (by rw [eT9, yNT_ne _ _ _ (by omega), eT8, yNT_ne _ _ _ (by omega), eT7, yNT_ne _ _ _ (by omega), eT6, yNT_ne _ _ _ (by omega), eT5, yNT_ne _ _ _ (by omega), eT4, yNT_ne _ _ _ (by omega), eT3, yNT_ne _ _ _ (by omega), eT2, yNT_ne _ _ _ (by omega), eT1, yNT_eq]) (by rw [eT9, yNT_ne _ _ _ (by omega), eT8, yNT_ne _ _ _ (by omega), eT7, yNT_ne _ _ _ (by omega), eT6, yNT_ne _ _ _ (by omega), eT5, yNT_ne _ _ _ (by omega), eT4, yNT_ne _ _ _ (by omega), eT3, yNT_ne _ _ _ (by omega), eT2, yNT_eq]) (by rw [eT9, yNT_ne _ _ _ (by omega), eT8, yNT_ne _ _ _ (by omega), eT7, yNT_ne _ _ _ (by omega), eT6, yNT_ne _ _ _ (by omega), eT5, yNT_ne _ _ _ (by omega), eT4, yNT_ne _ _ _ (by omega), eT3, yNT_eq]) (by rw [eT9, yNT_ne _ _ _ (by omega), eT8, yNT_ne _ _ _ (by omega), eT7, yNT_ne _ _ _ (by omega), eT6, yNT_ne _ _ _ (by omega), eT5, yNT_ne _ _ _ (by omega), eT4, yNT_eq]) (by rw [eT9, yNT_ne _ _ _ (by omega), eT8, yNT_ne _ _ _ (by omega), eT7, yNT_ne _ _ _ (by omega), eT6, yNT_ne _ _ _ (by omega), eT5, yNT_eq]) (by rw [eT9, yNT_ne _ _ _ (by omega), eT8, yNT_ne _ _ _ (by omega), eT7, yNT_ne _ _ _ (by omega), eT6, yNT_eq]) (by rw [eT9, yNT_ne _ _ _ (by omega), eT8, yNT_ne _ _ _ (by omega), eT7, yNT_eq]) (by rw [eT9, yNT_ne _ _ _ (by omega), eT8, yNT_eq]) (by rw [eT9, yNT_eq]) (by rw [eR9, yUR_ne _ _ (by omega), yNR_ne _ _ (by omega), eR8, yUR_ne _ _ (by omega), yNR_ne _ _ (by omega), eR7, yUR_ne _ _ (by omega), yNR_ne _ _ (by omega), eR6, yUR_ne _ _ (by omega), yNR_ne _ _ (by omega), eR5, yUR_ne _ _ (by omega), yNR_ne _ _ (by omega), eR4, yUR_ne _ _ (by omega), yNR_ne _ _ (by omega), eR3, yUR_ne _ _ (by omega), yNR_ne _ _ (by omega), eR2, yUR_ne _ _ (by omega), yNR_ne _ _ (by omega), eR1, yUR_eq]) (by rw [eR9, yUR_ne _ _ (by omega), yNR_ne _ _ (by omega), eR8, yUR_ne _ _ (by omega), yNR_ne _ _ (by omega), eR7, yUR_ne _ _ (by omega), yNR_ne _ _ (by omega), eR6, yUR_ne _ _ (by omega), yNR_ne _ _ (by omega), eR5, yUR_ne _ _ (by omega), yNR_ne _ _ (by omega), eR4, yUR_ne _ _ (by omega), yNR_ne _ _ (by omega), eR3, yUR_ne _ _ (by omega), yNR_ne _ _ (by omega), eR2, yUR_eq]) (by rw [eR9, yUR_ne _ _ (by omega), yNR_ne _ _ (by omega), eR8, yUR_ne _ _ (by omega), yNR_ne _ _ (by omega), eR7, yUR_ne _ _ (by omega), yNR_ne _ _ (by omega), eR6, yUR_ne _ _ (by omega), yNR_ne _ _ (by omega), eR5, yUR_ne _ _ (by omega), yNR_ne _ _ (by omega), eR4, yUR_ne _ _ (by omega), yNR_ne _ _ (by omega), eR3, yUR_eq]) (by rw [eR9, yUR_ne _ _ (by omega), yNR_ne _ _ (by omega), eR8, yUR_ne _ _ (by omega), yNR_ne _ _ (by omega), eR7, yUR_ne _ _ (by omega), yNR_ne _ _ (by omega), eR6, yUR_ne _ _ (by omega), yNR_ne _ _ (by omega), eR5, yUR_ne _ _ (by omega), yNR_ne _ _ (by omega), eR4, yUR_eq]) (by rw [eR9, yUR_ne _ _ (by omega), yNR_ne _ _ (by omega), eR8, yUR_ne _ _ (by omega), yNR_ne _ _ (by omega), eR7, yUR_ne _ _ (by omega), yNR_ne _ _ (by omega), eR6, yUR_ne _ _ (by omega), yNR_ne _ _ (by omega), eR5, yUR_eq]) (by rw [eR9, yUR_ne _ _ (by omega), yNR_ne _ _ (by omega), eR8, yUR_ne _ _ (by omega), yNR_ne _ _ (by omega), eR7, yUR_ne _ _ (by omega), yNR_ne _ _ (by omega), eR6, yUR_eq]) (by rw [eR9, yUR_ne _ _ (by omega), yNR_ne _ _ (by omega), eR8, yUR_ne _ _ (by omega), yNR_ne _ _ (by omega), eR7, yUR_eq]) (by rw [eR9, yUR_ne _ _ (by omega), yNR_ne _ _ (by omega), eR8, yUR_eq]) (by rw [eR9, yUR_eq]) m9 zz)
set_option maxRecDepth 40000 in
theorem w_154 (hp : T 102 = (21, 57)) (hb1 : 23 ≤ bc) (hb2 : 112093 ≤ bs) (hk : ∀ T' R' I', T' 103 = (0, 940) → T' 104 = (1, 1188) → T' 105 = (1, 458) → T' 106 = (1, 135) → T' 107 = (2, 16) → T' 108 = (2, 24) → T' 109 = (1, 800) → T' 110 = (1, 100) → T' 111 = (1, 8) → T' 112 = (1, 8) → T' 113 = (1, 3744) → T' 114 = (1, 468) → T' 115 = (1, 50653) → T' 116 = (1, 50653) → T' 117 = (1, 3) → T' 118 = (1, 400) → T' 119 = (1, 8) → T' 120 = (1, 3) → T' 121 = (1, 45) → T' 122 = (3, 45) → T' 123 = (1, 2376) → T' 124 = (2, 16) → T' 125 = (3, 2) → R' 102 1 = some 103 → R' 102 6 = some 104 → R' 102 7 = some 105 → R' 102 8 = some 106 → R' 102 9 = some 107 → R' 102 10 = some 108 → R' 102 24 = some 109 → R' 102 25 = some 110 → R' 102 26 = some 111 → R' 102 27 = some 112 → R' 102 33 = some 113 → R' 102 34 = some 114 → R' 102 36 = some 115 → R' 102 37 = some 116 → R' 102 38 = some 117 → R' 102 39 = some 118 → R' 102 43 = some 119 → R' 102 45 = some 120 → R' 102 47 = some 121 → R' 102 53 = some 122 → R' 102 54 = some 123 → R' 102 55 = some 124 → R' 102 56 = some 125 → cMk 102 T R I T' R' I' → (∀ k j, 102 < k → k < 126 → k ≠ 108 → I' k j = 0) → (∀ i, i < 24 → I' 108 i = rCd i) → K none (126, T', R', I')) :
    yW l zSS D cy zFk z (d + 1) 154 bc bs K 0 0 0 [(0, yr (some 102))] [] (103, T, R, I) := by
  have m0 : cMk 102 T R I T R I := cMk_0
  have p0 : T 102 = (21, 57) := hp
  refine e_12 (f_154 (pc := 0) (e := (0, 12, 0, 0, 0, 0, 0, 1)) rfl) rfl ?_
  refine e_133 (f_154 (pc := 1) (e := (1, 133, 0, 0, 0, 27, 1157, 4)) rfl) zA rfl (Nat.succ_pos _) (Nat.le_of_ble_eq_true rfl) ?_
  refine e_12 (f_154 (pc := 4) (e := (4, 12, 0, 0, 0, 0, 0, 5)) rfl) rfl ?_
  refine e_2 (f_154 (pc := 5) (e := (5, 2, 940, 0, 0, 0, 0, 8)) rfl) (v := 940) rfl ?_
  refine e_101 (f_154 (pc := 8) (e := (8, 101, 0, 0, 0, 0, 0, 10)) rfl) zA (n := 940) rfl (by decide) (by omega) (by omega) ?_
  refine e_91 zA (f_154 (pc := 10) (e := (10, 91, 11, 1, 3, 14, 1158, 13)) rfl) rfl (show yNT T (103) 0 940 102 = (21, 57) from (yNT_ne _ _ _ (by omega)).trans p0) rfl rfl trivial ?_
  refine ck_put (N := 103) (N' := 104) rfl (fun T1 R1 I1 eT1 eR1 eI1 => ?_)
  have m1 := cMk_s m0 (by omega) eT1 eR1 eI1
  have p1 : T1 102 = (21, 57) := by rw [eT1, yNT_ne _ _ _ (by omega)]; exact p0
  refine e_12 (f_154 (pc := 13) (e := (13, 12, 0, 0, 0, 0, 0, 14)) rfl) rfl ?_
  refine e_2 (f_154 (pc := 14) (e := (14, 2, 1188, 0, 0, 0, 0, 17)) rfl) (v := 1188) rfl ?_
  refine e_101 (f_154 (pc := 17) (e := (17, 101, 1, 0, 0, 0, 0, 19)) rfl) zA (n := 1188) rfl (by decide) (by omega) (by omega) ?_
  refine e_91 zA (f_154 (pc := 19) (e := (19, 91, 11, 6, 3, 33, 1159, 22)) rfl) rfl (show yNT T1 (104) 1 1188 102 = (21, 57) from (yNT_ne _ _ _ (by omega)).trans p1) rfl rfl trivial ?_
  refine ck_put (N := 104) (N' := 105) rfl (fun T2 R2 I2 eT2 eR2 eI2 => ?_)
  have m2 := cMk_s m1 (by omega) eT2 eR2 eI2
  have p2 : T2 102 = (21, 57) := by rw [eT2, yNT_ne _ _ _ (by omega)]; exact p1
  refine e_12 (f_154 (pc := 22) (e := (22, 12, 0, 0, 0, 0, 0, 23)) rfl) rfl ?_
  refine e_2 (f_154 (pc := 23) (e := (23, 2, 458, 0, 0, 0, 0, 26)) rfl) (v := 458) rfl ?_
  refine e_101 (f_154 (pc := 26) (e := (26, 101, 1, 0, 0, 0, 0, 28)) rfl) zA (n := 458) rfl (by decide) (by omega) (by omega) ?_
  refine e_91 zA (f_154 (pc := 28) (e := (28, 91, 11, 7, 3, 37, 1160, 31)) rfl) rfl (show yNT T2 (105) 1 458 102 = (21, 57) from (yNT_ne _ _ _ (by omega)).trans p2) rfl rfl trivial ?_
  refine ck_put (N := 105) (N' := 106) rfl (fun T3 R3 I3 eT3 eR3 eI3 => ?_)
  have m3 := cMk_s m2 (by omega) eT3 eR3 eI3
  have p3 : T3 102 = (21, 57) := by rw [eT3, yNT_ne _ _ _ (by omega)]; exact p2
  refine e_12 (f_154 (pc := 31) (e := (31, 12, 0, 0, 0, 0, 0, 32)) rfl) rfl ?_
  refine e_2 (f_154 (pc := 32) (e := (32, 2, 135, 0, 0, 0, 0, 35)) rfl) (v := 135) rfl ?_
  refine e_101 (f_154 (pc := 35) (e := (35, 101, 1, 0, 0, 0, 0, 37)) rfl) zA (n := 135) rfl (by decide) (by omega) (by omega) ?_
  refine e_91 zA (f_154 (pc := 37) (e := (37, 91, 11, 8, 3, 40, 1161, 40)) rfl) rfl (show yNT T3 (106) 1 135 102 = (21, 57) from (yNT_ne _ _ _ (by omega)).trans p3) rfl rfl trivial ?_
  refine ck_put (N := 106) (N' := 107) rfl (fun T4 R4 I4 eT4 eR4 eI4 => ?_)
  have m4 := cMk_s m3 (by omega) eT4 eR4 eI4
  have p4 : T4 102 = (21, 57) := by rw [eT4, yNT_ne _ _ _ (by omega)]; exact p3
  refine e_12 (f_154 (pc := 40) (e := (40, 12, 0, 0, 0, 0, 0, 41)) rfl) rfl ?_
  refine e_1 (f_154 (pc := 41) (e := (41, 1, 16, 0, 0, 0, 0, 43)) rfl) (v := 16) rfl ?_
  refine e_101 (f_154 (pc := 43) (e := (43, 101, 2, 0, 0, 0, 0, 45)) rfl) zA (n := 16) rfl (by decide) (by omega) (by omega) ?_
  refine e_91 zA (f_154 (pc := 45) (e := (45, 91, 11, 9, 3, 43, 1162, 48)) rfl) rfl (show yNT T4 (107) 2 16 102 = (21, 57) from (yNT_ne _ _ _ (by omega)).trans p4) rfl rfl trivial ?_
  refine ck_put (N := 107) (N' := 108) rfl (fun T5 R5 I5 eT5 eR5 eI5 => ?_)
  have m5 := cMk_s m4 (by omega) eT5 eR5 eI5
  have p5 : T5 102 = (21, 57) := by rw [eT5, yNT_ne _ _ _ (by omega)]; exact p4
  refine e_12 (f_154 (pc := 48) (e := (48, 12, 0, 0, 0, 0, 0, 49)) rfl) rfl ?_
  refine e_1 (f_154 (pc := 49) (e := (49, 1, 24, 0, 0, 0, 0, 51)) rfl) (v := 24) rfl ?_
  refine e_101 (f_154 (pc := 51) (e := (51, 101, 2, 0, 0, 0, 0, 53)) rfl) zA (n := 24) rfl (by decide) (by omega) (by omega) ?_
  refine e_91 zA (f_154 (pc := 53) (e := (53, 91, 11, 10, 3, 47, 1163, 56)) rfl) rfl (show yNT T5 (108) 2 24 102 = (21, 57) from (yNT_ne _ _ _ (by omega)).trans p5) rfl rfl trivial ?_
  refine ck_put (N := 108) (N' := 109) rfl (fun T6 R6 I6 eT6 eR6 eI6 => ?_)
  have m6 := cMk_s m5 (by omega) eT6 eR6 eI6
  have p6 : T6 102 = (21, 57) := by rw [eT6, yNT_ne _ _ _ (by omega)]; exact p5
  refine e_12 (f_154 (pc := 56) (e := (56, 12, 0, 0, 0, 0, 0, 57)) rfl) rfl ?_
  refine e_2 (f_154 (pc := 57) (e := (57, 2, 800, 0, 0, 0, 0, 60)) rfl) (v := 800) rfl ?_
  refine e_101 (f_154 (pc := 60) (e := (60, 101, 1, 0, 0, 0, 0, 62)) rfl) zA (n := 800) rfl (by decide) (by omega) (by omega) ?_
  refine e_91 zA (f_154 (pc := 62) (e := (62, 91, 11, 24, 3, 50, 1164, 65)) rfl) rfl (show yNT T6 (109) 1 800 102 = (21, 57) from (yNT_ne _ _ _ (by omega)).trans p6) rfl rfl trivial ?_
  refine ck_put (N := 109) (N' := 110) rfl (fun T7 R7 I7 eT7 eR7 eI7 => ?_)
  have m7 := cMk_s m6 (by omega) eT7 eR7 eI7
  have p7 : T7 102 = (21, 57) := by rw [eT7, yNT_ne _ _ _ (by omega)]; exact p6
  refine e_12 (f_154 (pc := 65) (e := (65, 12, 0, 0, 0, 0, 0, 66)) rfl) rfl ?_
  refine e_1 (f_154 (pc := 66) (e := (66, 1, 100, 0, 0, 0, 0, 68)) rfl) (v := 100) rfl ?_
  refine e_101 (f_154 (pc := 68) (e := (68, 101, 1, 0, 0, 0, 0, 70)) rfl) zA (n := 100) rfl (by decide) (by omega) (by omega) ?_
  refine e_91 zA (f_154 (pc := 70) (e := (70, 91, 11, 25, 3, 53, 1165, 73)) rfl) rfl (show yNT T7 (110) 1 100 102 = (21, 57) from (yNT_ne _ _ _ (by omega)).trans p7) rfl rfl trivial ?_
  refine ck_put (N := 110) (N' := 111) rfl (fun T8 R8 I8 eT8 eR8 eI8 => ?_)
  have m8 := cMk_s m7 (by omega) eT8 eR8 eI8
  have p8 : T8 102 = (21, 57) := by rw [eT8, yNT_ne _ _ _ (by omega)]; exact p7
  refine e_12 (f_154 (pc := 73) (e := (73, 12, 0, 0, 0, 0, 0, 74)) rfl) rfl ?_
  refine e_1 (f_154 (pc := 74) (e := (74, 1, 8, 0, 0, 0, 0, 76)) rfl) (v := 8) rfl ?_
  refine e_101 (f_154 (pc := 76) (e := (76, 101, 1, 0, 0, 0, 0, 78)) rfl) zA (n := 8) rfl (by decide) (by omega) (by omega) ?_
  refine e_91 zA (f_154 (pc := 78) (e := (78, 91, 11, 26, 3, 56, 1166, 81)) rfl) rfl (show yNT T8 (111) 1 8 102 = (21, 57) from (yNT_ne _ _ _ (by omega)).trans p8) rfl rfl trivial ?_
  refine ck_put (N := 111) (N' := 112) rfl (fun T9 R9 I9 eT9 eR9 eI9 => ?_)
  have m9 := cMk_s m8 (by omega) eT9 eR9 eI9
  have p9 : T9 102 = (21, 57) := by rw [eT9, yNT_ne _ _ _ (by omega)]; exact p8
  refine e_12 (f_154 (pc := 81) (e := (81, 12, 0, 0, 0, 0, 0, 82)) rfl) rfl ?_
  refine e_1 (f_154 (pc := 82) (e := (82, 1, 8, 0, 0, 0, 0, 84)) rfl) (v := 8) rfl ?_
  refine e_101 (f_154 (pc := 84) (e := (84, 101, 1, 0, 0, 0, 0, 86)) rfl) zA (n := 8) rfl (by decide) (by omega) (by omega) ?_
  refine e_91 zA (f_154 (pc := 86) (e := (86, 91, 11, 27, 3, 59, 1167, 89)) rfl) rfl (show yNT T9 (112) 1 8 102 = (21, 57) from (yNT_ne _ _ _ (by omega)).trans p9) rfl rfl trivial ?_
  refine ck_put (N := 112) (N' := 113) rfl (fun T10 R10 I10 eT10 eR10 eI10 => ?_)
  have m10 := cMk_s m9 (by omega) eT10 eR10 eI10
  have p10 : T10 102 = (21, 57) := by rw [eT10, yNT_ne _ _ _ (by omega)]; exact p9
  refine e_12 (f_154 (pc := 89) (e := (89, 12, 0, 0, 0, 0, 0, 90)) rfl) rfl ?_
  refine e_2 (f_154 (pc := 90) (e := (90, 2, 3744, 0, 0, 0, 0, 93)) rfl) (v := 3744) rfl ?_
  refine e_101 (f_154 (pc := 93) (e := (93, 101, 1, 0, 0, 0, 0, 95)) rfl) zA (n := 3744) rfl (by decide) (by omega) (by omega) ?_
  refine e_91 zA (f_154 (pc := 95) (e := (95, 91, 11, 33, 3, 62, 1168, 98)) rfl) rfl (show yNT T10 (113) 1 3744 102 = (21, 57) from (yNT_ne _ _ _ (by omega)).trans p10) rfl rfl trivial ?_
  refine ck_put (N := 113) (N' := 114) rfl (fun T11 R11 I11 eT11 eR11 eI11 => ?_)
  have m11 := cMk_s m10 (by omega) eT11 eR11 eI11
  have p11 : T11 102 = (21, 57) := by rw [eT11, yNT_ne _ _ _ (by omega)]; exact p10
  refine e_12 (f_154 (pc := 98) (e := (98, 12, 0, 0, 0, 0, 0, 99)) rfl) rfl ?_
  refine e_2 (f_154 (pc := 99) (e := (99, 2, 468, 0, 0, 0, 0, 102)) rfl) (v := 468) rfl ?_
  refine e_101 (f_154 (pc := 102) (e := (102, 101, 1, 0, 0, 0, 0, 104)) rfl) zA (n := 468) rfl (by decide) (by omega) (by omega) ?_
  refine e_91 zA (f_154 (pc := 104) (e := (104, 91, 11, 34, 3, 65, 1169, 107)) rfl) rfl (show yNT T11 (114) 1 468 102 = (21, 57) from (yNT_ne _ _ _ (by omega)).trans p11) rfl rfl trivial ?_
  refine ck_put (N := 114) (N' := 115) rfl (fun T12 R12 I12 eT12 eR12 eI12 => ?_)
  have m12 := cMk_s m11 (by omega) eT12 eR12 eI12
  have p12 : T12 102 = (21, 57) := by rw [eT12, yNT_ne _ _ _ (by omega)]; exact p11
  refine e_12 (f_154 (pc := 107) (e := (107, 12, 0, 0, 0, 0, 0, 108)) rfl) rfl ?_
  refine e_3 (f_154 (pc := 108) (e := (108, 3, 50653, 0, 0, 68, 1170, 110)) rfl) (v := 50653) rfl ?_
  refine e_101 (f_154 (pc := 110) (e := (110, 101, 1, 0, 0, 0, 0, 112)) rfl) zA (n := 50653) rfl (by decide) (by omega) (by omega) ?_
  refine e_91 zA (f_154 (pc := 112) (e := (112, 91, 11, 36, 3, 69, 1171, 115)) rfl) rfl (show yNT T12 (115) 1 50653 102 = (21, 57) from (yNT_ne _ _ _ (by omega)).trans p12) rfl rfl trivial ?_
  refine ck_put (N := 115) (N' := 116) rfl (fun T13 R13 I13 eT13 eR13 eI13 => ?_)
  have m13 := cMk_s m12 (by omega) eT13 eR13 eI13
  have p13 : T13 102 = (21, 57) := by rw [eT13, yNT_ne _ _ _ (by omega)]; exact p12
  refine e_12 (f_154 (pc := 115) (e := (115, 12, 0, 0, 0, 0, 0, 116)) rfl) rfl ?_
  refine e_3 (f_154 (pc := 116) (e := (116, 3, 50653, 0, 0, 68, 1170, 118)) rfl) (v := 50653) rfl ?_
  refine e_101 (f_154 (pc := 118) (e := (118, 101, 1, 0, 0, 0, 0, 120)) rfl) zA (n := 50653) rfl (by decide) (by omega) (by omega) ?_
  refine e_91 zA (f_154 (pc := 120) (e := (120, 91, 11, 37, 3, 72, 1172, 123)) rfl) rfl (show yNT T13 (116) 1 50653 102 = (21, 57) from (yNT_ne _ _ _ (by omega)).trans p13) rfl rfl trivial ?_
  refine ck_put (N := 116) (N' := 117) rfl (fun T14 R14 I14 eT14 eR14 eI14 => ?_)
  have m14 := cMk_s m13 (by omega) eT14 eR14 eI14
  have p14 : T14 102 = (21, 57) := by rw [eT14, yNT_ne _ _ _ (by omega)]; exact p13
  refine e_12 (f_154 (pc := 123) (e := (123, 12, 0, 0, 0, 0, 0, 124)) rfl) rfl ?_
  refine e_0 (f_154 (pc := 124) (e := (124, 0, 3, 0, 0, 0, 0, 125)) rfl) (v := 3) rfl ?_
  refine e_101 (f_154 (pc := 125) (e := (125, 101, 1, 0, 0, 0, 0, 127)) rfl) zA (n := 3) rfl (by decide) (by omega) (by omega) ?_
  refine e_91 zA (f_154 (pc := 127) (e := (127, 91, 11, 38, 3, 75, 1173, 130)) rfl) rfl (show yNT T14 (117) 1 3 102 = (21, 57) from (yNT_ne _ _ _ (by omega)).trans p14) rfl rfl trivial ?_
  refine ck_put (N := 117) (N' := 118) rfl (fun T15 R15 I15 eT15 eR15 eI15 => ?_)
  have m15 := cMk_s m14 (by omega) eT15 eR15 eI15
  have p15 : T15 102 = (21, 57) := by rw [eT15, yNT_ne _ _ _ (by omega)]; exact p14
  refine e_12 (f_154 (pc := 130) (e := (130, 12, 0, 0, 0, 0, 0, 131)) rfl) rfl ?_
  refine e_2 (f_154 (pc := 131) (e := (131, 2, 400, 0, 0, 0, 0, 134)) rfl) (v := 400) rfl ?_
  refine e_101 (f_154 (pc := 134) (e := (134, 101, 1, 0, 0, 0, 0, 136)) rfl) zA (n := 400) rfl (by decide) (by omega) (by omega) ?_
  refine e_91 zA (f_154 (pc := 136) (e := (136, 91, 11, 39, 3, 78, 1174, 139)) rfl) rfl (show yNT T15 (118) 1 400 102 = (21, 57) from (yNT_ne _ _ _ (by omega)).trans p15) rfl rfl trivial ?_
  refine ck_put (N := 118) (N' := 119) rfl (fun T16 R16 I16 eT16 eR16 eI16 => ?_)
  have m16 := cMk_s m15 (by omega) eT16 eR16 eI16
  have p16 : T16 102 = (21, 57) := by rw [eT16, yNT_ne _ _ _ (by omega)]; exact p15
  refine e_12 (f_154 (pc := 139) (e := (139, 12, 0, 0, 0, 0, 0, 140)) rfl) rfl ?_
  refine e_1 (f_154 (pc := 140) (e := (140, 1, 8, 0, 0, 0, 0, 142)) rfl) (v := 8) rfl ?_
  refine e_101 (f_154 (pc := 142) (e := (142, 101, 1, 0, 0, 0, 0, 144)) rfl) zA (n := 8) rfl (by decide) (by omega) (by omega) ?_
  refine e_91 zA (f_154 (pc := 144) (e := (144, 91, 11, 43, 3, 81, 1175, 147)) rfl) rfl (show yNT T16 (119) 1 8 102 = (21, 57) from (yNT_ne _ _ _ (by omega)).trans p16) rfl rfl trivial ?_
  refine ck_put (N := 119) (N' := 120) rfl (fun T17 R17 I17 eT17 eR17 eI17 => ?_)
  have m17 := cMk_s m16 (by omega) eT17 eR17 eI17
  have p17 : T17 102 = (21, 57) := by rw [eT17, yNT_ne _ _ _ (by omega)]; exact p16
  refine e_12 (f_154 (pc := 147) (e := (147, 12, 0, 0, 0, 0, 0, 148)) rfl) rfl ?_
  refine e_0 (f_154 (pc := 148) (e := (148, 0, 3, 0, 0, 0, 0, 149)) rfl) (v := 3) rfl ?_
  refine e_101 (f_154 (pc := 149) (e := (149, 101, 1, 0, 0, 0, 0, 151)) rfl) zA (n := 3) rfl (by decide) (by omega) (by omega) ?_
  refine e_91 zA (f_154 (pc := 151) (e := (151, 91, 11, 45, 3, 84, 1176, 154)) rfl) rfl (show yNT T17 (120) 1 3 102 = (21, 57) from (yNT_ne _ _ _ (by omega)).trans p17) rfl rfl trivial ?_
  refine ck_put (N := 120) (N' := 121) rfl (fun T18 R18 I18 eT18 eR18 eI18 => ?_)
  have m18 := cMk_s m17 (by omega) eT18 eR18 eI18
  have p18 : T18 102 = (21, 57) := by rw [eT18, yNT_ne _ _ _ (by omega)]; exact p17
  refine e_12 (f_154 (pc := 154) (e := (154, 12, 0, 0, 0, 0, 0, 155)) rfl) rfl ?_
  refine e_1 (f_154 (pc := 155) (e := (155, 1, 45, 0, 0, 0, 0, 157)) rfl) (v := 45) rfl ?_
  refine e_101 (f_154 (pc := 157) (e := (157, 101, 1, 0, 0, 0, 0, 159)) rfl) zA (n := 45) rfl (by decide) (by omega) (by omega) ?_
  refine e_91 zA (f_154 (pc := 159) (e := (159, 91, 11, 47, 3, 87, 1177, 162)) rfl) rfl (show yNT T18 (121) 1 45 102 = (21, 57) from (yNT_ne _ _ _ (by omega)).trans p18) rfl rfl trivial ?_
  refine ck_put (N := 121) (N' := 122) rfl (fun T19 R19 I19 eT19 eR19 eI19 => ?_)
  have m19 := cMk_s m18 (by omega) eT19 eR19 eI19
  have p19 : T19 102 = (21, 57) := by rw [eT19, yNT_ne _ _ _ (by omega)]; exact p18
  refine e_12 (f_154 (pc := 162) (e := (162, 12, 0, 0, 0, 0, 0, 163)) rfl) rfl ?_
  refine e_1 (f_154 (pc := 163) (e := (163, 1, 45, 0, 0, 0, 0, 165)) rfl) (v := 45) rfl ?_
  refine e_101 (f_154 (pc := 165) (e := (165, 101, 3, 0, 0, 0, 0, 167)) rfl) zA (n := 45) rfl (by decide) (by omega) (by omega) ?_
  refine e_91 zA (f_154 (pc := 167) (e := (167, 91, 11, 53, 3, 90, 1178, 170)) rfl) rfl (show yNT T19 (122) 3 45 102 = (21, 57) from (yNT_ne _ _ _ (by omega)).trans p19) rfl rfl trivial ?_
  refine ck_put (N := 122) (N' := 123) rfl (fun T20 R20 I20 eT20 eR20 eI20 => ?_)
  have m20 := cMk_s m19 (by omega) eT20 eR20 eI20
  have p20 : T20 102 = (21, 57) := by rw [eT20, yNT_ne _ _ _ (by omega)]; exact p19
  refine e_12 (f_154 (pc := 170) (e := (170, 12, 0, 0, 0, 0, 0, 171)) rfl) rfl ?_
  refine e_2 (f_154 (pc := 171) (e := (171, 2, 2376, 0, 0, 0, 0, 174)) rfl) (v := 2376) rfl ?_
  refine e_101 (f_154 (pc := 174) (e := (174, 101, 1, 0, 0, 0, 0, 176)) rfl) zA (n := 2376) rfl (by decide) (by omega) (by omega) ?_
  refine e_91 zA (f_154 (pc := 176) (e := (176, 91, 11, 54, 3, 94, 1179, 179)) rfl) rfl (show yNT T20 (123) 1 2376 102 = (21, 57) from (yNT_ne _ _ _ (by omega)).trans p20) rfl rfl trivial ?_
  refine ck_put (N := 123) (N' := 124) rfl (fun T21 R21 I21 eT21 eR21 eI21 => ?_)
  have m21 := cMk_s m20 (by omega) eT21 eR21 eI21
  have p21 : T21 102 = (21, 57) := by rw [eT21, yNT_ne _ _ _ (by omega)]; exact p20
  refine e_12 (f_154 (pc := 179) (e := (179, 12, 0, 0, 0, 0, 0, 180)) rfl) rfl ?_
  refine e_1 (f_154 (pc := 180) (e := (180, 1, 16, 0, 0, 0, 0, 182)) rfl) (v := 16) rfl ?_
  refine e_101 (f_154 (pc := 182) (e := (182, 101, 2, 0, 0, 0, 0, 184)) rfl) zA (n := 16) rfl (by decide) (by omega) (by omega) ?_
  refine e_91 zA (f_154 (pc := 184) (e := (184, 91, 11, 55, 3, 97, 1180, 187)) rfl) rfl (show yNT T21 (124) 2 16 102 = (21, 57) from (yNT_ne _ _ _ (by omega)).trans p21) rfl rfl trivial ?_
  refine ck_put (N := 124) (N' := 125) rfl (fun T22 R22 I22 eT22 eR22 eI22 => ?_)
  have m22 := cMk_s m21 (by omega) eT22 eR22 eI22
  have p22 : T22 102 = (21, 57) := by rw [eT22, yNT_ne _ _ _ (by omega)]; exact p21
  refine e_12 (f_154 (pc := 187) (e := (187, 12, 0, 0, 0, 0, 0, 188)) rfl) rfl ?_
  refine e_0 (f_154 (pc := 188) (e := (188, 0, 2, 0, 0, 0, 0, 189)) rfl) (v := 2) rfl ?_
  refine e_101 (f_154 (pc := 189) (e := (189, 101, 3, 0, 0, 0, 0, 191)) rfl) zA (n := 2) rfl (by decide) (by omega) (by omega) ?_
  refine e_91 zA (f_154 (pc := 191) (e := (191, 91, 11, 56, 3, 100, 1181, 194)) rfl) rfl (show yNT T22 (125) 3 2 102 = (21, 57) from (yNT_ne _ _ _ (by omega)).trans p22) rfl rfl trivial ?_
  refine ck_put (N := 125) (N' := 126) rfl (fun T23 R23 I23 eT23 eR23 eI23 => ?_)
  have m23 := cMk_s m22 (by omega) eT23 eR23 eI23
  have p23 : T23 102 = (21, 57) := by rw [eT23, yNT_ne _ _ _ (by omega)]; exact p22
  have r10 : R23 102 10 = some 108 := by rw [eR23, yUR_ne _ _ (by omega), yNR_ne _ _ (by omega), eR22, yUR_ne _ _ (by omega), yNR_ne _ _ (by omega), eR21, yUR_ne _ _ (by omega), yNR_ne _ _ (by omega), eR20, yUR_ne _ _ (by omega), yNR_ne _ _ (by omega), eR19, yUR_ne _ _ (by omega), yNR_ne _ _ (by omega), eR18, yUR_ne _ _ (by omega), yNR_ne _ _ (by omega), eR17, yUR_ne _ _ (by omega), yNR_ne _ _ (by omega), eR16, yUR_ne _ _ (by omega), yNR_ne _ _ (by omega), eR15, yUR_ne _ _ (by omega), yNR_ne _ _ (by omega), eR14, yUR_ne _ _ (by omega), yNR_ne _ _ (by omega), eR13, yUR_ne _ _ (by omega), yNR_ne _ _ (by omega), eR12, yUR_ne _ _ (by omega), yNR_ne _ _ (by omega), eR11, yUR_ne _ _ (by omega), yNR_ne _ _ (by omega), eR10, yUR_ne _ _ (by omega), yNR_ne _ _ (by omega), eR9, yUR_ne _ _ (by omega), yNR_ne _ _ (by omega), eR8, yUR_ne _ _ (by omega), yNR_ne _ _ (by omega), eR7, yUR_ne _ _ (by omega), yNR_ne _ _ (by omega), eR6, yUR_eq]
  have t10 : T23 108 = (2, 24) := by rw [eT23, yNT_ne _ _ _ (by omega), eT22, yNT_ne _ _ _ (by omega), eT21, yNT_ne _ _ _ (by omega), eT20, yNT_ne _ _ _ (by omega), eT19, yNT_ne _ _ _ (by omega), eT18, yNT_ne _ _ _ (by omega), eT17, yNT_ne _ _ _ (by omega), eT16, yNT_ne _ _ _ (by omega), eT15, yNT_ne _ _ _ (by omega), eT14, yNT_ne _ _ _ (by omega), eT13, yNT_ne _ _ _ (by omega), eT12, yNT_ne _ _ _ (by omega), eT11, yNT_ne _ _ _ (by omega), eT10, yNT_ne _ _ _ (by omega), eT9, yNT_ne _ _ _ (by omega), eT8, yNT_ne _ _ _ (by omega), eT7, yNT_ne _ _ _ (by omega), eT6, yNT_eq]
  have nx : ∀ (k : Nat) (v : Int) (pc : Nat) (X : Nat → Nat → Int), ((∀ q j, q ≠ 108 → X q j = I23 q j) ∧ ∀ i, i < k → X 108 i = rCd i) → rCd k = v → (∀ Y : Nat → Nat → Int, ((∀ q j, q ≠ 108 → Y q j = I23 q j) ∧ ∀ i, i < k + 1 → Y 108 i = rCd i) → yW l zSS D cy zFk z (d + 1) 154 bc bs K (0 + 1 + 1 + 1 + 1 + 1 + 1 + 1 + 1 + 1 + 1 + 1 + 1 + 1 + 1 + 1 + 1 + 1 + 1 + 1 + 1 + 1 + 1 + 1) (0 + 940 + 1188 + 458 + 135 + 16 + 24 + 800 + 100 + 8 + 8 + 3744 + 468 + 50653 + 50653 + 3 + 400 + 8 + 3 + 45 + 45 + 2376 + 16 + 2) pc [(0, yr (some 102))] [] (126, T23, R23, Y)) → yW l zSS D cy zFk z (d + 1) 154 bc bs K (0 + 1 + 1 + 1 + 1 + 1 + 1 + 1 + 1 + 1 + 1 + 1 + 1 + 1 + 1 + 1 + 1 + 1 + 1 + 1 + 1 + 1 + 1 + 1) (0 + 940 + 1188 + 458 + 135 + 16 + 24 + 800 + 100 + 8 + 8 + 3744 + 468 + 50653 + 50653 + 3 + 400 + 8 + 3 + 45 + 45 + 2376 + 16 + 2) pc [(0, yr (some 102))] [] (126, T23, R23, yU X 108 k v) := fun k v pc X hX hv hY => hY _ ⟨fun q j h => by rw [yU_ne _ _ (fun g => h g.1)]; exact hX.1 q j h, fun i hi => by
    by_cases g : i = k
    · subst g; rw [yU_eq, hv]
    · rw [yU_ne _ _ (by omega)]; exact hX.2 i (by omega)⟩
  have f0 : (∀ q j, q ≠ 108 → I23 q j = I23 q j) ∧ ∀ i, i < 0 → I23 108 i = rCd i := ⟨fun _ _ _ => rfl, fun i hi => absurd hi (Nat.not_lt_zero _)⟩
  refine e_12 (f_154 (pc := 194) (e := (194, 12, 0, 0, 0, 0, 0, 195)) rfl) rfl ?_
  refine e_90r zA (f_154 (pc := 195) (e := (195, 90, 11, 10, 3, 47, 1163, 198)) rfl) rfl (show T23 102 = (21, 57) from p23) rfl rfl r10 ?_
  refine e_0 (f_154 (pc := 198) (e := (198, 0, 0, 0, 0, 0, 0, 199)) rfl) (v := 0) rfl ?_
  refine e_5 (f_154 (pc := 199) (e := (199, 5, 1818324580, 0, 0, 103, 1182, 202)) rfl) (v := 1818324580) rfl ?_
  refine e_115 (f_154 (pc := 202) (e := (202, 115, 0, 0, 0, 0, 0, 203)) rfl) rfl t10 (by decide) (by decide) ?_
  refine nx 0 1818324580 _ I23 f0 rfl (fun Y0 fy0 => ?_)
  refine e_12 (f_154 (pc := 203) (e := (203, 12, 0, 0, 0, 0, 0, 204)) rfl) rfl ?_
  refine e_90r zA (f_154 (pc := 204) (e := (204, 90, 11, 10, 3, 47, 1163, 207)) rfl) rfl (show T23 102 = (21, 57) from p23) rfl rfl r10 ?_
  refine e_0 (f_154 (pc := 207) (e := (207, 0, 1, 0, 0, 0, 0, 208)) rfl) (v := 1) rfl ?_
  refine e_5 (f_154 (pc := 208) (e := (208, 5, 2002873452, 0, 0, 105, 1183, 211)) rfl) (v := 2002873452) rfl ?_
  refine e_115 (f_154 (pc := 211) (e := (211, 115, 0, 0, 0, 0, 0, 212)) rfl) rfl t10 (by decide) (by decide) ?_
  refine nx 1 2002873452 _ Y0 fy0 rfl (fun Y1 fy1 => ?_)
  refine e_12 (f_154 (pc := 212) (e := (212, 12, 0, 0, 0, 0, 0, 213)) rfl) rfl ?_
  refine e_90r zA (f_154 (pc := 213) (e := (213, 90, 11, 10, 3, 47, 1163, 216)) rfl) rfl (show T23 102 = (21, 57) from p23) rfl rfl r10 ?_
  refine e_0 (f_154 (pc := 216) (e := (216, 0, 2, 0, 0, 0, 0, 217)) rfl) (v := 2) rfl ?_
  refine e_5 (f_154 (pc := 217) (e := (217, 5, 126943687701107, 0, 0, 107, 1184, 220)) rfl) (v := 126943687701107) rfl ?_
  refine e_115 (f_154 (pc := 220) (e := (220, 115, 0, 0, 0, 0, 0, 221)) rfl) rfl t10 (by decide) (by decide) ?_
  refine nx 2 126943687701107 _ Y1 fy1 rfl (fun Y2 fy2 => ?_)
  refine e_12 (f_154 (pc := 221) (e := (221, 12, 0, 0, 0, 0, 0, 222)) rfl) rfl ?_
  refine e_90r zA (f_154 (pc := 222) (e := (222, 90, 11, 10, 3, 47, 1163, 225)) rfl) rfl (show T23 102 = (21, 57) from p23) rfl rfl r10 ?_
  refine e_0 (f_154 (pc := 225) (e := (225, 0, 3, 0, 0, 0, 0, 226)) rfl) (v := 3) rfl ?_
  refine e_5 (f_154 (pc := 226) (e := (226, 5, 2003395685, 0, 0, 109, 1185, 229)) rfl) (v := 2003395685) rfl ?_
  refine e_115 (f_154 (pc := 229) (e := (229, 115, 0, 0, 0, 0, 0, 230)) rfl) rfl t10 (by decide) (by decide) ?_
  refine nx 3 2003395685 _ Y2 fy2 rfl (fun Y3 fy3 => ?_)
  refine e_12 (f_154 (pc := 230) (e := (230, 12, 0, 0, 0, 0, 0, 231)) rfl) rfl ?_
  refine e_90r zA (f_154 (pc := 231) (e := (231, 90, 11, 10, 3, 47, 1163, 234)) rfl) rfl (show T23 102 = (21, 57) from p23) rfl rfl r10 ?_
  refine e_0 (f_154 (pc := 234) (e := (234, 0, 4, 0, 0, 0, 0, 235)) rfl) (v := 4) rfl ?_
  refine e_5 (f_154 (pc := 235) (e := (235, 5, 1818324581, 0, 0, 111, 1186, 238)) rfl) (v := 1818324581) rfl ?_
  refine e_115 (f_154 (pc := 238) (e := (238, 115, 0, 0, 0, 0, 0, 239)) rfl) rfl t10 (by decide) (by decide) ?_
  refine nx 4 1818324581 _ Y3 fy3 rfl (fun Y4 fy4 => ?_)
  refine e_12 (f_154 (pc := 239) (e := (239, 12, 0, 0, 0, 0, 0, 240)) rfl) rfl ?_
  refine e_90r zA (f_154 (pc := 240) (e := (240, 90, 11, 10, 3, 47, 1163, 243)) rfl) rfl (show T23 102 = (21, 57) from p23) rfl rfl r10 ?_
  refine e_0 (f_154 (pc := 243) (e := (243, 0, 5, 0, 0, 0, 0, 244)) rfl) (v := 5) rfl ?_
  refine e_5 (f_154 (pc := 244) (e := (244, 5, 426952976754, 0, 0, 113, 1187, 247)) rfl) (v := 426952976754) rfl ?_
  refine e_115 (f_154 (pc := 247) (e := (247, 115, 0, 0, 0, 0, 0, 248)) rfl) rfl t10 (by decide) (by decide) ?_
  refine nx 5 426952976754 _ Y4 fy4 rfl (fun Y5 fy5 => ?_)
  refine e_12 (f_154 (pc := 248) (e := (248, 12, 0, 0, 0, 0, 0, 249)) rfl) rfl ?_
  refine e_90r zA (f_154 (pc := 249) (e := (249, 90, 11, 10, 3, 47, 1163, 252)) rfl) rfl (show T23 102 = (21, 57) from p23) rfl rfl r10 ?_
  refine e_1 (f_154 (pc := 252) (e := (252, 1, 6, 0, 0, 0, 0, 254)) rfl) (v := 6) rfl ?_
  refine e_5 (f_154 (pc := 254) (e := (254, 5, 495873782388, 0, 0, 115, 1188, 257)) rfl) (v := 495873782388) rfl ?_
  refine e_115 (f_154 (pc := 257) (e := (257, 115, 0, 0, 0, 0, 0, 258)) rfl) rfl t10 (by decide) (by decide) ?_
  refine nx 6 495873782388 _ Y5 fy5 rfl (fun Y6 fy6 => ?_)
  refine e_12 (f_154 (pc := 258) (e := (258, 12, 0, 0, 0, 0, 0, 259)) rfl) rfl ?_
  refine e_90r zA (f_154 (pc := 259) (e := (259, 90, 11, 10, 3, 47, 1163, 262)) rfl) rfl (show T23 102 = (21, 57) from p23) rfl rfl r10 ?_
  refine e_1 (f_154 (pc := 262) (e := (262, 1, 7, 0, 0, 0, 0, 264)) rfl) (v := 7) rfl ?_
  refine e_5 (f_154 (pc := 264) (e := (264, 5, 1936286571, 0, 0, 117, 1189, 267)) rfl) (v := 1936286571) rfl ?_
  refine e_115 (f_154 (pc := 267) (e := (267, 115, 0, 0, 0, 0, 0, 268)) rfl) rfl t10 (by decide) (by decide) ?_
  refine nx 7 1936286571 _ Y6 fy6 rfl (fun Y7 fy7 => ?_)
  refine e_12 (f_154 (pc := 268) (e := (268, 12, 0, 0, 0, 0, 0, 269)) rfl) rfl ?_
  refine e_90r zA (f_154 (pc := 269) (e := (269, 90, 11, 10, 3, 47, 1163, 272)) rfl) rfl (show T23 102 = (21, 57) from p23) rfl rfl r10 ?_
  refine e_1 (f_154 (pc := 272) (e := (272, 1, 8, 0, 0, 0, 0, 274)) rfl) (v := 8) rfl ?_
  refine e_5 (f_154 (pc := 274) (e := (274, 5, 7102839, 0, 0, 119, 1190, 277)) rfl) (v := 7102839) rfl ?_
  refine e_115 (f_154 (pc := 277) (e := (277, 115, 0, 0, 0, 0, 0, 278)) rfl) rfl t10 (by decide) (by decide) ?_
  refine nx 8 7102839 _ Y7 fy7 rfl (fun Y8 fy8 => ?_)
  refine e_12 (f_154 (pc := 278) (e := (278, 12, 0, 0, 0, 0, 0, 279)) rfl) rfl ?_
  refine e_90r zA (f_154 (pc := 279) (e := (279, 90, 11, 10, 3, 47, 1163, 282)) rfl) rfl (show T23 102 = (21, 57) from p23) rfl rfl r10 ?_
  refine e_1 (f_154 (pc := 282) (e := (282, 1, 9, 0, 0, 0, 0, 284)) rfl) (v := 9) rfl ?_
  refine e_5 (f_154 (pc := 284) (e := (284, 5, 1918987883, 0, 0, 121, 1191, 287)) rfl) (v := 1918987883) rfl ?_
  refine e_115 (f_154 (pc := 287) (e := (287, 115, 0, 0, 0, 0, 0, 288)) rfl) rfl t10 (by decide) (by decide) ?_
  refine nx 9 1918987883 _ Y8 fy8 rfl (fun Y9 fy9 => ?_)
  refine e_12 (f_154 (pc := 288) (e := (288, 12, 0, 0, 0, 0, 0, 289)) rfl) rfl ?_
  refine e_90r zA (f_154 (pc := 289) (e := (289, 90, 11, 10, 3, 47, 1163, 292)) rfl) rfl (show T23 102 = (21, 57) from p23) rfl rfl r10 ?_
  refine e_1 (f_154 (pc := 292) (e := (292, 1, 10, 0, 0, 0, 0, 294)) rfl) (v := 10) rfl ?_
  refine e_5 (f_154 (pc := 294) (e := (294, 5, 1819238756, 0, 0, 123, 1192, 297)) rfl) (v := 1819238756) rfl ?_
  refine e_115 (f_154 (pc := 297) (e := (297, 115, 0, 0, 0, 0, 0, 298)) rfl) rfl t10 (by decide) (by decide) ?_
  refine nx 10 1819238756 _ Y9 fy9 rfl (fun Y10 fy10 => ?_)
  refine e_12 (f_154 (pc := 298) (e := (298, 12, 0, 0, 0, 0, 0, 299)) rfl) rfl ?_
  refine e_90r zA (f_154 (pc := 299) (e := (299, 90, 11, 10, 3, 47, 1163, 302)) rfl) rfl (show T23 102 = (21, 57) from p23) rfl rfl r10 ?_
  refine e_1 (f_154 (pc := 302) (e := (302, 1, 11, 0, 0, 0, 0, 304)) rfl) (v := 11) rfl ?_
  refine e_5 (f_154 (pc := 304) (e := (304, 5, 1668246885, 0, 0, 125, 1193, 307)) rfl) (v := 1668246885) rfl ?_
  refine e_115 (f_154 (pc := 307) (e := (307, 115, 0, 0, 0, 0, 0, 308)) rfl) rfl t10 (by decide) (by decide) ?_
  refine nx 11 1668246885 _ Y10 fy10 rfl (fun Y11 fy11 => ?_)
  refine e_12 (f_154 (pc := 308) (e := (308, 12, 0, 0, 0, 0, 0, 309)) rfl) rfl ?_
  refine e_90r zA (f_154 (pc := 309) (e := (309, 90, 11, 10, 3, 47, 1163, 312)) rfl) rfl (show T23 102 = (21, 57) from p23) rfl rfl r10 ?_
  refine e_1 (f_154 (pc := 312) (e := (312, 1, 12, 0, 0, 0, 0, 314)) rfl) (v := 12) rfl ?_
  refine e_5 (f_154 (pc := 314) (e := (314, 5, 110, 0, 0, 127, 1194, 317)) rfl) (v := 110) rfl ?_
  refine e_115 (f_154 (pc := 317) (e := (317, 115, 0, 0, 0, 0, 0, 318)) rfl) rfl t10 (by decide) (by decide) ?_
  refine nx 12 110 _ Y11 fy11 rfl (fun Y12 fy12 => ?_)
  refine e_12 (f_154 (pc := 318) (e := (318, 12, 0, 0, 0, 0, 0, 319)) rfl) rfl ?_
  refine e_90r zA (f_154 (pc := 319) (e := (319, 90, 11, 10, 3, 47, 1163, 322)) rfl) rfl (show T23 102 = (21, 57) from p23) rfl rfl r10 ?_
  refine e_1 (f_154 (pc := 322) (e := (322, 1, 13, 0, 0, 0, 0, 324)) rfl) (v := 13) rfl ?_
  refine e_5 (f_154 (pc := 324) (e := (324, 5, 101, 0, 0, 129, 1195, 327)) rfl) (v := 101) rfl ?_
  refine e_115 (f_154 (pc := 327) (e := (327, 115, 0, 0, 0, 0, 0, 328)) rfl) rfl t10 (by decide) (by decide) ?_
  refine nx 13 101 _ Y12 fy12 rfl (fun Y13 fy13 => ?_)
  refine e_12 (f_154 (pc := 328) (e := (328, 12, 0, 0, 0, 0, 0, 329)) rfl) rfl ?_
  refine e_90r zA (f_154 (pc := 329) (e := (329, 90, 11, 10, 3, 47, 1163, 332)) rfl) rfl (show T23 102 = (21, 57) from p23) rfl rfl r10 ?_
  refine e_1 (f_154 (pc := 332) (e := (332, 1, 14, 0, 0, 0, 0, 334)) rfl) (v := 14) rfl ?_
  refine e_5 (f_154 (pc := 334) (e := (334, 5, 115, 0, 0, 131, 1196, 337)) rfl) (v := 115) rfl ?_
  refine e_115 (f_154 (pc := 337) (e := (337, 115, 0, 0, 0, 0, 0, 338)) rfl) rfl t10 (by decide) (by decide) ?_
  refine nx 14 115 _ Y13 fy13 rfl (fun Y14 fy14 => ?_)
  refine e_12 (f_154 (pc := 338) (e := (338, 12, 0, 0, 0, 0, 0, 339)) rfl) rfl ?_
  refine e_90r zA (f_154 (pc := 339) (e := (339, 90, 11, 10, 3, 47, 1163, 342)) rfl) rfl (show T23 102 = (21, 57) from p23) rfl rfl r10 ?_
  refine e_1 (f_154 (pc := 342) (e := (342, 1, 15, 0, 0, 0, 0, 344)) rfl) (v := 15) rfl ?_
  refine e_5 (f_154 (pc := 344) (e := (344, 5, 119, 0, 0, 133, 1197, 347)) rfl) (v := 119) rfl ?_
  refine e_115 (f_154 (pc := 347) (e := (347, 115, 0, 0, 0, 0, 0, 348)) rfl) rfl t10 (by decide) (by decide) ?_
  refine nx 15 119 _ Y14 fy14 rfl (fun Y15 fy15 => ?_)
  refine e_12 (f_154 (pc := 348) (e := (348, 12, 0, 0, 0, 0, 0, 349)) rfl) rfl ?_
  refine e_90r zA (f_154 (pc := 349) (e := (349, 90, 11, 10, 3, 47, 1163, 352)) rfl) rfl (show T23 102 = (21, 57) from p23) rfl rfl r10 ?_
  refine e_1 (f_154 (pc := 352) (e := (352, 1, 16, 0, 0, 0, 0, 354)) rfl) (v := 16) rfl ?_
  refine e_5 (f_154 (pc := 354) (e := (354, 5, 28530, 0, 0, 135, 1198, 357)) rfl) (v := 28530) rfl ?_
  refine e_115 (f_154 (pc := 357) (e := (357, 115, 0, 0, 0, 0, 0, 358)) rfl) rfl t10 (by decide) (by decide) ?_
  refine nx 16 28530 _ Y15 fy15 rfl (fun Y16 fy16 => ?_)
  refine e_12 (f_154 (pc := 358) (e := (358, 12, 0, 0, 0, 0, 0, 359)) rfl) rfl ?_
  refine e_90r zA (f_154 (pc := 359) (e := (359, 90, 11, 10, 3, 47, 1163, 362)) rfl) rfl (show T23 102 = (21, 57) from p23) rfl rfl r10 ?_
  refine e_1 (f_154 (pc := 362) (e := (362, 1, 17, 0, 0, 0, 0, 364)) rfl) (v := 17) rfl ?_
  refine e_5 (f_154 (pc := 364) (e := (364, 5, 6385252, 0, 0, 137, 1199, 367)) rfl) (v := 6385252) rfl ?_
  refine e_115 (f_154 (pc := 367) (e := (367, 115, 0, 0, 0, 0, 0, 368)) rfl) rfl t10 (by decide) (by decide) ?_
  refine nx 17 6385252 _ Y16 fy16 rfl (fun Y17 fy17 => ?_)
  refine e_12 (f_154 (pc := 368) (e := (368, 12, 0, 0, 0, 0, 0, 369)) rfl) rfl ?_
  refine e_90r zA (f_154 (pc := 369) (e := (369, 90, 11, 10, 3, 47, 1163, 372)) rfl) rfl (show T23 102 = (21, 57) from p23) rfl rfl r10 ?_
  refine e_1 (f_154 (pc := 372) (e := (372, 1, 18, 0, 0, 0, 0, 374)) rfl) (v := 18) rfl ?_
  refine e_5 (f_154 (pc := 374) (e := (374, 5, 7237492, 0, 0, 139, 1200, 377)) rfl) (v := 7237492) rfl ?_
  refine e_115 (f_154 (pc := 377) (e := (377, 115, 0, 0, 0, 0, 0, 378)) rfl) rfl t10 (by decide) (by decide) ?_
  refine nx 18 7237492 _ Y17 fy17 rfl (fun Y18 fy18 => ?_)
  refine e_12 (f_154 (pc := 378) (e := (378, 12, 0, 0, 0, 0, 0, 379)) rfl) rfl ?_
  refine e_90r zA (f_154 (pc := 379) (e := (379, 90, 11, 10, 3, 47, 1163, 382)) rfl) rfl (show T23 102 = (21, 57) from p23) rfl rfl r10 ?_
  refine e_1 (f_154 (pc := 382) (e := (382, 1, 19, 0, 0, 0, 0, 384)) rfl) (v := 19) rfl ?_
  refine e_5 (f_154 (pc := 384) (e := (384, 5, 499967685221, 0, 0, 141, 1201, 387)) rfl) (v := 499967685221) rfl ?_
  refine e_115 (f_154 (pc := 387) (e := (387, 115, 0, 0, 0, 0, 0, 388)) rfl) rfl t10 (by decide) (by decide) ?_
  refine nx 19 499967685221 _ Y18 fy18 rfl (fun Y19 fy19 => ?_)
  refine e_12 (f_154 (pc := 388) (e := (388, 12, 0, 0, 0, 0, 0, 389)) rfl) rfl ?_
  refine e_90r zA (f_154 (pc := 389) (e := (389, 90, 11, 10, 3, 47, 1163, 392)) rfl) rfl (show T23 102 = (21, 57) from p23) rfl rfl r10 ?_
  refine e_1 (f_154 (pc := 392) (e := (392, 1, 20, 0, 0, 0, 0, 394)) rfl) (v := 20) rfl ?_
  refine e_5 (f_154 (pc := 394) (e := (394, 5, 418363302244, 0, 0, 143, 1202, 397)) rfl) (v := 418363302244) rfl ?_
  refine e_115 (f_154 (pc := 397) (e := (397, 115, 0, 0, 0, 0, 0, 398)) rfl) rfl t10 (by decide) (by decide) ?_
  refine nx 20 418363302244 _ Y19 fy19 rfl (fun Y20 fy20 => ?_)
  refine e_12 (f_154 (pc := 398) (e := (398, 12, 0, 0, 0, 0, 0, 399)) rfl) rfl ?_
  refine e_90r zA (f_154 (pc := 399) (e := (399, 90, 11, 10, 3, 47, 1163, 402)) rfl) rfl (show T23 102 = (21, 57) from p23) rfl rfl r10 ?_
  refine e_1 (f_154 (pc := 402) (e := (402, 1, 21, 0, 0, 0, 0, 404)) rfl) (v := 21) rfl ?_
  refine e_5 (f_154 (pc := 404) (e := (404, 5, 422540700531, 0, 0, 145, 1203, 407)) rfl) (v := 422540700531) rfl ?_
  refine e_115 (f_154 (pc := 407) (e := (407, 115, 0, 0, 0, 0, 0, 408)) rfl) rfl t10 (by decide) (by decide) ?_
  refine nx 21 422540700531 _ Y20 fy20 rfl (fun Y21 fy21 => ?_)
  refine e_12 (f_154 (pc := 408) (e := (408, 12, 0, 0, 0, 0, 0, 409)) rfl) rfl ?_
  refine e_90r zA (f_154 (pc := 409) (e := (409, 90, 11, 10, 3, 47, 1163, 412)) rfl) rfl (show T23 102 = (21, 57) from p23) rfl rfl r10 ?_
  refine e_1 (f_154 (pc := 412) (e := (412, 1, 22, 0, 0, 0, 0, 414)) rfl) (v := 22) rfl ?_
  refine e_5 (f_154 (pc := 414) (e := (414, 5, 512735409267, 0, 0, 147, 1204, 417)) rfl) (v := 512735409267) rfl ?_
  refine e_115 (f_154 (pc := 417) (e := (417, 115, 0, 0, 0, 0, 0, 418)) rfl) rfl t10 (by decide) (by decide) ?_
  refine nx 22 512735409267 _ Y21 fy21 rfl (fun Y22 fy22 => ?_)
  refine e_12 (f_154 (pc := 418) (e := (418, 12, 0, 0, 0, 0, 0, 419)) rfl) rfl ?_
  refine e_90r zA (f_154 (pc := 419) (e := (419, 90, 11, 10, 3, 47, 1163, 422)) rfl) rfl (show T23 102 = (21, 57) from p23) rfl rfl r10 ?_
  refine e_1 (f_154 (pc := 422) (e := (422, 1, 23, 0, 0, 0, 0, 424)) rfl) (v := 23) rfl ?_
  refine e_5 (f_154 (pc := 424) (e := (424, 5, 482854658917, 0, 0, 149, 1205, 427)) rfl) (v := 482854658917) rfl ?_
  refine e_115 (f_154 (pc := 427) (e := (427, 115, 0, 0, 0, 0, 0, 428)) rfl) rfl t10 (by decide) (by decide) ?_
  refine nx 23 482854658917 _ Y22 fy22 rfl (fun Y23 fy23 => ?_)
  have zz : ∀ k j, 102 < k → k < 126 → I23 k j = 0 := by
    intro k j h1 h2
    rcases (show k = 103 ∨ k = 104 ∨ k = 105 ∨ k = 106 ∨ k = 107 ∨ k = 108 ∨ k = 109 ∨ k = 110 ∨ k = 111 ∨ k = 112 ∨ k = 113 ∨ k = 114 ∨ k = 115 ∨ k = 116 ∨ k = 117 ∨ k = 118 ∨ k = 119 ∨ k = 120 ∨ k = 121 ∨ k = 122 ∨ k = 123 ∨ k = 124 ∨ k = 125 by omega) with rfl | rfl | rfl | rfl | rfl | rfl | rfl | rfl | rfl | rfl | rfl | rfl | rfl | rfl | rfl | rfl | rfl | rfl | rfl | rfl | rfl | rfl | rfl
    · rw [eI23, yNI_ne _ _ (by omega), eI22, yNI_ne _ _ (by omega), eI21, yNI_ne _ _ (by omega), eI20, yNI_ne _ _ (by omega), eI19, yNI_ne _ _ (by omega), eI18, yNI_ne _ _ (by omega), eI17, yNI_ne _ _ (by omega), eI16, yNI_ne _ _ (by omega), eI15, yNI_ne _ _ (by omega), eI14, yNI_ne _ _ (by omega), eI13, yNI_ne _ _ (by omega), eI12, yNI_ne _ _ (by omega), eI11, yNI_ne _ _ (by omega), eI10, yNI_ne _ _ (by omega), eI9, yNI_ne _ _ (by omega), eI8, yNI_ne _ _ (by omega), eI7, yNI_ne _ _ (by omega), eI6, yNI_ne _ _ (by omega), eI5, yNI_ne _ _ (by omega), eI4, yNI_ne _ _ (by omega), eI3, yNI_ne _ _ (by omega), eI2, yNI_ne _ _ (by omega), eI1, yNI_eq]
    · rw [eI23, yNI_ne _ _ (by omega), eI22, yNI_ne _ _ (by omega), eI21, yNI_ne _ _ (by omega), eI20, yNI_ne _ _ (by omega), eI19, yNI_ne _ _ (by omega), eI18, yNI_ne _ _ (by omega), eI17, yNI_ne _ _ (by omega), eI16, yNI_ne _ _ (by omega), eI15, yNI_ne _ _ (by omega), eI14, yNI_ne _ _ (by omega), eI13, yNI_ne _ _ (by omega), eI12, yNI_ne _ _ (by omega), eI11, yNI_ne _ _ (by omega), eI10, yNI_ne _ _ (by omega), eI9, yNI_ne _ _ (by omega), eI8, yNI_ne _ _ (by omega), eI7, yNI_ne _ _ (by omega), eI6, yNI_ne _ _ (by omega), eI5, yNI_ne _ _ (by omega), eI4, yNI_ne _ _ (by omega), eI3, yNI_ne _ _ (by omega), eI2, yNI_eq]
    · rw [eI23, yNI_ne _ _ (by omega), eI22, yNI_ne _ _ (by omega), eI21, yNI_ne _ _ (by omega), eI20, yNI_ne _ _ (by omega), eI19, yNI_ne _ _ (by omega), eI18, yNI_ne _ _ (by omega), eI17, yNI_ne _ _ (by omega), eI16, yNI_ne _ _ (by omega), eI15, yNI_ne _ _ (by omega), eI14, yNI_ne _ _ (by omega), eI13, yNI_ne _ _ (by omega), eI12, yNI_ne _ _ (by omega), eI11, yNI_ne _ _ (by omega), eI10, yNI_ne _ _ (by omega), eI9, yNI_ne _ _ (by omega), eI8, yNI_ne _ _ (by omega), eI7, yNI_ne _ _ (by omega), eI6, yNI_ne _ _ (by omega), eI5, yNI_ne _ _ (by omega), eI4, yNI_ne _ _ (by omega), eI3, yNI_eq]
    · rw [eI23, yNI_ne _ _ (by omega), eI22, yNI_ne _ _ (by omega), eI21, yNI_ne _ _ (by omega), eI20, yNI_ne _ _ (by omega), eI19, yNI_ne _ _ (by omega), eI18, yNI_ne _ _ (by omega), eI17, yNI_ne _ _ (by omega), eI16, yNI_ne _ _ (by omega), eI15, yNI_ne _ _ (by omega), eI14, yNI_ne _ _ (by omega), eI13, yNI_ne _ _ (by omega), eI12, yNI_ne _ _ (by omega), eI11, yNI_ne _ _ (by omega), eI10, yNI_ne _ _ (by omega), eI9, yNI_ne _ _ (by omega), eI8, yNI_ne _ _ (by omega), eI7, yNI_ne _ _ (by omega), eI6, yNI_ne _ _ (by omega), eI5, yNI_ne _ _ (by omega), eI4, yNI_eq]
    · rw [eI23, yNI_ne _ _ (by omega), eI22, yNI_ne _ _ (by omega), eI21, yNI_ne _ _ (by omega), eI20, yNI_ne _ _ (by omega), eI19, yNI_ne _ _ (by omega), eI18, yNI_ne _ _ (by omega), eI17, yNI_ne _ _ (by omega), eI16, yNI_ne _ _ (by omega), eI15, yNI_ne _ _ (by omega), eI14, yNI_ne _ _ (by omega), eI13, yNI_ne _ _ (by omega), eI12, yNI_ne _ _ (by omega), eI11, yNI_ne _ _ (by omega), eI10, yNI_ne _ _ (by omega), eI9, yNI_ne _ _ (by omega), eI8, yNI_ne _ _ (by omega), eI7, yNI_ne _ _ (by omega), eI6, yNI_ne _ _ (by omega), eI5, yNI_eq]
    · rw [eI23, yNI_ne _ _ (by omega), eI22, yNI_ne _ _ (by omega), eI21, yNI_ne _ _ (by omega), eI20, yNI_ne _ _ (by omega), eI19, yNI_ne _ _ (by omega), eI18, yNI_ne _ _ (by omega), eI17, yNI_ne _ _ (by omega), eI16, yNI_ne _ _ (by omega), eI15, yNI_ne _ _ (by omega), eI14, yNI_ne _ _ (by omega), eI13, yNI_ne _ _ (by omega), eI12, yNI_ne _ _ (by omega), eI11, yNI_ne _ _ (by omega), eI10, yNI_ne _ _ (by omega), eI9, yNI_ne _ _ (by omega), eI8, yNI_ne _ _ (by omega), eI7, yNI_ne _ _ (by omega), eI6, yNI_eq]
    · rw [eI23, yNI_ne _ _ (by omega), eI22, yNI_ne _ _ (by omega), eI21, yNI_ne _ _ (by omega), eI20, yNI_ne _ _ (by omega), eI19, yNI_ne _ _ (by omega), eI18, yNI_ne _ _ (by omega), eI17, yNI_ne _ _ (by omega), eI16, yNI_ne _ _ (by omega), eI15, yNI_ne _ _ (by omega), eI14, yNI_ne _ _ (by omega), eI13, yNI_ne _ _ (by omega), eI12, yNI_ne _ _ (by omega), eI11, yNI_ne _ _ (by omega), eI10, yNI_ne _ _ (by omega), eI9, yNI_ne _ _ (by omega), eI8, yNI_ne _ _ (by omega), eI7, yNI_eq]
    · rw [eI23, yNI_ne _ _ (by omega), eI22, yNI_ne _ _ (by omega), eI21, yNI_ne _ _ (by omega), eI20, yNI_ne _ _ (by omega), eI19, yNI_ne _ _ (by omega), eI18, yNI_ne _ _ (by omega), eI17, yNI_ne _ _ (by omega), eI16, yNI_ne _ _ (by omega), eI15, yNI_ne _ _ (by omega), eI14, yNI_ne _ _ (by omega), eI13, yNI_ne _ _ (by omega), eI12, yNI_ne _ _ (by omega), eI11, yNI_ne _ _ (by omega), eI10, yNI_ne _ _ (by omega), eI9, yNI_ne _ _ (by omega), eI8, yNI_eq]
    · rw [eI23, yNI_ne _ _ (by omega), eI22, yNI_ne _ _ (by omega), eI21, yNI_ne _ _ (by omega), eI20, yNI_ne _ _ (by omega), eI19, yNI_ne _ _ (by omega), eI18, yNI_ne _ _ (by omega), eI17, yNI_ne _ _ (by omega), eI16, yNI_ne _ _ (by omega), eI15, yNI_ne _ _ (by omega), eI14, yNI_ne _ _ (by omega), eI13, yNI_ne _ _ (by omega), eI12, yNI_ne _ _ (by omega), eI11, yNI_ne _ _ (by omega), eI10, yNI_ne _ _ (by omega), eI9, yNI_eq]
    · rw [eI23, yNI_ne _ _ (by omega), eI22, yNI_ne _ _ (by omega), eI21, yNI_ne _ _ (by omega), eI20, yNI_ne _ _ (by omega), eI19, yNI_ne _ _ (by omega), eI18, yNI_ne _ _ (by omega), eI17, yNI_ne _ _ (by omega), eI16, yNI_ne _ _ (by omega), eI15, yNI_ne _ _ (by omega), eI14, yNI_ne _ _ (by omega), eI13, yNI_ne _ _ (by omega), eI12, yNI_ne _ _ (by omega), eI11, yNI_ne _ _ (by omega), eI10, yNI_eq]
    · rw [eI23, yNI_ne _ _ (by omega), eI22, yNI_ne _ _ (by omega), eI21, yNI_ne _ _ (by omega), eI20, yNI_ne _ _ (by omega), eI19, yNI_ne _ _ (by omega), eI18, yNI_ne _ _ (by omega), eI17, yNI_ne _ _ (by omega), eI16, yNI_ne _ _ (by omega), eI15, yNI_ne _ _ (by omega), eI14, yNI_ne _ _ (by omega), eI13, yNI_ne _ _ (by omega), eI12, yNI_ne _ _ (by omega), eI11, yNI_eq]
    · rw [eI23, yNI_ne _ _ (by omega), eI22, yNI_ne _ _ (by omega), eI21, yNI_ne _ _ (by omega), eI20, yNI_ne _ _ (by omega), eI19, yNI_ne _ _ (by omega), eI18, yNI_ne _ _ (by omega), eI17, yNI_ne _ _ (by omega), eI16, yNI_ne _ _ (by omega), eI15, yNI_ne _ _ (by omega), eI14, yNI_ne _ _ (by omega), eI13, yNI_ne _ _ (by omega), eI12, yNI_eq]
    · rw [eI23, yNI_ne _ _ (by omega), eI22, yNI_ne _ _ (by omega), eI21, yNI_ne _ _ (by omega), eI20, yNI_ne _ _ (by omega), eI19, yNI_ne _ _ (by omega), eI18, yNI_ne _ _ (by omega), eI17, yNI_ne _ _ (by omega), eI16, yNI_ne _ _ (by omega), eI15, yNI_ne _ _ (by omega), eI14, yNI_ne _ _ (by omega), eI13, yNI_eq]
    · rw [eI23, yNI_ne _ _ (by omega), eI22, yNI_ne _ _ (by omega), eI21, yNI_ne _ _ (by omega), eI20, yNI_ne _ _ (by omega), eI19, yNI_ne _ _ (by omega), eI18, yNI_ne _ _ (by omega), eI17, yNI_ne _ _ (by omega), eI16, yNI_ne _ _ (by omega), eI15, yNI_ne _ _ (by omega), eI14, yNI_eq]
    · rw [eI23, yNI_ne _ _ (by omega), eI22, yNI_ne _ _ (by omega), eI21, yNI_ne _ _ (by omega), eI20, yNI_ne _ _ (by omega), eI19, yNI_ne _ _ (by omega), eI18, yNI_ne _ _ (by omega), eI17, yNI_ne _ _ (by omega), eI16, yNI_ne _ _ (by omega), eI15, yNI_eq]
    · rw [eI23, yNI_ne _ _ (by omega), eI22, yNI_ne _ _ (by omega), eI21, yNI_ne _ _ (by omega), eI20, yNI_ne _ _ (by omega), eI19, yNI_ne _ _ (by omega), eI18, yNI_ne _ _ (by omega), eI17, yNI_ne _ _ (by omega), eI16, yNI_eq]
    · rw [eI23, yNI_ne _ _ (by omega), eI22, yNI_ne _ _ (by omega), eI21, yNI_ne _ _ (by omega), eI20, yNI_ne _ _ (by omega), eI19, yNI_ne _ _ (by omega), eI18, yNI_ne _ _ (by omega), eI17, yNI_eq]
    · rw [eI23, yNI_ne _ _ (by omega), eI22, yNI_ne _ _ (by omega), eI21, yNI_ne _ _ (by omega), eI20, yNI_ne _ _ (by omega), eI19, yNI_ne _ _ (by omega), eI18, yNI_eq]
    · rw [eI23, yNI_ne _ _ (by omega), eI22, yNI_ne _ _ (by omega), eI21, yNI_ne _ _ (by omega), eI20, yNI_ne _ _ (by omega), eI19, yNI_eq]
    · rw [eI23, yNI_ne _ _ (by omega), eI22, yNI_ne _ _ (by omega), eI21, yNI_ne _ _ (by omega), eI20, yNI_eq]
    · rw [eI23, yNI_ne _ _ (by omega), eI22, yNI_ne _ _ (by omega), eI21, yNI_eq]
    · rw [eI23, yNI_ne _ _ (by omega), eI22, yNI_eq]
    · rw [eI23, yNI_eq]
  exact e_122 (f_154 (pc := 428) (e := (428, 122, 0, 0, 0, 0, 0, 0)) rfl) (hk _ _ _ (by rw [eT23, yNT_ne _ _ _ (by omega), eT22, yNT_ne _ _ _ (by omega), eT21, yNT_ne _ _ _ (by omega), eT20, yNT_ne _ _ _ (by omega), eT19, yNT_ne _ _ _ (by omega), eT18, yNT_ne _ _ _ (by omega), eT17, yNT_ne _ _ _ (by omega), eT16, yNT_ne _ _ _ (by omega), eT15, yNT_ne _ _ _ (by omega), eT14, yNT_ne _ _ _ (by omega), eT13, yNT_ne _ _ _ (by omega), eT12, yNT_ne _ _ _ (by omega), eT11, yNT_ne _ _ _ (by omega), eT10, yNT_ne _ _ _ (by omega), eT9, yNT_ne _ _ _ (by omega), eT8, yNT_ne _ _ _ (by omega), eT7, yNT_ne _ _ _ (by omega), eT6, yNT_ne _ _ _ (by omega), eT5, yNT_ne _ _ _ (by omega), eT4, yNT_ne _ _ _ (by omega), eT3, yNT_ne _ _ _ (by omega), eT2, yNT_ne _ _ _ (by omega), eT1, yNT_eq]) (by rw [eT23, yNT_ne _ _ _ (by omega), eT22, yNT_ne _ _ _ (by omega), eT21, yNT_ne _ _ _ (by omega), eT20, yNT_ne _ _ _ (by omega), eT19, yNT_ne _ _ _ (by omega), eT18, yNT_ne _ _ _ (by omega), eT17, yNT_ne _ _ _ (by omega), eT16, yNT_ne _ _ _ (by omega), eT15, yNT_ne _ _ _ (by omega), eT14, yNT_ne _ _ _ (by omega), eT13, yNT_ne _ _ _ (by omega), eT12, yNT_ne _ _ _ (by omega), eT11, yNT_ne _ _ _ (by omega), eT10, yNT_ne _ _ _ (by omega), eT9, yNT_ne _ _ _ (by omega), eT8, yNT_ne _ _ _ (by omega), eT7, yNT_ne _ _ _ (by omega), eT6, yNT_ne _ _ _ (by omega), eT5, yNT_ne _ _ _ (by omega), eT4, yNT_ne _ _ _ (by omega), eT3, yNT_ne _ _ _ (by omega), eT2, yNT_eq]) (by rw [eT23, yNT_ne _ _ _ (by omega), eT22, yNT_ne _ _ _ (by omega), eT21, yNT_ne _ _ _ (by omega), eT20, yNT_ne _ _ _ (by omega), eT19, yNT_ne _ _ _ (by omega), eT18, yNT_ne _ _ _ (by omega), eT17, yNT_ne _ _ _ (by omega), eT16, yNT_ne _ _ _ (by omega), eT15, yNT_ne _ _ _ (by omega), eT14, yNT_ne _ _ _ (by omega), eT13, yNT_ne _ _ _ (by omega), eT12, yNT_ne _ _ _ (by omega), eT11, yNT_ne _ _ _ (by omega), eT10, yNT_ne _ _ _ (by omega), eT9, yNT_ne _ _ _ (by omega), eT8, yNT_ne _ _ _ (by omega), eT7, yNT_ne _ _ _ (by omega), eT6, yNT_ne _ _ _ (by omega), eT5, yNT_ne _ _ _ (by omega), eT4, yNT_ne _ _ _ (by omega), eT3, yNT_eq]) (by rw [eT23, yNT_ne _ _ _ (by omega), eT22, yNT_ne _ _ _ (by omega), eT21, yNT_ne _ _ _ (by omega), eT20, yNT_ne _ _ _ (by omega), eT19, yNT_ne _ _ _ (by omega), eT18, yNT_ne _ _ _ (by omega), eT17, yNT_ne _ _ _ (by omega), eT16, yNT_ne _ _ _ (by omega), eT15, yNT_ne _ _ _ (by omega), eT14, yNT_ne _ _ _ (by omega), eT13, yNT_ne _ _ _ (by omega), eT12, yNT_ne _ _ _ (by omega), eT11, yNT_ne _ _ _ (by omega), eT10, yNT_ne _ _ _ (by omega), eT9, yNT_ne _ _ _ (by omega), eT8, yNT_ne _ _ _ (by omega), eT7, yNT_ne _ _ _ (by omega), eT6, yNT_ne _ _ _ (by omega), eT5, yNT_ne _ _ _ (by omega), eT4, yNT_eq]) (by rw [eT23, yNT_ne _ _ _ (by omega), eT22, yNT_ne _ _ _ (by omega), eT21, yNT_ne _ _ _ (by omega), eT20, yNT_ne _ _ _ (by omega), eT19, yNT_ne _ _ _ (by omega), eT18, yNT_ne _ _ _ (by omega), eT17, yNT_ne _ _ _ (by omega), eT16, yNT_ne _ _ _ (by omega), eT15, yNT_ne _ _ _ (by omega), eT14, yNT_ne _ _ _ (by omega), eT13, yNT_ne _ _ _ (by omega), eT12, yNT_ne _ _ _ (by omega), eT11, yNT_ne _ _ _ (by omega), eT10, yNT_ne _ _ _ (by omega), eT9, yNT_ne _ _ _ (by omega), eT8, yNT_ne _ _ _ (by omega), eT7, yNT_ne _ _ _ (by omega), eT6, yNT_ne _ _ _ (by omega), eT5, yNT_eq]) (by rw [eT23, yNT_ne _ _ _ (by omega), eT22, yNT_ne _ _ _ (by omega), eT21, yNT_ne _ _ _ (by omega), eT20, yNT_ne _ _ _ (by omega), eT19, yNT_ne _ _ _ (by omega), eT18, yNT_ne _ _ _ (by omega), eT17, yNT_ne _ _ _ (by omega), eT16, yNT_ne _ _ _ (by omega), eT15, yNT_ne _ _ _ (by omega), eT14, yNT_ne _ _ _ (by omega), eT13, yNT_ne _ _ _ (by omega), eT12, yNT_ne _ _ _ (by omega), eT11, yNT_ne _ _ _ (by omega), eT10, yNT_ne _ _ _ (by omega), eT9, yNT_ne _ _ _ (by omega), eT8, yNT_ne _ _ _ (by omega), eT7, yNT_ne _ _ _ (by omega), eT6, yNT_eq]) (by rw [eT23, yNT_ne _ _ _ (by omega), eT22, yNT_ne _ _ _ (by omega), eT21, yNT_ne _ _ _ (by omega), eT20, yNT_ne _ _ _ (by omega), eT19, yNT_ne _ _ _ (by omega), eT18, yNT_ne _ _ _ (by omega), eT17, yNT_ne _ _ _ (by omega), eT16, yNT_ne _ _ _ (by omega), eT15, yNT_ne _ _ _ (by omega), eT14, yNT_ne _ _ _ (by omega), eT13, yNT_ne _ _ _ (by omega), eT12, yNT_ne _ _ _ (by omega), eT11, yNT_ne _ _ _ (by omega), eT10, yNT_ne _ _ _ (by omega), eT9, yNT_ne _ _ _ (by omega), eT8, yNT_ne _ _ _ (by omega), eT7, yNT_eq]) (by rw [eT23, yNT_ne _ _ _ (by omega), eT22, yNT_ne _ _ _ (by omega), eT21, yNT_ne _ _ _ (by omega), eT20, yNT_ne _ _ _ (by omega), eT19, yNT_ne _ _ _ (by omega), eT18, yNT_ne _ _ _ (by omega), eT17, yNT_ne _ _ _ (by omega), eT16, yNT_ne _ _ _ (by omega), eT15, yNT_ne _ _ _ (by omega), eT14, yNT_ne _ _ _ (by omega), eT13, yNT_ne _ _ _ (by omega), eT12, yNT_ne _ _ _ (by omega), eT11, yNT_ne _ _ _ (by omega), eT10, yNT_ne _ _ _ (by omega), eT9, yNT_ne _ _ _ (by omega), eT8, yNT_eq]) (by rw [eT23, yNT_ne _ _ _ (by omega), eT22, yNT_ne _ _ _ (by omega), eT21, yNT_ne _ _ _ (by omega), eT20, yNT_ne _ _ _ (by omega), eT19, yNT_ne _ _ _ (by omega), eT18, yNT_ne _ _ _ (by omega), eT17, yNT_ne _ _ _ (by omega), eT16, yNT_ne _ _ _ (by omega), eT15, yNT_ne _ _ _ (by omega), eT14, yNT_ne _ _ _ (by omega), eT13, yNT_ne _ _ _ (by omega), eT12, yNT_ne _ _ _ (by omega), eT11, yNT_ne _ _ _ (by omega), eT10, yNT_ne _ _ _ (by omega), eT9, yNT_eq]) (by rw [eT23, yNT_ne _ _ _ (by omega), eT22, yNT_ne _ _ _ (by omega), eT21, yNT_ne _ _ _ (by omega), eT20, yNT_ne _ _ _ (by omega), eT19, yNT_ne _ _ _ (by omega), eT18, yNT_ne _ _ _ (by omega), eT17, yNT_ne _ _ _ (by omega), eT16, yNT_ne _ _ _ (by omega), eT15, yNT_ne _ _ _ (by omega), eT14, yNT_ne _ _ _ (by omega), eT13, yNT_ne _ _ _ (by omega), eT12, yNT_ne _ _ _ (by omega), eT11, yNT_ne _ _ _ (by omega), eT10, yNT_eq]) (by rw [eT23, yNT_ne _ _ _ (by omega), eT22, yNT_ne _ _ _ (by omega), eT21, yNT_ne _ _ _ (by omega), eT20, yNT_ne _ _ _ (by omega), eT19, yNT_ne _ _ _ (by omega), eT18, yNT_ne _ _ _ (by omega), eT17, yNT_ne _ _ _ (by omega), eT16, yNT_ne _ _ _ (by omega), eT15, yNT_ne _ _ _ (by omega), eT14, yNT_ne _ _ _ (by omega), eT13, yNT_ne _ _ _ (by omega), eT12, yNT_ne _ _ _ (by omega), eT11, yNT_eq]) (by rw [eT23, yNT_ne _ _ _ (by omega), eT22, yNT_ne _ _ _ (by omega), eT21, yNT_ne _ _ _ (by omega), eT20, yNT_ne _ _ _ (by omega), eT19, yNT_ne _ _ _ (by omega), eT18, yNT_ne _ _ _ (by omega), eT17, yNT_ne _ _ _ (by omega), eT16, yNT_ne _ _ _ (by omega), eT15, yNT_ne _ _ _ (by omega), eT14, yNT_ne _ _ _ (by omega), eT13, yNT_ne _ _ _ (by omega), eT12, yNT_eq]) (by rw [eT23, yNT_ne _ _ _ (by omega), eT22, yNT_ne _ _ _ (by omega), eT21, yNT_ne _ _ _ (by omega), eT20, yNT_ne _ _ _ (by omega), eT19, yNT_ne _ _ _ (by omega), eT18, yNT_ne _ _ _ (by omega), eT17, yNT_ne _ _ _ (by omega), eT16, yNT_ne _ _ _ (by omega), eT15, yNT_ne _ _ _ (by omega), eT14, yNT_ne _ _ _ (by omega), eT13, yNT_eq]) (by rw [eT23, yNT_ne _ _ _ (by omega), eT22, yNT_ne _ _ _ (by omega), eT21, yNT_ne _ _ _ (by omega), eT20, yNT_ne _ _ _ (by omega), eT19, yNT_ne _ _ _ (by omega), eT18, yNT_ne _ _ _ (by omega), eT17, yNT_ne _ _ _ (by omega), eT16, yNT_ne _ _ _ (by omega), eT15, yNT_ne _ _ _ (by omega), eT14, yNT_eq]) (by rw [eT23, yNT_ne _ _ _ (by omega), eT22, yNT_ne _ _ _ (by omega), eT21, yNT_ne _ _ _ (by omega), eT20, yNT_ne _ _ _ (by omega), eT19, yNT_ne _ _ _ (by omega), eT18, yNT_ne _ _ _ (by omega), eT17, yNT_ne _ _ _ (by omega), eT16, yNT_ne _ _ _ (by omega), eT15, yNT_eq]) (by rw [eT23, yNT_ne _ _ _ (by omega), eT22, yNT_ne _ _ _ (by omega), eT21, yNT_ne _ _ _ (by omega), eT20, yNT_ne _ _ _ (by omega), eT19, yNT_ne _ _ _ (by omega), eT18, yNT_ne _ _ _ (by omega), eT17, yNT_ne _ _ _ (by omega), eT16, yNT_eq]) (by rw [eT23, yNT_ne _ _ _ (by omega), eT22, yNT_ne _ _ _ (by omega), eT21, yNT_ne _ _ _ (by omega), eT20, yNT_ne _ _ _ (by omega), eT19, yNT_ne _ _ _ (by omega), eT18, yNT_ne _ _ _ (by omega), eT17, yNT_eq]) (by rw [eT23, yNT_ne _ _ _ (by omega), eT22, yNT_ne _ _ _ (by omega), eT21, yNT_ne _ _ _ (by omega), eT20, yNT_ne _ _ _ (by omega), eT19, yNT_ne _ _ _ (by omega), eT18, yNT_eq]) (by rw [eT23, yNT_ne _ _ _ (by omega), eT22, yNT_ne _ _ _ (by omega), eT21, yNT_ne _ _ _ (by omega), eT20, yNT_ne _ _ _ (by omega), eT19, yNT_eq]) (by rw [eT23, yNT_ne _ _ _ (by omega), eT22, yNT_ne _ _ _ (by omega), eT21, yNT_ne _ _ _ (by omega), eT20, yNT_eq]) (by rw [eT23, yNT_ne _ _ _ (by omega), eT22, yNT_ne _ _ _ (by omega), eT21, yNT_eq]) (by rw [eT23, yNT_ne _ _ _ (by omega), eT22, yNT_eq]) (by rw [eT23, yNT_eq]) (by rw [eR23, yUR_ne _ _ (by omega), yNR_ne _ _ (by omega), eR22, yUR_ne _ _ (by omega), yNR_ne _ _ (by omega), eR21, yUR_ne _ _ (by omega), yNR_ne _ _ (by omega), eR20, yUR_ne _ _ (by omega), yNR_ne _ _ (by omega), eR19, yUR_ne _ _ (by omega), yNR_ne _ _ (by omega), eR18, yUR_ne _ _ (by omega), yNR_ne _ _ (by omega), eR17, yUR_ne _ _ (by omega), yNR_ne _ _ (by omega), eR16, yUR_ne _ _ (by omega), yNR_ne _ _ (by omega), eR15, yUR_ne _ _ (by omega), yNR_ne _ _ (by omega), eR14, yUR_ne _ _ (by omega), yNR_ne _ _ (by omega), eR13, yUR_ne _ _ (by omega), yNR_ne _ _ (by omega), eR12, yUR_ne _ _ (by omega), yNR_ne _ _ (by omega), eR11, yUR_ne _ _ (by omega), yNR_ne _ _ (by omega), eR10, yUR_ne _ _ (by omega), yNR_ne _ _ (by omega), eR9, yUR_ne _ _ (by omega), yNR_ne _ _ (by omega), eR8, yUR_ne _ _ (by omega), yNR_ne _ _ (by omega), eR7, yUR_ne _ _ (by omega), yNR_ne _ _ (by omega), eR6, yUR_ne _ _ (by omega), yNR_ne _ _ (by omega), eR5, yUR_ne _ _ (by omega), yNR_ne _ _ (by omega), eR4, yUR_ne _ _ (by omega), yNR_ne _ _ (by omega), eR3, yUR_ne _ _ (by omega), yNR_ne _ _ (by omega), eR2, yUR_ne _ _ (by omega), yNR_ne _ _ (by omega), eR1, yUR_eq]) (by rw [eR23, yUR_ne _ _ (by omega), yNR_ne _ _ (by omega), eR22, yUR_ne _ _ (by omega), yNR_ne _ _ (by omega), eR21, yUR_ne _ _ (by omega), yNR_ne _ _ (by omega), eR20, yUR_ne _ _ (by omega), yNR_ne _ _ (by omega), eR19, yUR_ne _ _ (by omega), yNR_ne _ _ (by omega), eR18, yUR_ne _ _ (by omega), yNR_ne _ _ (by omega), eR17, yUR_ne _ _ (by omega), yNR_ne _ _ (by omega), eR16, yUR_ne _ _ (by omega), yNR_ne _ _ (by omega), eR15, yUR_ne _ _ (by omega), yNR_ne _ _ (by omega), eR14, yUR_ne _ _ (by omega), yNR_ne _ _ (by omega), eR13, yUR_ne _ _ (by omega), yNR_ne _ _ (by omega), eR12, yUR_ne _ _ (by omega), yNR_ne _ _ (by omega), eR11, yUR_ne _ _ (by omega), yNR_ne _ _ (by omega), eR10, yUR_ne _ _ (by omega), yNR_ne _ _ (by omega), eR9, yUR_ne _ _ (by omega), yNR_ne _ _ (by omega), eR8, yUR_ne _ _ (by omega), yNR_ne _ _ (by omega), eR7, yUR_ne _ _ (by omega), yNR_ne _ _ (by omega), eR6, yUR_ne _ _ (by omega), yNR_ne _ _ (by omega), eR5, yUR_ne _ _ (by omega), yNR_ne _ _ (by omega), eR4, yUR_ne _ _ (by omega), yNR_ne _ _ (by omega), eR3, yUR_ne _ _ (by omega), yNR_ne _ _ (by omega), eR2, yUR_eq]) (by rw [eR23, yUR_ne _ _ (by omega), yNR_ne _ _ (by omega), eR22, yUR_ne _ _ (by omega), yNR_ne _ _ (by omega), eR21, yUR_ne _ _ (by omega), yNR_ne _ _ (by omega), eR20, yUR_ne _ _ (by omega), yNR_ne _ _ (by omega), eR19, yUR_ne _ _ (by omega), yNR_ne _ _ (by omega), eR18, yUR_ne _ _ (by omega), yNR_ne _ _ (by omega), eR17, yUR_ne _ _ (by omega), yNR_ne _ _ (by omega), eR16, yUR_ne _ _ (by omega), yNR_ne _ _ (by omega), eR15, yUR_ne _ _ (by omega), yNR_ne _ _ (by omega), eR14, yUR_ne _ _ (by omega), yNR_ne _ _ (by omega), eR13, yUR_ne _ _ (by omega), yNR_ne _ _ (by omega), eR12, yUR_ne _ _ (by omega), yNR_ne _ _ (by omega), eR11, yUR_ne _ _ (by omega), yNR_ne _ _ (by omega), eR10, yUR_ne _ _ (by omega), yNR_ne _ _ (by omega), eR9, yUR_ne _ _ (by omega), yNR_ne _ _ (by omega), eR8, yUR_ne _ _ (by omega), yNR_ne _ _ (by omega), eR7, yUR_ne _ _ (by omega), yNR_ne _ _ (by omega), eR6, yUR_ne _ _ (by omega), yNR_ne _ _ (by omega), eR5, yUR_ne _ _ (by omega), yNR_ne _ _ (by omega), eR4, yUR_ne _ _ (by omega), yNR_ne _ _ (by omega), eR3, yUR_eq]) (by rw [eR23, yUR_ne _ _ (by omega), yNR_ne _ _ (by omega), eR22, yUR_ne _ _ (by omega), yNR_ne _ _ (by omega), eR21, yUR_ne _ _ (by omega), yNR_ne _ _ (by omega), eR20, yUR_ne _ _ (by omega), yNR_ne _ _ (by omega), eR19, yUR_ne _ _ (by omega), yNR_ne _ _ (by omega), eR18, yUR_ne _ _ (by omega), yNR_ne _ _ (by omega), eR17, yUR_ne _ _ (by omega), yNR_ne _ _ (by omega), eR16, yUR_ne _ _ (by omega), yNR_ne _ _ (by omega), eR15, yUR_ne _ _ (by omega), yNR_ne _ _ (by omega), eR14, yUR_ne _ _ (by omega), yNR_ne _ _ (by omega), eR13, yUR_ne _ _ (by omega), yNR_ne _ _ (by omega), eR12, yUR_ne _ _ (by omega), yNR_ne _ _ (by omega), eR11, yUR_ne _ _ (by omega), yNR_ne _ _ (by omega), eR10, yUR_ne _ _ (by omega), yNR_ne _ _ (by omega), eR9, yUR_ne _ _ (by omega), yNR_ne _ _ (by omega), eR8, yUR_ne _ _ (by omega), yNR_ne _ _ (by omega), eR7, yUR_ne _ _ (by omega), yNR_ne _ _ (by omega), eR6, yUR_ne _ _ (by omega), yNR_ne _ _ (by omega), eR5, yUR_ne _ _ (by omega), yNR_ne _ _ (by omega), eR4, yUR_eq]) (by rw [eR23, yUR_ne _ _ (by omega), yNR_ne _ _ (by omega), eR22, yUR_ne _ _ (by omega), yNR_ne _ _ (by omega), eR21, yUR_ne _ _ (by omega), yNR_ne _ _ (by omega), eR20, yUR_ne _ _ (by omega), yNR_ne _ _ (by omega), eR19, yUR_ne _ _ (by omega), yNR_ne _ _ (by omega), eR18, yUR_ne _ _ (by omega), yNR_ne _ _ (by omega), eR17, yUR_ne _ _ (by omega), yNR_ne _ _ (by omega), eR16, yUR_ne _ _ (by omega), yNR_ne _ _ (by omega), eR15, yUR_ne _ _ (by omega), yNR_ne _ _ (by omega), eR14, yUR_ne _ _ (by omega), yNR_ne _ _ (by omega), eR13, yUR_ne _ _ (by omega), yNR_ne _ _ (by omega), eR12, yUR_ne _ _ (by omega), yNR_ne _ _ (by omega), eR11, yUR_ne _ _ (by omega), yNR_ne _ _ (by omega), eR10, yUR_ne _ _ (by omega), yNR_ne _ _ (by omega), eR9, yUR_ne _ _ (by omega), yNR_ne _ _ (by omega), eR8, yUR_ne _ _ (by omega), yNR_ne _ _ (by omega), eR7, yUR_ne _ _ (by omega), yNR_ne _ _ (by omega), eR6, yUR_ne _ _ (by omega), yNR_ne _ _ (by omega), eR5, yUR_eq]) (by rw [eR23, yUR_ne _ _ (by omega), yNR_ne _ _ (by omega), eR22, yUR_ne _ _ (by omega), yNR_ne _ _ (by omega), eR21, yUR_ne _ _ (by omega), yNR_ne _ _ (by omega), eR20, yUR_ne _ _ (by omega), yNR_ne _ _ (by omega), eR19, yUR_ne _ _ (by omega), yNR_ne _ _ (by omega), eR18, yUR_ne _ _ (by omega), yNR_ne _ _ (by omega), eR17, yUR_ne _ _ (by omega), yNR_ne _ _ (by omega), eR16, yUR_ne _ _ (by omega), yNR_ne _ _ (by omega), eR15, yUR_ne _ _ (by omega), yNR_ne _ _ (by omega), eR14, yUR_ne _ _ (by omega), yNR_ne _ _ (by omega), eR13, yUR_ne _ _ (by omega), yNR_ne _ _ (by omega), eR12, yUR_ne _ _ (by omega), yNR_ne _ _ (by omega), eR11, yUR_ne _ _ (by omega), yNR_ne _ _ (by omega), eR10, yUR_ne _ _ (by omega), yNR_ne _ _ (by omega), eR9, yUR_ne _ _ (by omega), yNR_ne _ _ (by omega), eR8, yUR_ne _ _ (by omega), yNR_ne _ _ (by omega), eR7, yUR_ne _ _ (by omega), yNR_ne _ _ (by omega), eR6, yUR_eq]) (by rw [eR23, yUR_ne _ _ (by omega), yNR_ne _ _ (by omega), eR22, yUR_ne _ _ (by omega), yNR_ne _ _ (by omega), eR21, yUR_ne _ _ (by omega), yNR_ne _ _ (by omega), eR20, yUR_ne _ _ (by omega), yNR_ne _ _ (by omega), eR19, yUR_ne _ _ (by omega), yNR_ne _ _ (by omega), eR18, yUR_ne _ _ (by omega), yNR_ne _ _ (by omega), eR17, yUR_ne _ _ (by omega), yNR_ne _ _ (by omega), eR16, yUR_ne _ _ (by omega), yNR_ne _ _ (by omega), eR15, yUR_ne _ _ (by omega), yNR_ne _ _ (by omega), eR14, yUR_ne _ _ (by omega), yNR_ne _ _ (by omega), eR13, yUR_ne _ _ (by omega), yNR_ne _ _ (by omega), eR12, yUR_ne _ _ (by omega), yNR_ne _ _ (by omega), eR11, yUR_ne _ _ (by omega), yNR_ne _ _ (by omega), eR10, yUR_ne _ _ (by omega), yNR_ne _ _ (by omega), eR9, yUR_ne _ _ (by omega), yNR_ne _ _ (by omega), eR8, yUR_ne _ _ (by omega), yNR_ne _ _ (by omega), eR7, yUR_eq]) (by rw [eR23, yUR_ne _ _ (by omega), yNR_ne _ _ (by omega), eR22, yUR_ne _ _ (by omega), yNR_ne _ _ (by omega), eR21, yUR_ne _ _ (by omega), yNR_ne _ _ (by omega), eR20, yUR_ne _ _ (by omega), yNR_ne _ _ (by omega), eR19, yUR_ne _ _ (by omega), yNR_ne _ _ (by omega), eR18, yUR_ne _ _ (by omega), yNR_ne _ _ (by omega), eR17, yUR_ne _ _ (by omega), yNR_ne _ _ (by omega), eR16, yUR_ne _ _ (by omega), yNR_ne _ _ (by omega), eR15, yUR_ne _ _ (by omega), yNR_ne _ _ (by omega), eR14, yUR_ne _ _ (by omega), yNR_ne _ _ (by omega), eR13, yUR_ne _ _ (by omega), yNR_ne _ _ (by omega), eR12, yUR_ne _ _ (by omega), yNR_ne _ _ (by omega), eR11, yUR_ne _ _ (by omega), yNR_ne _ _ (by omega), eR10, yUR_ne _ _ (by omega), yNR_ne _ _ (by omega), eR9, yUR_ne _ _ (by omega), yNR_ne _ _ (by omega), eR8, yUR_eq]) (by rw [eR23, yUR_ne _ _ (by omega), yNR_ne _ _ (by omega), eR22, yUR_ne _ _ (by omega), yNR_ne _ _ (by omega), eR21, yUR_ne _ _ (by omega), yNR_ne _ _ (by omega), eR20, yUR_ne _ _ (by omega), yNR_ne _ _ (by omega), eR19, yUR_ne _ _ (by omega), yNR_ne _ _ (by omega), eR18, yUR_ne _ _ (by omega), yNR_ne _ _ (by omega), eR17, yUR_ne _ _ (by omega), yNR_ne _ _ (by omega), eR16, yUR_ne _ _ (by omega), yNR_ne _ _ (by omega), eR15, yUR_ne _ _ (by omega), yNR_ne _ _ (by omega), eR14, yUR_ne _ _ (by omega), yNR_ne _ _ (by omega), eR13, yUR_ne _ _ (by omega), yNR_ne _ _ (by omega), eR12, yUR_ne _ _ (by omega), yNR_ne _ _ (by omega), eR11, yUR_ne _ _ (by omega), yNR_ne _ _ (by omega), eR10, yUR_ne _ _ (by omega), yNR_ne _ _ (by omega), eR9, yUR_eq]) (by rw [eR23, yUR_ne _ _ (by omega), yNR_ne _ _ (by omega), eR22, yUR_ne _ _ (by omega), yNR_ne _ _ (by omega), eR21, yUR_ne _ _ (by omega), yNR_ne _ _ (by omega), eR20, yUR_ne _ _ (by omega), yNR_ne _ _ (by omega), eR19, yUR_ne _ _ (by omega), yNR_ne _ _ (by omega), eR18, yUR_ne _ _ (by omega), yNR_ne _ _ (by omega), eR17, yUR_ne _ _ (by omega), yNR_ne _ _ (by omega), eR16, yUR_ne _ _ (by omega), yNR_ne _ _ (by omega), eR15, yUR_ne _ _ (by omega), yNR_ne _ _ (by omega), eR14, yUR_ne _ _ (by omega), yNR_ne _ _ (by omega), eR13, yUR_ne _ _ (by omega), yNR_ne _ _ (by omega), eR12, yUR_ne _ _ (by omega), yNR_ne _ _ (by omega), eR11, yUR_ne _ _ (by omega), yNR_ne _ _ (by omega), eR10, yUR_eq]) (by rw [eR23, yUR_ne _ _ (by omega), yNR_ne _ _ (by omega), eR22, yUR_ne _ _ (by omega), yNR_ne _ _ (by omega), eR21, yUR_ne _ _ (by omega), yNR_ne _ _ (by omega), eR20, yUR_ne _ _ (by omega), yNR_ne _ _ (by omega), eR19, yUR_ne _ _ (by omega), yNR_ne _ _ (by omega), eR18, yUR_ne _ _ (by omega), yNR_ne _ _ (by omega), eR17, yUR_ne _ _ (by omega), yNR_ne _ _ (by omega), eR16, yUR_ne _ _ (by omega), yNR_ne _ _ (by omega), eR15, yUR_ne _ _ (by omega), yNR_ne _ _ (by omega), eR14, yUR_ne _ _ (by omega), yNR_ne _ _ (by omega), eR13, yUR_ne _ _ (by omega), yNR_ne _ _ (by omega), eR12, yUR_ne _ _ (by omega), yNR_ne _ _ (by omega), eR11, yUR_eq]) (by rw [eR23, yUR_ne _ _ (by omega), yNR_ne _ _ (by omega), eR22, yUR_ne _ _ (by omega), yNR_ne _ _ (by omega), eR21, yUR_ne _ _ (by omega), yNR_ne _ _ (by omega), eR20, yUR_ne _ _ (by omega), yNR_ne _ _ (by omega), eR19, yUR_ne _ _ (by omega), yNR_ne _ _ (by omega), eR18, yUR_ne _ _ (by omega), yNR_ne _ _ (by omega), eR17, yUR_ne _ _ (by omega), yNR_ne _ _ (by omega), eR16, yUR_ne _ _ (by omega), yNR_ne _ _ (by omega), eR15, yUR_ne _ _ (by omega), yNR_ne _ _ (by omega), eR14, yUR_ne _ _ (by omega), yNR_ne _ _ (by omega), eR13, yUR_ne _ _ (by omega), yNR_ne _ _ (by omega), eR12, yUR_eq]) (by rw [eR23, yUR_ne _ _ (by omega), yNR_ne _ _ (by omega), eR22, yUR_ne _ _ (by omega), yNR_ne _ _ (by omega), eR21, yUR_ne _ _ (by omega), yNR_ne _ _ (by omega), eR20, yUR_ne _ _ (by omega), yNR_ne _ _ (by omega), eR19, yUR_ne _ _ (by omega), yNR_ne _ _ (by omega), eR18, yUR_ne _ _ (by omega), yNR_ne _ _ (by omega), eR17, yUR_ne _ _ (by omega), yNR_ne _ _ (by omega), eR16, yUR_ne _ _ (by omega), yNR_ne _ _ (by omega), eR15, yUR_ne _ _ (by omega), yNR_ne _ _ (by omega), eR14, yUR_ne _ _ (by omega), yNR_ne _ _ (by omega), eR13, yUR_eq]) (by rw [eR23, yUR_ne _ _ (by omega), yNR_ne _ _ (by omega), eR22, yUR_ne _ _ (by omega), yNR_ne _ _ (by omega), eR21, yUR_ne _ _ (by omega), yNR_ne _ _ (by omega), eR20, yUR_ne _ _ (by omega), yNR_ne _ _ (by omega), eR19, yUR_ne _ _ (by omega), yNR_ne _ _ (by omega), eR18, yUR_ne _ _ (by omega), yNR_ne _ _ (by omega), eR17, yUR_ne _ _ (by omega), yNR_ne _ _ (by omega), eR16, yUR_ne _ _ (by omega), yNR_ne _ _ (by omega), eR15, yUR_ne _ _ (by omega), yNR_ne _ _ (by omega), eR14, yUR_eq]) (by rw [eR23, yUR_ne _ _ (by omega), yNR_ne _ _ (by omega), eR22, yUR_ne _ _ (by omega), yNR_ne _ _ (by omega), eR21, yUR_ne _ _ (by omega), yNR_ne _ _ (by omega), eR20, yUR_ne _ _ (by omega), yNR_ne _ _ (by omega), eR19, yUR_ne _ _ (by omega), yNR_ne _ _ (by omega), eR18, yUR_ne _ _ (by omega), yNR_ne _ _ (by omega), eR17, yUR_ne _ _ (by omega), yNR_ne _ _ (by omega), eR16, yUR_ne _ _ (by omega), yNR_ne _ _ (by omega), eR15, yUR_eq]) (by rw [eR23, yUR_ne _ _ (by omega), yNR_ne _ _ (by omega), eR22, yUR_ne _ _ (by omega), yNR_ne _ _ (by omega), eR21, yUR_ne _ _ (by omega), yNR_ne _ _ (by omega), eR20, yUR_ne _ _ (by omega), yNR_ne _ _ (by omega), eR19, yUR_ne _ _ (by omega), yNR_ne _ _ (by omega), eR18, yUR_ne _ _ (by omega), yNR_ne _ _ (by omega), eR17, yUR_ne _ _ (by omega), yNR_ne _ _ (by omega), eR16, yUR_eq]) (by rw [eR23, yUR_ne _ _ (by omega), yNR_ne _ _ (by omega), eR22, yUR_ne _ _ (by omega), yNR_ne _ _ (by omega), eR21, yUR_ne _ _ (by omega), yNR_ne _ _ (by omega), eR20, yUR_ne _ _ (by omega), yNR_ne _ _ (by omega), eR19, yUR_ne _ _ (by omega), yNR_ne _ _ (by omega), eR18, yUR_ne _ _ (by omega), yNR_ne _ _ (by omega), eR17, yUR_eq]) (by rw [eR23, yUR_ne _ _ (by omega), yNR_ne _ _ (by omega), eR22, yUR_ne _ _ (by omega), yNR_ne _ _ (by omega), eR21, yUR_ne _ _ (by omega), yNR_ne _ _ (by omega), eR20, yUR_ne _ _ (by omega), yNR_ne _ _ (by omega), eR19, yUR_ne _ _ (by omega), yNR_ne _ _ (by omega), eR18, yUR_eq]) (by rw [eR23, yUR_ne _ _ (by omega), yNR_ne _ _ (by omega), eR22, yUR_ne _ _ (by omega), yNR_ne _ _ (by omega), eR21, yUR_ne _ _ (by omega), yNR_ne _ _ (by omega), eR20, yUR_ne _ _ (by omega), yNR_ne _ _ (by omega), eR19, yUR_eq]) (by rw [eR23, yUR_ne _ _ (by omega), yNR_ne _ _ (by omega), eR22, yUR_ne _ _ (by omega), yNR_ne _ _ (by omega), eR21, yUR_ne _ _ (by omega), yNR_ne _ _ (by omega), eR20, yUR_eq]) (by rw [eR23, yUR_ne _ _ (by omega), yNR_ne _ _ (by omega), eR22, yUR_ne _ _ (by omega), yNR_ne _ _ (by omega), eR21, yUR_eq]) (by rw [eR23, yUR_ne _ _ (by omega), yNR_ne _ _ (by omega), eR22, yUR_eq]) (by rw [eR23, yUR_eq]) ⟨m23.1, m23.2.1, fun k j h => by rw [fy23.1 k j (by omega)]; exact m23.2.2 k j h⟩ (fun k j h1 h2 h3 => by rw [fy23.1 k j h3]; exact zz k j h1 h2) fy23.2)
end Sy
