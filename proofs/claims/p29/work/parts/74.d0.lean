/-! BLOCKS of the class: findWord, cell, chair, printed by wip/whole/y/gen35.py -/
section Sy
variable {l : Launch} {D : va_G} {cy : Nat → ClassId} {z d bc bs nc ns : Nat} {lo : yL} {st : List yV} {h : yHp} {K : yKo}
theorem e_35_9 (hdd : 3 ≤ d) (hc1 : yCat st ≤ 8) (hk : yW l zSS D cy zFk z d 35 bc bs K nc ns 14 lo (yi 112 :: st) h) : yW l zSS D cy zFk z d 35 bc bs K nc ns 9 lo st h :=
  ys_wlen zWS_good jWs_zs (by decide +kernel) (by decide +kernel) (by decide +kernel) hdd hc1 hk
theorem e_35_25 {x : Int} (hx : yLd lo 4 = some (yi x)) (hx0 : 0 ≤ x) (hx1 : x < 112) (hdd : 4 ≤ d) (hc1 : yCat st ≤ 8) (hk : yW l zSS D cy zFk z d 35 bc bs K nc ns 32 lo (yi (zCh x.toNat).toInt :: st) h) : yW l zSS D cy zFk z d 35 bc bs K nc ns 25 lo st h :=
  ys_wch (pc3 := 29) zWS_good jWs_zs (by decide +kernel) (by decide +kernel) (.inr ⟨by decide +kernel, rfl⟩) (by decide +kernel) hx hx0 hx1 hdd hc1 hk
theorem e_116_16 (htr : l.stackTraces = false) (hdd : 6 ≤ d) (hc1 : yCat st ≤ 8) (hb1 : nc + 1 ≤ bc) (hb2 : ns + 6 ≤ bs) (hk : K (some (yr none)) h) : yW l zSS D cy zFk z d 116 bc bs K nc ns 16 lo st h :=
  ys_throw (own := "ChairAlley") (ik := 124) (ic := 126) htr rfl (by decide +kernel) xG_zs xAt_bad xAt_ot (by decide +kernel) (by decide +kernel) (by decide +kernel) (by decide +kernel) hdd hc1 hb1 hb2 hk
theorem e_116_130 (htr : l.stackTraces = false) (hdd : 6 ≤ d) (hc1 : yCat st ≤ 8) (hb1 : nc + 1 ≤ bc) (hb2 : ns + 6 ≤ bs) (hk : K (some (yr none)) h) : yW l zSS D cy zFk z d 116 bc bs K nc ns 130 lo st h :=
  ys_throw (own := "ChairAlley") (ik := 124) (ic := 126) htr rfl (by decide +kernel) xG_zs xAt_bad xAt_ot (by decide +kernel) (by decide +kernel) (by decide +kernel) (by decide +kernel) hdd hc1 hb1 hb2 hk
theorem e_117_14 (htr : l.stackTraces = false) (hdd : 6 ≤ d) (hc1 : yCat st ≤ 8) (hb1 : nc + 1 ≤ bc) (hb2 : ns + 6 ≤ bs) (hk : K (some (yr none)) h) : yW l zSS D cy zFk z d 117 bc bs K nc ns 14 lo st h :=
  ys_throw (own := "ChairAlley") (ik := 124) (ic := 126) htr rfl (by decide +kernel) xG_zs xAt_bad xAt_ot (by decide +kernel) (by decide +kernel) (by decide +kernel) (by decide +kernel) hdd hc1 hb1 hb2 hk
theorem e_117_180 (htr : l.stackTraces = false) (hdd : 6 ≤ d) (hc1 : yCat st ≤ 8) (hb1 : nc + 1 ≤ bc) (hb2 : ns + 6 ≤ bs) (hk : K (some (yr none)) h) : yW l zSS D cy zFk z d 117 bc bs K nc ns 180 lo st h :=
  ys_throw (own := "ChairAlley") (ik := 124) (ic := 126) htr rfl (by decide +kernel) xG_zs xAt_bad xAt_ot (by decide +kernel) (by decide +kernel) (by decide +kernel) (by decide +kernel) hdd hc1 hb1 hb2 hk
end Sy
section Sy
variable {l : Launch} {D : va_G} {cy : Nat → ClassId} {z d bc bs N : Nat} {T : Nat → Nat × Nat} {R : Nat → Nat → Option Nat} {I : Nat → Nat → Int} {K : yKo}
/-! ChairAlley$Reader.findWord()V -/
set_option maxRecDepth 20000 in
theorem B_35_0 (hT : yLT T) (hR : yLR R) (hd4 : 4 ≤ d) (F : yW l zSS D cy zFk z d 35 bc bs K 0 0 7 [(0, yr (some 1)), (1, yi 0), (2, yj 0), (4, yi 0)] [] (N, T, R, I)) :
    yW l zSS D cy zFk z d 35 bc bs K 0 0 0 [(0, yr (some 1))] [] (N, T, R, I) := by
  refine e_0 (f_35 (pc := 0) (e := (0, 0, 0, 0, 0, 0, 0, 1)) rfl) (v := 0) rfl ?_
  refine e_20 (f_35 (pc := 1) (e := (1, 20, 1, 0, 0, 0, 0, 2)) rfl) ?_
  refine e_6 (f_35 (pc := 2) (e := (2, 6, 0, 0, 0, 0, 0, 3)) rfl) (v := 0) rfl ?_
  refine e_24 (f_35 (pc := 3) (e := (3, 24, 2, 0, 0, 0, 0, 4)) rfl) ?_
  refine e_0 (f_35 (pc := 4) (e := (4, 0, 0, 0, 0, 0, 0, 5)) rfl) (v := 0) rfl ?_
  refine e_21 (f_35 (pc := 5) (e := (5, 21, 4, 0, 0, 0, 0, 7)) rfl) ?_
  refine e_lo [0, 1, 2, 4] rfl ?_
  exact F
set_option maxRecDepth 20000 in
theorem B_35_7 (hT : yLT T) (hR : yLR R) (hd4 : 4 ≤ d) {x1 x2 x4 : Int} (F : (112 ≤ x4 → K none (N, T, R, I)) ∧ (¬ (112 ≤ x4) → ((I 1 6) ≠ (-1) → K none (N, T, R, I)) ∧ (¬ ((I 1 6) ≠ (-1)) → 0 ≤ x4 ∧ x4 < 112 ∧ (((zCh x4.toNat).toInt = 32 → ((ylcmp x2 (I 1 7)) ≠ 0 → ∀ I7, I7 = yU I 1 6 (-1) → (yW l zSS D cy zFk z d 35 bc bs K 0 0 7 [(0, yr (some 1)), (1, yi (yadd x1 1)), (2, yj 0), (4, yi (yadd x4 1))] [] (N, T, R, I7))) ∧ (¬ ((ylcmp x2 (I 1 7)) ≠ 0) → ∀ I8, I8 = yU I 1 6 x1 → (yW l zSS D cy zFk z d 35 bc bs K 0 0 7 [(0, yr (some 1)), (1, yi (yadd x1 1)), (2, yj 0), (4, yi (yadd x4 1))] [] (N, T, R, I8)))) ∧ (¬ ((zCh x4.toNat).toInt = 32) → yW l zSS D cy zFk z d 35 bc bs K 0 0 7 [(0, yr (some 1)), (1, yi x1), (2, yj (yladd (ylmul x2 32) (yi2l (yadd (ysub ((zCh x4.toNat).toInt) 97) 1)))), (4, yi (yadd x4 1))] [] (N, T, R, I)))))) :
    yW l zSS D cy zFk z d 35 bc bs K 0 0 7 [(0, yr (some 1)), (1, yi x1), (2, yj x2), (4, yi x4)] [] (N, T, R, I) := by
  refine e_11 (f_35 (pc := 7) (e := (7, 11, 4, 0, 0, 0, 0, 9)) rfl) rfl ?_
  refine e_35_9 (by omega) (Nat.le_of_ble_eq_true rfl) ?_
  refine e_73 (f_35 (pc := 14) (e := (14, 73, 88, 0, 0, 0, 0, 17)) rfl) (fun c1 => ?_) (fun c1 => ?_)
  · replace F := F.1 c1
    exact e_122 (f_35 (pc := 88) (e := (88, 122, 0, 0, 0, 0, 0, 0)) rfl) F
  · replace F := F.2 c1
    refine e_12 (f_35 (pc := 17) (e := (17, 12, 0, 0, 0, 0, 0, 18)) rfl) rfl ?_
    refine e_90 zA (f_35 (pc := 18) (e := (18, 90, 3, 6, 0, 46, 866, 21)) rfl) rfl (hT 1 rfl) rfl rfl ?_
    refine e_0 (f_35 (pc := 21) (e := (21, 0, 4294967295, 0, 0, 0, 0, 22)) rfl) (v := (-1)) rfl ?_
    refine e_71 (f_35 (pc := 22) (e := (22, 71, 88, 0, 0, 0, 0, 25)) rfl) (fun c2 => ?_) (fun c2 => ?_)
    · replace F := F.1 c2
      exact e_122 (f_35 (pc := 88) (e := (88, 122, 0, 0, 0, 0, 0, 0)) rfl) F
    · replace F := F.2 c2
      obtain ⟨b3, b4, F⟩ := F
      refine e_35_25 rfl b3 b4 (by omega) (Nat.le_of_ble_eq_true rfl) ?_
      refine e_21 (f_35 (pc := 32) (e := (32, 21, 5, 0, 0, 0, 0, 34)) rfl) ?_
      refine e_11 (f_35 (pc := 34) (e := (34, 11, 5, 0, 0, 0, 0, 36)) rfl) rfl ?_
      refine e_1 (f_35 (pc := 36) (e := (36, 1, 32, 0, 0, 0, 0, 38)) rfl) (v := 32) rfl ?_
      refine e_70 (f_35 (pc := 38) (e := (38, 70, 59, 0, 0, 0, 0, 41)) rfl) (fun c5 => ?_) (fun c5 => ?_)
      · replace F := F.1 c5
        refine e_12 (f_35 (pc := 59) (e := (59, 12, 0, 0, 0, 0, 0, 60)) rfl) rfl ?_
        refine e_14 (f_35 (pc := 60) (e := (60, 14, 2, 0, 0, 0, 0, 61)) rfl) rfl ?_
        refine e_12 (f_35 (pc := 61) (e := (61, 12, 0, 0, 0, 0, 0, 62)) rfl) rfl ?_
        refine e_90 zA (f_35 (pc := 62) (e := (62, 90, 3, 7, 1, 55, 873, 65)) rfl) rfl (hT 1 rfl) rfl rfl ?_
        refine e_55 (f_35 (pc := 65) (e := (65, 55, 0, 0, 0, 0, 0, 66)) rfl) ?_
        refine e_61 (f_35 (pc := 66) (e := (66, 61, 73, 0, 0, 0, 0, 69)) rfl) (fun c6 => ?_) (fun c6 => ?_)
        · replace F := F.1 c6
          refine e_0 (f_35 (pc := 73) (e := (73, 0, 4294967295, 0, 0, 0, 0, 74)) rfl) (v := (-1)) rfl ?_
          refine e_91 zA (f_35 (pc := 74) (e := (74, 91, 3, 6, 0, 46, 866, 77)) rfl) rfl (hT 1 rfl) rfl rfl trivial ?_
          replace F := F _ rfl
          refine e_26 (f_35 (pc := 77) (e := (77, 26, 1, 1, 0, 0, 0, 80)) rfl) (w := 1) rfl rfl ?_
          refine e_6 (f_35 (pc := 80) (e := (80, 6, 0, 0, 0, 0, 0, 81)) rfl) (v := 0) rfl ?_
          refine e_24 (f_35 (pc := 81) (e := (81, 24, 2, 0, 0, 0, 0, 82)) rfl) ?_
          refine e_26 (f_35 (pc := 82) (e := (82, 26, 4, 1, 0, 0, 0, 85)) rfl) (w := 1) rfl rfl ?_
          refine e_80 (f_35 (pc := 85) (e := (85, 80, 7, 0, 0, 0, 0, 88)) rfl) ?_
          refine e_lo [0, 1, 2, 4] rfl ?_
          exact F
        · replace F := F.2 c6
          refine e_10 (f_35 (pc := 69) (e := (69, 10, 1, 0, 0, 0, 0, 70)) rfl) rfl ?_
          refine e_80 (f_35 (pc := 70) (e := (70, 80, 74, 0, 0, 0, 0, 73)) rfl) ?_
          refine e_91 zA (f_35 (pc := 74) (e := (74, 91, 3, 6, 0, 46, 866, 77)) rfl) rfl (hT 1 rfl) rfl rfl trivial ?_
          replace F := F _ rfl
          refine e_26 (f_35 (pc := 77) (e := (77, 26, 1, 1, 0, 0, 0, 80)) rfl) (w := 1) rfl rfl ?_
          refine e_6 (f_35 (pc := 80) (e := (80, 6, 0, 0, 0, 0, 0, 81)) rfl) (v := 0) rfl ?_
          refine e_24 (f_35 (pc := 81) (e := (81, 24, 2, 0, 0, 0, 0, 82)) rfl) ?_
          refine e_26 (f_35 (pc := 82) (e := (82, 26, 4, 1, 0, 0, 0, 85)) rfl) (w := 1) rfl rfl ?_
          refine e_80 (f_35 (pc := 85) (e := (85, 80, 7, 0, 0, 0, 0, 88)) rfl) ?_
          refine e_lo [0, 1, 2, 4] rfl ?_
          exact F
      · replace F := F.2 c5
        refine e_14 (f_35 (pc := 41) (e := (41, 14, 2, 0, 0, 0, 0, 42)) rfl) rfl ?_
        refine e_5 (f_35 (pc := 42) (e := (42, 5, 32, 0, 0, 65, 872, 45)) rfl) (v := 32) rfl ?_
        refine e_44 (f_35 (pc := 45) (e := (45, 44, 0, 0, 0, 0, 0, 46)) rfl) ?_
        refine e_11 (f_35 (pc := 46) (e := (46, 11, 5, 0, 0, 0, 0, 48)) rfl) rfl ?_
        refine e_1 (f_35 (pc := 48) (e := (48, 1, 97, 0, 0, 0, 0, 50)) rfl) (v := 97) rfl ?_
        refine e_31 (f_35 (pc := 50) (e := (50, 31, 0, 0, 0, 0, 0, 51)) rfl) ?_
        refine e_0 (f_35 (pc := 51) (e := (51, 0, 1, 0, 0, 0, 0, 52)) rfl) (v := 1) rfl ?_
        refine e_30 (f_35 (pc := 52) (e := (52, 30, 0, 0, 0, 0, 0, 53)) rfl) ?_
        refine e_42 (f_35 (pc := 53) (e := (53, 42, 0, 0, 0, 0, 0, 54)) rfl) ?_
        refine e_43 (f_35 (pc := 54) (e := (54, 43, 0, 0, 0, 0, 0, 55)) rfl) ?_
        refine e_24 (f_35 (pc := 55) (e := (55, 24, 2, 0, 0, 0, 0, 56)) rfl) ?_
        refine e_80 (f_35 (pc := 56) (e := (56, 80, 82, 0, 0, 0, 0, 59)) rfl) ?_
        refine e_26 (f_35 (pc := 82) (e := (82, 26, 4, 1, 0, 0, 0, 85)) rfl) (w := 1) rfl rfl ?_
        refine e_80 (f_35 (pc := 85) (e := (85, 80, 7, 0, 0, 0, 0, 88)) rfl) ?_
        refine e_lo [0, 1, 2, 4] rfl ?_
        exact F
/-! ChairAlley.cell(II)I -/
set_option maxRecDepth 20000 in
theorem B_116_0 (hT : yLT T) (hR : yLR R) (htr : l.stackTraces = false) (hd6 : 6 ≤ d) (hb1 : 1 ≤ bc) (hb6 : 6 ≤ bs) {x1 x2 : Int} (F : yW l zSS D cy zFk z d 10 0 0 (fun r h' => ∃ r2 I1, r = some (yi r2) ∧ h' = (N, T, R, I1) ∧ ((r2 ≠ 0 → (x2 = 0 → yW l zSS D cy zFk z d 12 0 0 (fun r h' => ∃ r6 I5, r = some (yi r6) ∧ h' = (N, T, R, I5) ∧ ((r6 = 0 → K (some (yi 0)) (N, T, R, I5)) ∧ (¬ (r6 = 0) → K (some (yi 1)) (N, T, R, I5)))) 0 0 0 [(0, yr (some 4)), (1, yi x1), (2, yi 1)] [] (N, T, R, I1)) ∧ (¬ (x2 = 0) → (x2 = 1 → yW l zSS D cy zFk z d 12 0 0 (fun r h' => ∃ r10 I9, r = some (yi r10) ∧ h' = (N, T, R, I9) ∧ ((r10 = 0 → K (some (yi 0)) (N, T, R, I9)) ∧ (¬ (r10 = 0) → K (some (yi 1)) (N, T, R, I9)))) 0 0 0 [(0, yr (some 4)), (1, yi x1), (2, yi 2)] [] (N, T, R, I1)) ∧ (¬ (x2 = 1) → (x2 = 2 → yW l zSS D cy zFk z d 12 0 0 (fun r h' => ∃ r14 I13, r = some (yi r14) ∧ h' = (N, T, R, I13) ∧ ((r14 = 0 → K (some (yi 0)) (N, T, R, I13)) ∧ (¬ (r14 = 0) → K (some (yi 1)) (N, T, R, I13)))) 0 0 0 [(0, yr (some 4)), (1, yi x1), (2, yi 3)] [] (N, T, R, I1)) ∧ (¬ (x2 = 2) → (x2 = 3 → 0 ≤ x1 ∧ x1 < 100 ∧ (K (some (yi (I1 17 x1.toNat))) (N, T, R, I1))) ∧ (¬ (x2 = 3) → (x2 = 4 → yW l zSS D cy zFk z d 59 0 0 (fun r h' => ∃ r21 I20, r = some (yi r21) ∧ h' = (N, T, R, I20) ∧ (K (some (yi r21)) (N, T, R, I20))) 0 0 0 [(0, yr (some 16)), (1, yi x1)] [] (N, T, R, I1)) ∧ (¬ (x2 = 4) → K (some (yr none)) (N, T, R, I1))))))) ∧ (¬ (r2 ≠ 0) → K (some (yr none)) (N, T, R, I1)))) 0 0 0 [(0, yr (some 4)), (1, yi x1)] [] (N, T, R, I)) :
    yW l zSS D cy zFk z (d + 1) 116 bc bs K 0 0 0 [(0, yr (some 0)), (1, yi x1), (2, yi x2)] [] (N, T, R, I) := by
  refine e_12 (f_116 (pc := 0) (e := (0, 12, 0, 0, 0, 0, 0, 1)) rfl) rfl ?_
  refine e_90r zA (f_116 (pc := 1) (e := (1, 90, 10, 1, 3, 19, 1064, 4)) rfl) rfl (hT 0 rfl) rfl rfl (hR 0 1 rfl) ?_
  refine e_90r zA (f_116 (pc := 4) (e := (4, 90, 9, 0, 3, 28, 1067, 7)) rfl) rfl (hT 3 rfl) rfl rfl (hR 3 0 rfl) ?_
  refine e_22 (f_116 (pc := 7) (e := (7, 22, 3, 0, 0, 0, 0, 8)) rfl) ?_
  refine e_12 (f_116 (pc := 8) (e := (8, 12, 3, 0, 0, 0, 0, 9)) rfl) rfl ?_
  refine e_10 (f_116 (pc := 9) (e := (9, 10, 1, 0, 0, 0, 0, 10)) rfl) rfl ?_
  refine e_130 (f_116 (pc := 10) (e := (10, 130, 10, 0, 1, 159, 1097, 13)) rfl) zA (as := [yr (some 4), yi x1]) (rest := []) rfl rfl rfl rfl (Nat.le_of_ble_eq_true rfl) (Nat.le_of_ble_eq_true rfl) ⟨_, _, _, rfl, (hT 4 rfl)⟩ (mc := 0) (ms := 0) (Nat.zero_le _) (Nat.zero_le _) ?_
  refine e_K ?_ F
  rintro r h' ⟨r2, I1, rfl, rfl, F⟩
  refine e_61 (f_116 (pc := 13) (e := (13, 61, 24, 0, 0, 0, 0, 16)) rfl) (fun c3 => ?_) (fun c3 => ?_)
  · replace F := F.1 c3
    refine e_10 (f_116 (pc := 24) (e := (24, 10, 2, 0, 0, 0, 0, 25)) rfl) rfl ?_
    refine e_83 (f_116 (pc := 25) (e := (25, 83, 2147483648, 5, 5, 0, 0, 130)) rfl) (v := x2) (low := 0) rfl ?_
    by_cases c4 : x2 = 0
    · replace F := F.1 c4
      rw [show ySw 0 (yTg zGG 5) 130 x2 = 60 from by rw [c4]; rfl]
      refine e_12 (f_116 (pc := 60) (e := (60, 12, 3, 0, 0, 0, 0, 61)) rfl) rfl ?_
      refine e_10 (f_116 (pc := 61) (e := (61, 10, 1, 0, 0, 0, 0, 62)) rfl) rfl ?_
      refine e_0 (f_116 (pc := 62) (e := (62, 0, 1, 0, 0, 0, 0, 63)) rfl) (v := 1) rfl ?_
      refine e_130 (f_116 (pc := 63) (e := (63, 130, 12, 0, 1, 162, 1098, 66)) rfl) zA (as := [yr (some 4), yi x1, yi 1]) (rest := []) rfl rfl rfl rfl (Nat.le_of_ble_eq_true rfl) (Nat.le_of_ble_eq_true rfl) ⟨_, _, _, rfl, (hT 4 rfl)⟩ (mc := 0) (ms := 0) (Nat.zero_le _) (Nat.zero_le _) ?_
      refine e_K ?_ F
      rintro r h' ⟨r6, I5, rfl, rfl, F⟩
      refine e_60 (f_116 (pc := 66) (e := (66, 60, 73, 0, 0, 0, 0, 69)) rfl) (fun c7 => ?_) (fun c7 => ?_)
      · replace F := F.1 c7
        refine e_0 (f_116 (pc := 73) (e := (73, 0, 0, 0, 0, 0, 0, 74)) rfl) (v := 0) rfl ?_
        exact e_120 (f_116 (pc := 74) (e := (74, 120, 0, 0, 0, 0, 0, 75)) rfl) F
      · replace F := F.2 c7
        refine e_0 (f_116 (pc := 69) (e := (69, 0, 1, 0, 0, 0, 0, 70)) rfl) (v := 1) rfl ?_
        refine e_80 (f_116 (pc := 70) (e := (70, 80, 74, 0, 0, 0, 0, 73)) rfl) ?_
        exact e_120 (f_116 (pc := 74) (e := (74, 120, 0, 0, 0, 0, 0, 75)) rfl) F
    · replace F := F.2 c4
      by_cases c8 : x2 = 1
      · replace F := F.1 c8
        rw [show ySw 0 (yTg zGG 5) 130 x2 = 75 from by rw [c8]; rfl]
        refine e_12 (f_116 (pc := 75) (e := (75, 12, 3, 0, 0, 0, 0, 76)) rfl) rfl ?_
        refine e_10 (f_116 (pc := 76) (e := (76, 10, 1, 0, 0, 0, 0, 77)) rfl) rfl ?_
        refine e_0 (f_116 (pc := 77) (e := (77, 0, 2, 0, 0, 0, 0, 78)) rfl) (v := 2) rfl ?_
        refine e_130 (f_116 (pc := 78) (e := (78, 130, 12, 0, 1, 162, 1098, 81)) rfl) zA (as := [yr (some 4), yi x1, yi 2]) (rest := []) rfl rfl rfl rfl (Nat.le_of_ble_eq_true rfl) (Nat.le_of_ble_eq_true rfl) ⟨_, _, _, rfl, (hT 4 rfl)⟩ (mc := 0) (ms := 0) (Nat.zero_le _) (Nat.zero_le _) ?_
        refine e_K ?_ F
        rintro r h' ⟨r10, I9, rfl, rfl, F⟩
        refine e_60 (f_116 (pc := 81) (e := (81, 60, 88, 0, 0, 0, 0, 84)) rfl) (fun c11 => ?_) (fun c11 => ?_)
        · replace F := F.1 c11
          refine e_0 (f_116 (pc := 88) (e := (88, 0, 0, 0, 0, 0, 0, 89)) rfl) (v := 0) rfl ?_
          exact e_120 (f_116 (pc := 89) (e := (89, 120, 0, 0, 0, 0, 0, 90)) rfl) F
        · replace F := F.2 c11
          refine e_0 (f_116 (pc := 84) (e := (84, 0, 1, 0, 0, 0, 0, 85)) rfl) (v := 1) rfl ?_
          refine e_80 (f_116 (pc := 85) (e := (85, 80, 89, 0, 0, 0, 0, 88)) rfl) ?_
          exact e_120 (f_116 (pc := 89) (e := (89, 120, 0, 0, 0, 0, 0, 90)) rfl) F
      · replace F := F.2 c8
        by_cases c12 : x2 = 2
        · replace F := F.1 c12
          rw [show ySw 0 (yTg zGG 5) 130 x2 = 90 from by rw [c12]; rfl]
          refine e_12 (f_116 (pc := 90) (e := (90, 12, 3, 0, 0, 0, 0, 91)) rfl) rfl ?_
          refine e_10 (f_116 (pc := 91) (e := (91, 10, 1, 0, 0, 0, 0, 92)) rfl) rfl ?_
          refine e_0 (f_116 (pc := 92) (e := (92, 0, 3, 0, 0, 0, 0, 93)) rfl) (v := 3) rfl ?_
          refine e_130 (f_116 (pc := 93) (e := (93, 130, 12, 0, 1, 162, 1098, 96)) rfl) zA (as := [yr (some 4), yi x1, yi 3]) (rest := []) rfl rfl rfl rfl (Nat.le_of_ble_eq_true rfl) (Nat.le_of_ble_eq_true rfl) ⟨_, _, _, rfl, (hT 4 rfl)⟩ (mc := 0) (ms := 0) (Nat.zero_le _) (Nat.zero_le _) ?_
          refine e_K ?_ F
          rintro r h' ⟨r14, I13, rfl, rfl, F⟩
          refine e_60 (f_116 (pc := 96) (e := (96, 60, 103, 0, 0, 0, 0, 99)) rfl) (fun c15 => ?_) (fun c15 => ?_)
          · replace F := F.1 c15
            refine e_0 (f_116 (pc := 103) (e := (103, 0, 0, 0, 0, 0, 0, 104)) rfl) (v := 0) rfl ?_
            exact e_120 (f_116 (pc := 104) (e := (104, 120, 0, 0, 0, 0, 0, 105)) rfl) F
          · replace F := F.2 c15
            refine e_0 (f_116 (pc := 99) (e := (99, 0, 1, 0, 0, 0, 0, 100)) rfl) (v := 1) rfl ?_
            refine e_80 (f_116 (pc := 100) (e := (100, 80, 104, 0, 0, 0, 0, 103)) rfl) ?_
            exact e_120 (f_116 (pc := 104) (e := (104, 120, 0, 0, 0, 0, 0, 105)) rfl) F
        · replace F := F.2 c12
          by_cases c16 : x2 = 3
          · replace F := F.1 c16
            rw [show ySw 0 (yTg zGG 5) 130 x2 = 105 from by rw [c16]; rfl]
            refine e_12 (f_116 (pc := 105) (e := (105, 12, 0, 0, 0, 0, 0, 106)) rfl) rfl ?_
            refine e_90r zA (f_116 (pc := 106) (e := (106, 90, 10, 1, 3, 19, 1064, 109)) rfl) rfl (hT 0 rfl) rfl rfl (hR 0 1 rfl) ?_
            refine e_90r zA (f_116 (pc := 109) (e := (109, 90, 9, 1, 3, 92, 1084, 112)) rfl) rfl (hT 3 rfl) rfl rfl (hR 3 1 rfl) ?_
            refine e_90r zA (f_116 (pc := 112) (e := (112, 90, 5, 1, 3, 166, 1099, 115)) rfl) rfl (hT 16 rfl) rfl rfl (hR 16 1 rfl) ?_
            refine e_10 (f_116 (pc := 115) (e := (115, 10, 1, 0, 0, 0, 0, 116)) rfl) rfl ?_
            obtain ⟨b17, b18, F⟩ := F
            refine e_110 (f_116 (pc := 116) (e := (116, 110, 0, 0, 0, 0, 0, 117)) rfl) rfl (hT 17 rfl) b17 b18 ?_
            exact e_120 (f_116 (pc := 117) (e := (117, 120, 0, 0, 0, 0, 0, 118)) rfl) F
          · replace F := F.2 c16
            by_cases c19 : x2 = 4
            · replace F := F.1 c19
              rw [show ySw 0 (yTg zGG 5) 130 x2 = 118 from by rw [c19]; rfl]
              refine e_12 (f_116 (pc := 118) (e := (118, 12, 0, 0, 0, 0, 0, 119)) rfl) rfl ?_
              refine e_90r zA (f_116 (pc := 119) (e := (119, 90, 10, 1, 3, 19, 1064, 122)) rfl) rfl (hT 0 rfl) rfl rfl (hR 0 1 rfl) ?_
              refine e_90r zA (f_116 (pc := 122) (e := (122, 90, 9, 1, 3, 92, 1084, 125)) rfl) rfl (hT 3 rfl) rfl rfl (hR 3 1 rfl) ?_
              refine e_10 (f_116 (pc := 125) (e := (125, 10, 1, 0, 0, 0, 0, 126)) rfl) rfl ?_
              refine e_130 (f_116 (pc := 126) (e := (126, 130, 59, 0, 5, 169, 1100, 129)) rfl) zA (as := [yr (some 16), yi x1]) (rest := []) rfl rfl rfl rfl (Nat.le_of_ble_eq_true rfl) (Nat.le_of_ble_eq_true rfl) ⟨_, _, _, rfl, (hT 16 rfl)⟩ (mc := 0) (ms := 0) (Nat.zero_le _) (Nat.zero_le _) ?_
              refine e_K ?_ F
              rintro r h' ⟨r21, I20, rfl, rfl, F⟩
              exact e_120 (f_116 (pc := 129) (e := (129, 120, 0, 0, 0, 0, 0, 130)) rfl) F
            · replace F := F.2 c19
              rw [show ySw 0 (yTg zGG 5) 130 x2 = 130 from ySw_out (n := 5) rfl (by omega)]
              exact e_116_130 htr (by omega) (Nat.le_of_ble_eq_true rfl) hb1 hb6 F
  · replace F := F.2 c3
    exact e_116_16 htr (by omega) (Nat.le_of_ble_eq_true rfl) hb1 hb6 F
/-! ChairAlley.chair(II)I -/
set_option maxRecDepth 20000 in
theorem B_117_0 (hT : yLT T) (hR : yLR R) (htr : l.stackTraces = false) (hd6 : 6 ≤ d) (hb1 : 1 ≤ bc) (hb6 : 6 ≤ bs) {x1 x2 : Int} (F : yW l zSS D cy zFk z d 11 0 0 (fun r h' => ∃ r2 I1, r = some (yi r2) ∧ h' = (N, T, R, I1) ∧ ((r2 ≠ 0 → (x2 = 0 → 0 ≤ x1 ∧ x1 < 8 ∧ (K (some (yi (I1 20 x1.toNat))) (N, T, R, I1))) ∧ (¬ (x2 = 0) → (x2 = 1 → 0 ≤ x1 ∧ x1 < 8 ∧ (K (some (yi (I1 19 x1.toNat))) (N, T, R, I1))) ∧ (¬ (x2 = 1) → (x2 = 2 → 0 ≤ x1 ∧ x1 < 8 ∧ (K (some (yi (I1 12 x1.toNat))) (N, T, R, I1))) ∧ (¬ (x2 = 2) → (x2 = 3 → 0 ≤ x1 ∧ x1 < 8 ∧ (K (some (yi (I1 10 x1.toNat))) (N, T, R, I1))) ∧ (¬ (x2 = 3) → (x2 = 4 → 0 ≤ x1 ∧ x1 < 8 ∧ (K (some (yi (I1 18 x1.toNat))) (N, T, R, I1))) ∧ (¬ (x2 = 4) → (x2 = 5 → 0 ≤ x1 ∧ x1 < 8 ∧ (((I1 14 x1.toNat) = 0 → K (some (yi 0)) (N, T, R, I1)) ∧ (¬ ((I1 14 x1.toNat) = 0) → K (some (yi 1)) (N, T, R, I1)))) ∧ (¬ (x2 = 5) → (x2 = 6 → 0 ≤ x1 ∧ x1 < 8 ∧ (K (some (yi (I1 22 x1.toNat))) (N, T, R, I1))) ∧ (¬ (x2 = 6) → (x2 = 7 → 0 ≤ x1 ∧ x1 < 8 ∧ (K (some (yi (I1 23 x1.toNat))) (N, T, R, I1))) ∧ (¬ (x2 = 7) → (x2 = 8 → 0 ≤ x1 ∧ x1 < 8 ∧ (K (some (yi (I1 24 x1.toNat))) (N, T, R, I1))) ∧ (¬ (x2 = 8) → (x2 = 9 → 0 ≤ x1 ∧ x1 < 8 ∧ (K (some (yi (I1 25 x1.toNat))) (N, T, R, I1))) ∧ (¬ (x2 = 9) → K (some (yr none)) (N, T, R, I1)))))))))))) ∧ (¬ (r2 ≠ 0) → K (some (yr none)) (N, T, R, I1)))) 0 0 0 [(0, yr (some 4)), (1, yi x1)] [] (N, T, R, I)) :
    yW l zSS D cy zFk z (d + 1) 117 bc bs K 0 0 0 [(0, yr (some 0)), (1, yi x1), (2, yi x2)] [] (N, T, R, I) := by
  refine e_12 (f_117 (pc := 0) (e := (0, 12, 0, 0, 0, 0, 0, 1)) rfl) rfl ?_
  refine e_90r zA (f_117 (pc := 1) (e := (1, 90, 10, 1, 3, 19, 1064, 4)) rfl) rfl (hT 0 rfl) rfl rfl (hR 0 1 rfl) ?_
  refine e_90r zA (f_117 (pc := 4) (e := (4, 90, 9, 0, 3, 28, 1067, 7)) rfl) rfl (hT 3 rfl) rfl rfl (hR 3 0 rfl) ?_
  refine e_10 (f_117 (pc := 7) (e := (7, 10, 1, 0, 0, 0, 0, 8)) rfl) rfl ?_
  refine e_130 (f_117 (pc := 8) (e := (8, 130, 11, 0, 1, 120, 1101, 11)) rfl) zA (as := [yr (some 4), yi x1]) (rest := []) rfl rfl rfl rfl (Nat.le_of_ble_eq_true rfl) (Nat.le_of_ble_eq_true rfl) ⟨_, _, _, rfl, (hT 4 rfl)⟩ (mc := 0) (ms := 0) (Nat.zero_le _) (Nat.zero_le _) ?_
  refine e_K ?_ F
  rintro r h' ⟨r2, I1, rfl, rfl, F⟩
  refine e_61 (f_117 (pc := 11) (e := (11, 61, 22, 0, 0, 0, 0, 14)) rfl) (fun c3 => ?_) (fun c3 => ?_)
  · replace F := F.1 c3
    refine e_12 (f_117 (pc := 22) (e := (22, 12, 0, 0, 0, 0, 0, 23)) rfl) rfl ?_
    refine e_90r zA (f_117 (pc := 23) (e := (23, 90, 10, 1, 3, 19, 1064, 26)) rfl) rfl (hT 0 rfl) rfl rfl (hR 0 1 rfl) ?_
    refine e_90r zA (f_117 (pc := 26) (e := (26, 90, 9, 1, 3, 92, 1084, 29)) rfl) rfl (hT 3 rfl) rfl rfl (hR 3 1 rfl) ?_
    refine e_22 (f_117 (pc := 29) (e := (29, 22, 3, 0, 0, 0, 0, 30)) rfl) ?_
    refine e_10 (f_117 (pc := 30) (e := (30, 10, 2, 0, 0, 0, 0, 31)) rfl) rfl ?_
    refine e_83 (f_117 (pc := 31) (e := (31, 83, 2147483648, 10, 6, 0, 0, 180)) rfl) (v := x2) (low := 0) rfl ?_
    by_cases c4 : x2 = 0
    · replace F := F.1 c4
      rw [show ySw 0 (yTg zGG 6) 180 x2 = 84 from by rw [c4]; rfl]
      refine e_12 (f_117 (pc := 84) (e := (84, 12, 3, 0, 0, 0, 0, 85)) rfl) rfl ?_
      refine e_90r zA (f_117 (pc := 85) (e := (85, 90, 5, 4, 3, 127, 1102, 88)) rfl) rfl (hT 16 rfl) rfl rfl (hR 16 4 rfl) ?_
      refine e_10 (f_117 (pc := 88) (e := (88, 10, 1, 0, 0, 0, 0, 89)) rfl) rfl ?_
      obtain ⟨b5, b6, F⟩ := F
      refine e_110 (f_117 (pc := 89) (e := (89, 110, 0, 0, 0, 0, 0, 90)) rfl) rfl (hT 20 rfl) b5 b6 ?_
      exact e_120 (f_117 (pc := 90) (e := (90, 120, 0, 0, 0, 0, 0, 91)) rfl) F
    · replace F := F.2 c4
      by_cases c7 : x2 = 1
      · replace F := F.1 c7
        rw [show ySw 0 (yTg zGG 6) 180 x2 = 91 from by rw [c7]; rfl]
        refine e_12 (f_117 (pc := 91) (e := (91, 12, 3, 0, 0, 0, 0, 92)) rfl) rfl ?_
        refine e_90r zA (f_117 (pc := 92) (e := (92, 90, 5, 3, 3, 131, 1103, 95)) rfl) rfl (hT 16 rfl) rfl rfl (hR 16 3 rfl) ?_
        refine e_10 (f_117 (pc := 95) (e := (95, 10, 1, 0, 0, 0, 0, 96)) rfl) rfl ?_
        obtain ⟨b8, b9, F⟩ := F
        refine e_110 (f_117 (pc := 96) (e := (96, 110, 0, 0, 0, 0, 0, 97)) rfl) rfl (hT 19 rfl) b8 b9 ?_
        exact e_120 (f_117 (pc := 97) (e := (97, 120, 0, 0, 0, 0, 0, 98)) rfl) F
      · replace F := F.2 c7
        by_cases c10 : x2 = 2
        · replace F := F.1 c10
          rw [show ySw 0 (yTg zGG 6) 180 x2 = 98 from by rw [c10]; rfl]
          refine e_12 (f_117 (pc := 98) (e := (98, 12, 0, 0, 0, 0, 0, 99)) rfl) rfl ?_
          refine e_90r zA (f_117 (pc := 99) (e := (99, 90, 10, 1, 3, 19, 1064, 102)) rfl) rfl (hT 0 rfl) rfl rfl (hR 0 1 rfl) ?_
          refine e_90r zA (f_117 (pc := 102) (e := (102, 90, 9, 0, 3, 28, 1067, 105)) rfl) rfl (hT 3 rfl) rfl rfl (hR 3 0 rfl) ?_
          refine e_90r zA (f_117 (pc := 105) (e := (105, 90, 1, 10, 3, 134, 1104, 108)) rfl) rfl (hT 4 rfl) rfl rfl (hR 4 10 rfl) ?_
          refine e_10 (f_117 (pc := 108) (e := (108, 10, 1, 0, 0, 0, 0, 109)) rfl) rfl ?_
          obtain ⟨b11, b12, F⟩ := F
          refine e_110 (f_117 (pc := 109) (e := (109, 110, 0, 0, 0, 0, 0, 110)) rfl) rfl (hT 12 rfl) b11 b12 ?_
          exact e_120 (f_117 (pc := 110) (e := (110, 120, 0, 0, 0, 0, 0, 111)) rfl) F
        · replace F := F.2 c10
          by_cases c13 : x2 = 3
          · replace F := F.1 c13
            rw [show ySw 0 (yTg zGG 6) 180 x2 = 111 from by rw [c13]; rfl]
            refine e_12 (f_117 (pc := 111) (e := (111, 12, 0, 0, 0, 0, 0, 112)) rfl) rfl ?_
            refine e_90r zA (f_117 (pc := 112) (e := (112, 90, 10, 1, 3, 19, 1064, 115)) rfl) rfl (hT 0 rfl) rfl rfl (hR 0 1 rfl) ?_
            refine e_90r zA (f_117 (pc := 115) (e := (115, 90, 9, 0, 3, 28, 1067, 118)) rfl) rfl (hT 3 rfl) rfl rfl (hR 3 0 rfl) ?_
            refine e_90r zA (f_117 (pc := 118) (e := (118, 90, 1, 8, 3, 137, 1105, 121)) rfl) rfl (hT 4 rfl) rfl rfl (hR 4 8 rfl) ?_
            refine e_10 (f_117 (pc := 121) (e := (121, 10, 1, 0, 0, 0, 0, 122)) rfl) rfl ?_
            obtain ⟨b14, b15, F⟩ := F
            refine e_110 (f_117 (pc := 122) (e := (122, 110, 0, 0, 0, 0, 0, 123)) rfl) rfl (hT 10 rfl) b14 b15 ?_
            exact e_120 (f_117 (pc := 123) (e := (123, 120, 0, 0, 0, 0, 0, 124)) rfl) F
          · replace F := F.2 c13
            by_cases c16 : x2 = 4
            · replace F := F.1 c16
              rw [show ySw 0 (yTg zGG 6) 180 x2 = 124 from by rw [c16]; rfl]
              refine e_12 (f_117 (pc := 124) (e := (124, 12, 3, 0, 0, 0, 0, 125)) rfl) rfl ?_
              refine e_90r zA (f_117 (pc := 125) (e := (125, 90, 5, 2, 3, 140, 1106, 128)) rfl) rfl (hT 16 rfl) rfl rfl (hR 16 2 rfl) ?_
              refine e_10 (f_117 (pc := 128) (e := (128, 10, 1, 0, 0, 0, 0, 129)) rfl) rfl ?_
              obtain ⟨b17, b18, F⟩ := F
              refine e_110 (f_117 (pc := 129) (e := (129, 110, 0, 0, 0, 0, 0, 130)) rfl) rfl (hT 18 rfl) b17 b18 ?_
              exact e_120 (f_117 (pc := 130) (e := (130, 120, 0, 0, 0, 0, 0, 131)) rfl) F
            · replace F := F.2 c16
              by_cases c19 : x2 = 5
              · replace F := F.1 c19
                rw [show ySw 0 (yTg zGG 6) 180 x2 = 131 from by rw [c19]; rfl]
                refine e_12 (f_117 (pc := 131) (e := (131, 12, 0, 0, 0, 0, 0, 132)) rfl) rfl ?_
                refine e_90r zA (f_117 (pc := 132) (e := (132, 90, 10, 1, 3, 19, 1064, 135)) rfl) rfl (hT 0 rfl) rfl rfl (hR 0 1 rfl) ?_
                refine e_90r zA (f_117 (pc := 135) (e := (135, 90, 9, 0, 3, 28, 1067, 138)) rfl) rfl (hT 3 rfl) rfl rfl (hR 3 0 rfl) ?_
                refine e_90r zA (f_117 (pc := 138) (e := (138, 90, 1, 12, 3, 143, 1107, 141)) rfl) rfl (hT 4 rfl) rfl rfl (hR 4 12 rfl) ?_
                refine e_10 (f_117 (pc := 141) (e := (141, 10, 1, 0, 0, 0, 0, 142)) rfl) rfl ?_
                obtain ⟨b20, b21, F⟩ := F
                refine e_112 (f_117 (pc := 142) (e := (142, 112, 0, 0, 0, 0, 0, 143)) rfl) rfl (hT 14 rfl) b20 b21 (.inr rfl) ?_
                refine e_60 (f_117 (pc := 143) (e := (143, 60, 150, 0, 0, 0, 0, 146)) rfl) (fun c22 => ?_) (fun c22 => ?_)
                · replace F := F.1 c22
                  refine e_0 (f_117 (pc := 150) (e := (150, 0, 0, 0, 0, 0, 0, 151)) rfl) (v := 0) rfl ?_
                  exact e_120 (f_117 (pc := 151) (e := (151, 120, 0, 0, 0, 0, 0, 152)) rfl) F
                · replace F := F.2 c22
                  refine e_0 (f_117 (pc := 146) (e := (146, 0, 1, 0, 0, 0, 0, 147)) rfl) (v := 1) rfl ?_
                  refine e_80 (f_117 (pc := 147) (e := (147, 80, 151, 0, 0, 0, 0, 150)) rfl) ?_
                  exact e_120 (f_117 (pc := 151) (e := (151, 120, 0, 0, 0, 0, 0, 152)) rfl) F
              · replace F := F.2 c19
                by_cases c23 : x2 = 6
                · replace F := F.1 c23
                  rw [show ySw 0 (yTg zGG 6) 180 x2 = 152 from by rw [c23]; rfl]
                  refine e_12 (f_117 (pc := 152) (e := (152, 12, 3, 0, 0, 0, 0, 153)) rfl) rfl ?_
                  refine e_90r zA (f_117 (pc := 153) (e := (153, 90, 5, 6, 3, 147, 1108, 156)) rfl) rfl (hT 16 rfl) rfl rfl (hR 16 6 rfl) ?_
                  refine e_10 (f_117 (pc := 156) (e := (156, 10, 1, 0, 0, 0, 0, 157)) rfl) rfl ?_
                  obtain ⟨b24, b25, F⟩ := F
                  refine e_110 (f_117 (pc := 157) (e := (157, 110, 0, 0, 0, 0, 0, 158)) rfl) rfl (hT 22 rfl) b24 b25 ?_
                  exact e_120 (f_117 (pc := 158) (e := (158, 120, 0, 0, 0, 0, 0, 159)) rfl) F
                · replace F := F.2 c23
                  by_cases c26 : x2 = 7
                  · replace F := F.1 c26
                    rw [show ySw 0 (yTg zGG 6) 180 x2 = 159 from by rw [c26]; rfl]
                    refine e_12 (f_117 (pc := 159) (e := (159, 12, 3, 0, 0, 0, 0, 160)) rfl) rfl ?_
                    refine e_90r zA (f_117 (pc := 160) (e := (160, 90, 5, 7, 3, 150, 1109, 163)) rfl) rfl (hT 16 rfl) rfl rfl (hR 16 7 rfl) ?_
                    refine e_10 (f_117 (pc := 163) (e := (163, 10, 1, 0, 0, 0, 0, 164)) rfl) rfl ?_
                    obtain ⟨b27, b28, F⟩ := F
                    refine e_110 (f_117 (pc := 164) (e := (164, 110, 0, 0, 0, 0, 0, 165)) rfl) rfl (hT 23 rfl) b27 b28 ?_
                    exact e_120 (f_117 (pc := 165) (e := (165, 120, 0, 0, 0, 0, 0, 166)) rfl) F
                  · replace F := F.2 c26
                    by_cases c29 : x2 = 8
                    · replace F := F.1 c29
                      rw [show ySw 0 (yTg zGG 6) 180 x2 = 166 from by rw [c29]; rfl]
                      refine e_12 (f_117 (pc := 166) (e := (166, 12, 3, 0, 0, 0, 0, 167)) rfl) rfl ?_
                      refine e_90r zA (f_117 (pc := 167) (e := (167, 90, 5, 8, 3, 153, 1110, 170)) rfl) rfl (hT 16 rfl) rfl rfl (hR 16 8 rfl) ?_
                      refine e_10 (f_117 (pc := 170) (e := (170, 10, 1, 0, 0, 0, 0, 171)) rfl) rfl ?_
                      obtain ⟨b30, b31, F⟩ := F
                      refine e_110 (f_117 (pc := 171) (e := (171, 110, 0, 0, 0, 0, 0, 172)) rfl) rfl (hT 24 rfl) b30 b31 ?_
                      exact e_120 (f_117 (pc := 172) (e := (172, 120, 0, 0, 0, 0, 0, 173)) rfl) F
                    · replace F := F.2 c29
                      by_cases c32 : x2 = 9
                      · replace F := F.1 c32
                        rw [show ySw 0 (yTg zGG 6) 180 x2 = 173 from by rw [c32]; rfl]
                        refine e_12 (f_117 (pc := 173) (e := (173, 12, 3, 0, 0, 0, 0, 174)) rfl) rfl ?_
                        refine e_90r zA (f_117 (pc := 174) (e := (174, 90, 5, 9, 3, 156, 1111, 177)) rfl) rfl (hT 16 rfl) rfl rfl (hR 16 9 rfl) ?_
                        refine e_10 (f_117 (pc := 177) (e := (177, 10, 1, 0, 0, 0, 0, 178)) rfl) rfl ?_
                        obtain ⟨b33, b34, F⟩ := F
                        refine e_110 (f_117 (pc := 178) (e := (178, 110, 0, 0, 0, 0, 0, 179)) rfl) rfl (hT 25 rfl) b33 b34 ?_
                        exact e_120 (f_117 (pc := 179) (e := (179, 120, 0, 0, 0, 0, 0, 180)) rfl) F
                      · replace F := F.2 c32
                        rw [show ySw 0 (yTg zGG 6) 180 x2 = 180 from ySw_out (n := 10) rfl (by omega)]
                        exact e_117_180 htr (by omega) (Nat.le_of_ble_eq_true rfl) hb1 hb6 F
  · replace F := F.2 c3
    exact e_117_14 htr (by omega) (Nat.le_of_ble_eq_true rfl) hb1 hb6 F
end Sy
