/-! BLOCKS of the class, printed by wip/whole/y/gen95.py: methods that make cells, or call such -/
def yNT (T : Nat → Nat × Nat) (N c n : Nat) : Nat → Nat × Nat := fun a => if a = N then (c, n) else T a
def yNR (R : Nat → Nat → Option Nat) (N : Nat) : Nat → Nat → Option Nat := fun a b => if a = N then none else R a b
def yNI (I : Nat → Nat → Int) (N : Nat) : Nat → Nat → Int := fun a b => if a = N then 0 else I a b
def yUR (R : Nat → Nat → Option Nat) (k j : Nat) (r : Option Nat) : Nat → Nat → Option Nat := fun a b => if a = k ∧ b = j then r else R a b
theorem yNT_eq (T : Nat → Nat × Nat) (N c n : Nat) : yNT T N c n N = (c, n) := if_pos rfl
theorem yNT_ne (T : Nat → Nat × Nat) {N k : Nat} (c n : Nat) (h : k ≠ N) : yNT T N c n k = T k := if_neg h
theorem yNR_eq (R : Nat → Nat → Option Nat) (N j : Nat) : yNR R N N j = none := if_pos rfl
theorem yNR_ne (R : Nat → Nat → Option Nat) {N k : Nat} (j : Nat) (h : k ≠ N) : yNR R N k j = R k j := if_neg h
theorem yNI_eq (I : Nat → Nat → Int) (N j : Nat) : yNI I N N j = 0 := if_pos rfl
theorem yNI_ne (I : Nat → Nat → Int) {N k : Nat} (j : Nat) (h : k ≠ N) : yNI I N k j = I k j := if_neg h
theorem yUR_eq (R : Nat → Nat → Option Nat) (k j : Nat) (r : Option Nat) : yUR R k j r k j = r := if_pos ⟨rfl, rfl⟩
theorem yUR_ne (R : Nat → Nat → Option Nat) {k j k' j' : Nat} (r : Option Nat) (h : ¬ (k' = k ∧ j' = j)) : yUR R k j r k' j' = R k' j' := if_neg h
theorem yLT_nw {T : Nat → Nat × Nat} {N c n : Nat} (h : 126 ≤ N) (hT : yLT T) : yLT (yNT T N c n) := fun k hk => by
  have hk' : k < 126 := Nat.le_of_ble_eq_true hk
  rw [yNT_ne T c n (by omega)]; exact hT k hk
theorem yS0_lt {k j : Nat} (h : yS0 k j = true) : k < 126 := by
  apply Classical.byContradiction
  intro c
  have e : ∀ l : List (List Bool), l.length ≤ k → l.getD k [] = [] := fun l hl => by rw [List.getD, List.getElem?_eq_none hl]; rfl
  unfold yS0 at h
  rw [e _ (by simp; omega)] at h
  exact absurd h (by simp)
theorem yLR_nw {R : Nat → Nat → Option Nat} {N : Nat} (h : 126 ≤ N) (hR : yLR R) : yLR (yNR R N) := fun k j hk => by
  have := yS0_lt hk
  rw [yNR_ne R j (by omega)]; exact hR k j hk
theorem yLR_up {R : Nat → Nat → Option Nat} {k j : Nat} {r : Option Nat} (h : yS0 k j = false) (hR : yLR R) : yLR (yUR R k j r) := fun k' j' hk => by
  rw [yUR_ne R r (fun q => by rw [q.1, q.2, h] at hk; cases hk)]; exact hR k' j' hk
section Sy
variable {l : Launch} {D : va_G} {cy : Nat → ClassId} {z d bc bs nc nl N : Nat} {T : Nat → Nat × Nat} {R : Nat → Nat → Option Nat} {I : Nat → Nat → Int} {K : yKo}
/-! ChairAlley.drawn(I)Z -/
set_option maxRecDepth 20000 in
theorem Bd_119_0 (hT : yLT T) (hR : yLR R) (hnb : nc ≤ bc) (hsb : nl ≤ bs) (hb1 : nc + 13 ≤ bc) (hb2 : nl + 494 ≤ bs) {x1 : Int} (F : ((I 4 5) ≠ 0 → yW l zSS D cy zFk z d 2 13 494 (fun r h' => ∃ N3 T4 R5 I2, r = none ∧ h' = (N3, T4, R5, I2) ∧ yLT T4 ∧ yLR R5 ∧ (yW l zSS D cy zFk z d 63 0 0 (fun r h' => ∃ I8, r = none ∧ h' = (N3, T4, R5, I8) ∧ (yW l zSS D cy zFk z d 58 0 0 (fun r h' => ∃ I9, r = none ∧ h' = (N3, T4, R5, I9) ∧ (K (some (yi 1)) (N3, T4, R5, I9))) 0 0 0 [(0, yr (some 16))] [] (N3, T4, R5, I8))) 0 0 0 [(0, yr (some 16)), (1, yi x1)] [] (N3, T4, R5, I2))) 0 0 0 [(0, yr (some 89)), (1, yr (some 16))] [] (N, T, R, I)) ∧ (¬ ((I 4 5) ≠ 0) → K (some (yi 0)) (N, T, R, I))) :
    yW l zSS D cy zFk z (d + 1) 119 bc bs K nc nl 0 [(0, yr (some 0)), (1, yi x1)] [] (N, T, R, I) := by
  refine e_12 (f_119 (pc := 0) (e := (0, 12, 0, 0, 0, 0, 0, 1)) rfl) rfl ?_
  refine e_90r zA (f_119 (pc := 1) (e := (1, 90, 10, 1, 3, 19, 1064, 4)) rfl) rfl (hT 0 rfl) rfl rfl (hR 0 1 rfl) ?_
  refine e_90r zA (f_119 (pc := 4) (e := (4, 90, 9, 0, 3, 28, 1067, 7)) rfl) rfl (hT 3 rfl) rfl rfl (hR 3 0 rfl) ?_
  refine e_90 zA (f_119 (pc := 7) (e := (7, 90, 1, 5, 0, 218, 1093, 10)) rfl) rfl (hT 4 rfl) rfl rfl ?_
  refine e_61 (f_119 (pc := 10) (e := (10, 61, 15, 0, 0, 0, 0, 13)) rfl) (fun c1 => ?_) (fun c1 => ?_)
  · replace F := F.1 c1
    refine e_12 (f_119 (pc := 15) (e := (15, 12, 0, 0, 0, 0, 0, 16)) rfl) rfl ?_
    refine e_90r zA (f_119 (pc := 16) (e := (16, 90, 10, 4, 3, 42, 1071, 19)) rfl) rfl (hT 0 rfl) rfl rfl (hR 0 4 rfl) ?_
    refine e_12 (f_119 (pc := 19) (e := (19, 12, 0, 0, 0, 0, 0, 20)) rfl) rfl ?_
    refine e_90r zA (f_119 (pc := 20) (e := (20, 90, 10, 1, 3, 19, 1064, 23)) rfl) rfl (hT 0 rfl) rfl rfl (hR 0 1 rfl) ?_
    refine e_90r zA (f_119 (pc := 23) (e := (23, 90, 9, 1, 3, 92, 1084, 26)) rfl) rfl (hT 3 rfl) rfl rfl (hR 3 1 rfl) ?_
    refine e_130 (f_119 (pc := 26) (e := (26, 130, 2, 0, 0, 241, 1116, 29)) rfl) zA (as := [yr (some 89), yr (some 16)]) (rest := []) rfl rfl rfl rfl (Nat.le_of_ble_eq_true rfl) (Nat.le_of_ble_eq_true rfl) ⟨_, _, _, rfl, (hT 89 rfl)⟩ (mc := 13) (ms := 494) (by omega) (by omega) ?_
    refine e_K ?_ F
    rintro r h' ⟨N3, T4, R5, I2, rfl, rfl, hT6, hR7, F⟩
    refine e_12 (f_119 (pc := 29) (e := (29, 12, 0, 0, 0, 0, 0, 30)) rfl) rfl ?_
    refine e_90r zA (f_119 (pc := 30) (e := (30, 90, 10, 1, 3, 19, 1064, 33)) rfl) rfl (hT6 0 rfl) rfl rfl (hR7 0 1 rfl) ?_
    refine e_90r zA (f_119 (pc := 33) (e := (33, 90, 9, 1, 3, 92, 1084, 36)) rfl) rfl (hT6 3 rfl) rfl rfl (hR7 3 1 rfl) ?_
    refine e_10 (f_119 (pc := 36) (e := (36, 10, 1, 0, 0, 0, 0, 37)) rfl) rfl ?_
    refine e_130 (f_119 (pc := 37) (e := (37, 130, 63, 0, 5, 289, 1117, 40)) rfl) zA (as := [yr (some 16), yi x1]) (rest := []) rfl rfl rfl rfl (Nat.le_of_ble_eq_true rfl) (Nat.le_of_ble_eq_true rfl) ⟨_, _, _, rfl, (hT6 16 rfl)⟩ (mc := 0) (ms := 0) (by omega) (by omega) ?_
    refine e_K ?_ F
    rintro r h' ⟨I8, rfl, rfl, F⟩
    refine e_12 (f_119 (pc := 40) (e := (40, 12, 0, 0, 0, 0, 0, 41)) rfl) rfl ?_
    refine e_90r zA (f_119 (pc := 41) (e := (41, 90, 10, 1, 3, 19, 1064, 44)) rfl) rfl (hT6 0 rfl) rfl rfl (hR7 0 1 rfl) ?_
    refine e_90r zA (f_119 (pc := 44) (e := (44, 90, 9, 1, 3, 92, 1084, 47)) rfl) rfl (hT6 3 rfl) rfl rfl (hR7 3 1 rfl) ?_
    refine e_130 (f_119 (pc := 47) (e := (47, 130, 58, 0, 5, 292, 1118, 50)) rfl) zA (as := [yr (some 16)]) (rest := []) rfl rfl rfl rfl (Nat.le_of_ble_eq_true rfl) (Nat.le_of_ble_eq_true rfl) ⟨_, _, _, rfl, (hT6 16 rfl)⟩ (mc := 0) (ms := 0) (by omega) (by omega) ?_
    refine e_K ?_ F
    rintro r h' ⟨I9, rfl, rfl, F⟩
    refine e_0 (f_119 (pc := 50) (e := (50, 0, 1, 0, 0, 0, 0, 51)) rfl) (v := 1) rfl ?_
    exact e_121 (f_119 (pc := 51) (e := (51, 121, 0, 0, 0, 0, 0, 0)) rfl) (.inr rfl) F
  · replace F := F.2 c1
    refine e_0 (f_119 (pc := 13) (e := (13, 0, 0, 0, 0, 0, 0, 14)) rfl) (v := 0) rfl ?_
    exact e_121 (f_119 (pc := 14) (e := (14, 121, 0, 0, 0, 0, 0, 15)) rfl) (.inl rfl) F
/-! ChairAlley.judge(I)I -/
set_option maxRecDepth 20000 in
theorem Bd_128_0 (hT : yLT T) (hR : yLR R) (hnb : nc ≤ bc) (hsb : nl ≤ bs) (hb1 : nc + 13 ≤ bc) (hb2 : nl + 494 ≤ bs) {x1 : Int} (F : (x1 = 0 → yW l zSS D cy zFk z d 102 0 0 (fun r h' => ∃ I2, r = none ∧ h' = (N, T, R, I2) ∧ (yW l zSS D cy zFk z (d + 1) 128 bc bs K nc nl 33 [(0, yr (some 0)), (1, yi x1), (2, yi 0), (3, yi 0), (4, yi 0)] [] (N, T, R, I2))) 0 0 0 [(0, yr (some 67)), (1, yr (some 16))] [] (N, T, R, I)) ∧ (¬ (x1 = 0) → (x1 = 1 → yW l zSS D cy zFk z d 102 0 0 (fun r h' => ∃ I4, r = none ∧ h' = (N, T, R, I4) ∧ (yW l zSS D cy zFk z (d + 1) 128 bc bs K nc nl 33 [(0, yr (some 0)), (1, yi x1), (2, yi 0), (3, yi 0), (4, yi 0)] [] (N, T, R, I4))) 0 0 0 [(0, yr (some 67)), (1, yr (some 16))] [] (N, T, R, I)) ∧ (¬ (x1 = 1) → K (some (yi (-2))) (N, T, R, I)))) :
    yW l zSS D cy zFk z (d + 1) 128 bc bs K nc nl 0 [(0, yr (some 0)), (1, yi x1)] [] (N, T, R, I) := by
  refine e_10 (f_128 (pc := 0) (e := (0, 10, 1, 0, 0, 0, 0, 1)) rfl) rfl ?_
  refine e_60 (f_128 (pc := 1) (e := (1, 60, 12, 0, 0, 0, 0, 4)) rfl) (fun c1 => ?_) (fun c1 => ?_)
  · replace F := F.1 c1
    refine e_12 (f_128 (pc := 12) (e := (12, 12, 0, 0, 0, 0, 0, 13)) rfl) rfl ?_
    refine e_90r zA (f_128 (pc := 13) (e := (13, 90, 10, 3, 3, 35, 1069, 16)) rfl) rfl (hT 0 rfl) rfl rfl (hR 0 3 rfl) ?_
    refine e_12 (f_128 (pc := 16) (e := (16, 12, 0, 0, 0, 0, 0, 17)) rfl) rfl ?_
    refine e_90r zA (f_128 (pc := 17) (e := (17, 90, 10, 1, 3, 19, 1064, 20)) rfl) rfl (hT 0 rfl) rfl rfl (hR 0 1 rfl) ?_
    refine e_90r zA (f_128 (pc := 20) (e := (20, 90, 9, 1, 3, 92, 1084, 23)) rfl) rfl (hT 3 rfl) rfl rfl (hR 3 1 rfl) ?_
    refine e_130 (f_128 (pc := 23) (e := (23, 130, 102, 0, 7, 193, 1122, 26)) rfl) zA (as := [yr (some 67), yr (some 16)]) (rest := []) rfl rfl rfl rfl (Nat.le_of_ble_eq_true rfl) (Nat.le_of_ble_eq_true rfl) ⟨_, _, _, rfl, (hT 67 rfl)⟩ (mc := 0) (ms := 0) hnb hsb ?_
    refine e_K ?_ F
    rintro r h' ⟨I2, rfl, rfl, F⟩
    refine e_0 (f_128 (pc := 26) (e := (26, 0, 0, 0, 0, 0, 0, 27)) rfl) (v := 0) rfl ?_
    refine e_20 (f_128 (pc := 27) (e := (27, 20, 2, 0, 0, 0, 0, 28)) rfl) ?_
    refine e_0 (f_128 (pc := 28) (e := (28, 0, 0, 0, 0, 0, 0, 29)) rfl) (v := 0) rfl ?_
    refine e_20 (f_128 (pc := 29) (e := (29, 20, 3, 0, 0, 0, 0, 30)) rfl) ?_
    refine e_0 (f_128 (pc := 30) (e := (30, 0, 0, 0, 0, 0, 0, 31)) rfl) (v := 0) rfl ?_
    refine e_21 (f_128 (pc := 31) (e := (31, 21, 4, 0, 0, 0, 0, 33)) rfl) ?_
    refine e_lo [0, 1, 2, 3, 4] rfl ?_
    exact F
  · replace F := F.2 c1
    refine e_10 (f_128 (pc := 4) (e := (4, 10, 1, 0, 0, 0, 0, 5)) rfl) rfl ?_
    refine e_0 (f_128 (pc := 5) (e := (5, 0, 1, 0, 0, 0, 0, 6)) rfl) (v := 1) rfl ?_
    refine e_70 (f_128 (pc := 6) (e := (6, 70, 12, 0, 0, 0, 0, 9)) rfl) (fun c3 => ?_) (fun c3 => ?_)
    · replace F := F.1 c3
      refine e_12 (f_128 (pc := 12) (e := (12, 12, 0, 0, 0, 0, 0, 13)) rfl) rfl ?_
      refine e_90r zA (f_128 (pc := 13) (e := (13, 90, 10, 3, 3, 35, 1069, 16)) rfl) rfl (hT 0 rfl) rfl rfl (hR 0 3 rfl) ?_
      refine e_12 (f_128 (pc := 16) (e := (16, 12, 0, 0, 0, 0, 0, 17)) rfl) rfl ?_
      refine e_90r zA (f_128 (pc := 17) (e := (17, 90, 10, 1, 3, 19, 1064, 20)) rfl) rfl (hT 0 rfl) rfl rfl (hR 0 1 rfl) ?_
      refine e_90r zA (f_128 (pc := 20) (e := (20, 90, 9, 1, 3, 92, 1084, 23)) rfl) rfl (hT 3 rfl) rfl rfl (hR 3 1 rfl) ?_
      refine e_130 (f_128 (pc := 23) (e := (23, 130, 102, 0, 7, 193, 1122, 26)) rfl) zA (as := [yr (some 67), yr (some 16)]) (rest := []) rfl rfl rfl rfl (Nat.le_of_ble_eq_true rfl) (Nat.le_of_ble_eq_true rfl) ⟨_, _, _, rfl, (hT 67 rfl)⟩ (mc := 0) (ms := 0) hnb hsb ?_
      refine e_K ?_ F
      rintro r h' ⟨I4, rfl, rfl, F⟩
      refine e_0 (f_128 (pc := 26) (e := (26, 0, 0, 0, 0, 0, 0, 27)) rfl) (v := 0) rfl ?_
      refine e_20 (f_128 (pc := 27) (e := (27, 20, 2, 0, 0, 0, 0, 28)) rfl) ?_
      refine e_0 (f_128 (pc := 28) (e := (28, 0, 0, 0, 0, 0, 0, 29)) rfl) (v := 0) rfl ?_
      refine e_20 (f_128 (pc := 29) (e := (29, 20, 3, 0, 0, 0, 0, 30)) rfl) ?_
      refine e_0 (f_128 (pc := 30) (e := (30, 0, 0, 0, 0, 0, 0, 31)) rfl) (v := 0) rfl ?_
      refine e_21 (f_128 (pc := 31) (e := (31, 21, 4, 0, 0, 0, 0, 33)) rfl) ?_
      refine e_lo [0, 1, 2, 3, 4] rfl ?_
      exact F
    · replace F := F.2 c3
      refine e_1 (f_128 (pc := 9) (e := (9, 1, 4294967294, 0, 0, 0, 0, 11)) rfl) (v := (-2)) rfl ?_
      exact e_120 (f_128 (pc := 11) (e := (11, 120, 0, 0, 0, 0, 0, 12)) rfl) F
set_option maxRecDepth 20000 in
theorem Bd_128_33 (hT : yLT T) (hR : yLR R) (hnb : nc ≤ bc) (hsb : nl ≤ bs) (hb1 : nc + 13 ≤ bc) (hb2 : nl + 494 ≤ bs) {x1 x2 x3 x4 : Int} (F : ((I 29 0) ≤ x4 → ∀ I2, I2 = yU I 0 7 x2 → (∀ I3, I3 = yU I2 0 8 x3 → (yW l zSS D cy zFk z d 61 0 0 (fun r h' => ∃ r5 I4, r = some (yi r5) ∧ h' = (N, T, R, I4) ∧ (∀ I6, I6 = yU I4 0 9 r5 → ((x1 ≠ 1 → (x2 ≠ 0 → K (some (yi x3)) (N, T, R, I6)) ∧ (¬ (x2 ≠ 0) → K (some (yi (-1))) (N, T, R, I6))) ∧ (¬ (x1 ≠ 1) → (x3 ≤ 0 → (x2 ≠ 0 → K (some (yi x3)) (N, T, R, I6)) ∧ (¬ (x2 ≠ 0) → K (some (yi (-1))) (N, T, R, I6))) ∧ (¬ (x3 ≤ 0) → yW l zSS D cy zFk z d 134 13 494 (fun r h' => ∃ N12 T13 R14 I11, r = none ∧ h' = (N12, T13, R14, I11) ∧ yLT T13 ∧ yLR R14 ∧ ((x2 ≠ 0 → K (some (yi x3)) (N12, T13, R14, I11)) ∧ (¬ (x2 ≠ 0) → K (some (yi (-1))) (N12, T13, R14, I11)))) 0 0 0 [(0, yr (some 0))] [] (N, T, R, I6)))))) 0 0 0 [(0, yr (some 68)), (1, yi (I3 4 5))] [] (N, T, R, I3)))) ∧ (¬ ((I 29 0) ≤ x4) → (40 ≤ x4 → ∀ I19, I19 = yU I 0 7 x2 → (∀ I20, I20 = yU I19 0 8 x3 → (yW l zSS D cy zFk z d 61 0 0 (fun r h' => ∃ r22 I21, r = some (yi r22) ∧ h' = (N, T, R, I21) ∧ (∀ I23, I23 = yU I21 0 9 r22 → ((x1 ≠ 1 → (x2 ≠ 0 → K (some (yi x3)) (N, T, R, I23)) ∧ (¬ (x2 ≠ 0) → K (some (yi (-1))) (N, T, R, I23))) ∧ (¬ (x1 ≠ 1) → (x3 ≤ 0 → (x2 ≠ 0 → K (some (yi x3)) (N, T, R, I23)) ∧ (¬ (x2 ≠ 0) → K (some (yi (-1))) (N, T, R, I23))) ∧ (¬ (x3 ≤ 0) → yW l zSS D cy zFk z d 134 13 494 (fun r h' => ∃ N29 T30 R31 I28, r = none ∧ h' = (N29, T30, R31, I28) ∧ yLT T30 ∧ yLR R31 ∧ ((x2 ≠ 0 → K (some (yi x3)) (N29, T30, R31, I28)) ∧ (¬ (x2 ≠ 0) → K (some (yi (-1))) (N29, T30, R31, I28)))) 0 0 0 [(0, yr (some 0))] [] (N, T, R, I23)))))) 0 0 0 [(0, yr (some 68)), (1, yi (I20 4 5))] [] (N, T, R, I20)))) ∧ (¬ (40 ≤ x4) → (x2 ≠ 0 → ∀ I36, I36 = yU I 0 7 x2 → (∀ I37, I37 = yU I36 0 8 x3 → (yW l zSS D cy zFk z d 61 0 0 (fun r h' => ∃ r39 I38, r = some (yi r39) ∧ h' = (N, T, R, I38) ∧ (∀ I40, I40 = yU I38 0 9 r39 → ((x1 ≠ 1 → (x2 ≠ 0 → K (some (yi x3)) (N, T, R, I40)) ∧ (¬ (x2 ≠ 0) → K (some (yi (-1))) (N, T, R, I40))) ∧ (¬ (x1 ≠ 1) → (x3 ≤ 0 → (x2 ≠ 0 → K (some (yi x3)) (N, T, R, I40)) ∧ (¬ (x2 ≠ 0) → K (some (yi (-1))) (N, T, R, I40))) ∧ (¬ (x3 ≤ 0) → yW l zSS D cy zFk z d 134 13 494 (fun r h' => ∃ N46 T47 R48 I45, r = none ∧ h' = (N46, T47, R48, I45) ∧ yLT T47 ∧ yLR R48 ∧ ((x2 ≠ 0 → K (some (yi x3)) (N46, T47, R48, I45)) ∧ (¬ (x2 ≠ 0) → K (some (yi (-1))) (N46, T47, R48, I45)))) 0 0 0 [(0, yr (some 0))] [] (N, T, R, I40)))))) 0 0 0 [(0, yr (some 68)), (1, yi (I37 4 5))] [] (N, T, R, I37)))) ∧ (¬ (x2 ≠ 0) → 0 ≤ x4 ∧ x4 < 40 ∧ (yW l zSS D cy zFk z d 87 0 0 (fun r h' => ∃ r55 I54, r = some (yi r55) ∧ h' = (N, T, R, I54) ∧ ((r55 ≠ 0 → yW l zSS D cy zFk z (d + 1) 128 bc bs K nc nl 33 [(0, yr (some 0)), (1, yi x1), (2, yi r55), (3, yi (yadd x3 0)), (4, yi (yadd x4 1))] [] (N, T, R, I54)) ∧ (¬ (r55 ≠ 0) → yW l zSS D cy zFk z (d + 1) 128 bc bs K nc nl 33 [(0, yr (some 0)), (1, yi x1), (2, yi r55), (3, yi (yadd x3 1)), (4, yi (yadd x4 1))] [] (N, T, R, I54)))) 0 0 0 [(0, yr (some 67)), (1, yi (I 30 x4.toNat))] [] (N, T, R, I)))))) :
    yW l zSS D cy zFk z (d + 1) 128 bc bs K nc nl 33 [(0, yr (some 0)), (1, yi x1), (2, yi x2), (3, yi x3), (4, yi x4)] [] (N, T, R, I) := by
  refine e_11 (f_128 (pc := 33) (e := (33, 11, 4, 0, 0, 0, 0, 35)) rfl) rfl ?_
  refine e_12 (f_128 (pc := 35) (e := (35, 12, 0, 0, 0, 0, 0, 36)) rfl) rfl ?_
  refine e_90r zA (f_128 (pc := 36) (e := (36, 90, 10, 1, 3, 19, 1064, 39)) rfl) rfl (hT 0 rfl) rfl rfl (hR 0 1 rfl) ?_
  refine e_90r zA (f_128 (pc := 39) (e := (39, 90, 9, 2, 3, 101, 1086, 42)) rfl) rfl (hT 3 rfl) rfl rfl (hR 3 2 rfl) ?_
  refine e_90 zA (f_128 (pc := 42) (e := (42, 90, 2, 0, 0, 105, 1087, 45)) rfl) rfl (hT 29 rfl) rfl rfl ?_
  refine e_73 (f_128 (pc := 45) (e := (45, 73, 98, 0, 0, 0, 0, 48)) rfl) (fun c1 => ?_) (fun c1 => ?_)
  · replace F := F.1 c1
    refine e_12 (f_128 (pc := 98) (e := (98, 12, 0, 0, 0, 0, 0, 99)) rfl) rfl ?_
    refine e_10 (f_128 (pc := 99) (e := (99, 10, 2, 0, 0, 0, 0, 100)) rfl) rfl ?_
    refine e_91 zA (f_128 (pc := 100) (e := (100, 91, 10, 7, 0, 57, 1075, 103)) rfl) rfl (hT 0 rfl) rfl rfl trivial ?_
    replace F := F _ rfl
    refine e_12 (f_128 (pc := 103) (e := (103, 12, 0, 0, 0, 0, 0, 104)) rfl) rfl ?_
    refine e_10 (f_128 (pc := 104) (e := (104, 10, 3, 0, 0, 0, 0, 105)) rfl) rfl ?_
    refine e_91 zA (f_128 (pc := 105) (e := (105, 91, 10, 8, 0, 61, 1076, 108)) rfl) rfl (hT 0 rfl) rfl rfl trivial ?_
    replace F := F _ rfl
    refine e_12 (f_128 (pc := 108) (e := (108, 12, 0, 0, 0, 0, 0, 109)) rfl) rfl ?_
    refine e_12 (f_128 (pc := 109) (e := (109, 12, 0, 0, 0, 0, 0, 110)) rfl) rfl ?_
    refine e_90r zA (f_128 (pc := 110) (e := (110, 90, 10, 3, 3, 35, 1069, 113)) rfl) rfl (hT 0 rfl) rfl rfl (hR 0 3 rfl) ?_
    refine e_90r zA (f_128 (pc := 113) (e := (113, 90, 7, 2, 3, 206, 1094, 116)) rfl) rfl (hT 67 rfl) rfl rfl (hR 67 2 rfl) ?_
    refine e_12 (f_128 (pc := 116) (e := (116, 12, 0, 0, 0, 0, 0, 117)) rfl) rfl ?_
    refine e_90r zA (f_128 (pc := 117) (e := (117, 90, 10, 1, 3, 19, 1064, 120)) rfl) rfl (hT 0 rfl) rfl rfl (hR 0 1 rfl) ?_
    refine e_90r zA (f_128 (pc := 120) (e := (120, 90, 9, 0, 3, 28, 1067, 123)) rfl) rfl (hT 3 rfl) rfl rfl (hR 3 0 rfl) ?_
    refine e_90 zA (f_128 (pc := 123) (e := (123, 90, 1, 5, 0, 218, 1093, 126)) rfl) rfl (hT 4 rfl) rfl rfl ?_
    refine e_130 (f_128 (pc := 126) (e := (126, 130, 61, 0, 5, 224, 1121, 129)) rfl) zA (as := [yr (some 68), yi _]) (rest := [yr (some 0)]) rfl rfl rfl rfl (Nat.le_of_ble_eq_true rfl) (Nat.le_of_ble_eq_true rfl) ⟨_, _, _, rfl, (hT 68 rfl)⟩ (mc := 0) (ms := 0) hnb hsb ?_
    refine e_K ?_ F
    rintro r h' ⟨r5, I4, rfl, rfl, F⟩
    refine e_91 zA (f_128 (pc := 129) (e := (129, 91, 10, 9, 0, 64, 1077, 132)) rfl) rfl (hT 0 rfl) rfl rfl trivial ?_
    replace F := F _ rfl
    refine e_10 (f_128 (pc := 132) (e := (132, 10, 1, 0, 0, 0, 0, 133)) rfl) rfl ?_
    refine e_0 (f_128 (pc := 133) (e := (133, 0, 1, 0, 0, 0, 0, 134)) rfl) (v := 1) rfl ?_
    refine e_71 (f_128 (pc := 134) (e := (134, 71, 145, 0, 0, 0, 0, 137)) rfl) (fun c7 => ?_) (fun c7 => ?_)
    · replace F := F.1 c7
      refine e_10 (f_128 (pc := 145) (e := (145, 10, 2, 0, 0, 0, 0, 146)) rfl) rfl ?_
      refine e_61 (f_128 (pc := 146) (e := (146, 61, 153, 0, 0, 0, 0, 149)) rfl) (fun c8 => ?_) (fun c8 => ?_)
      · replace F := F.1 c8
        refine e_10 (f_128 (pc := 153) (e := (153, 10, 3, 0, 0, 0, 0, 154)) rfl) rfl ?_
        exact e_120 (f_128 (pc := 154) (e := (154, 120, 0, 0, 0, 0, 0, 0)) rfl) F
      · replace F := F.2 c8
        refine e_0 (f_128 (pc := 149) (e := (149, 0, 4294967295, 0, 0, 0, 0, 150)) rfl) (v := (-1)) rfl ?_
        refine e_80 (f_128 (pc := 150) (e := (150, 80, 154, 0, 0, 0, 0, 153)) rfl) ?_
        exact e_120 (f_128 (pc := 154) (e := (154, 120, 0, 0, 0, 0, 0, 0)) rfl) F
    · replace F := F.2 c7
      refine e_10 (f_128 (pc := 137) (e := (137, 10, 3, 0, 0, 0, 0, 138)) rfl) rfl ?_
      refine e_65 (f_128 (pc := 138) (e := (138, 65, 145, 0, 0, 0, 0, 141)) rfl) (fun c9 => ?_) (fun c9 => ?_)
      · replace F := F.1 c9
        refine e_10 (f_128 (pc := 145) (e := (145, 10, 2, 0, 0, 0, 0, 146)) rfl) rfl ?_
        refine e_61 (f_128 (pc := 146) (e := (146, 61, 153, 0, 0, 0, 0, 149)) rfl) (fun c10 => ?_) (fun c10 => ?_)
        · replace F := F.1 c10
          refine e_10 (f_128 (pc := 153) (e := (153, 10, 3, 0, 0, 0, 0, 154)) rfl) rfl ?_
          exact e_120 (f_128 (pc := 154) (e := (154, 120, 0, 0, 0, 0, 0, 0)) rfl) F
        · replace F := F.2 c10
          refine e_0 (f_128 (pc := 149) (e := (149, 0, 4294967295, 0, 0, 0, 0, 150)) rfl) (v := (-1)) rfl ?_
          refine e_80 (f_128 (pc := 150) (e := (150, 80, 154, 0, 0, 0, 0, 153)) rfl) ?_
          exact e_120 (f_128 (pc := 154) (e := (154, 120, 0, 0, 0, 0, 0, 0)) rfl) F
      · replace F := F.2 c9
        refine e_12 (f_128 (pc := 141) (e := (141, 12, 0, 0, 0, 0, 0, 142)) rfl) rfl ?_
        refine e_130 (f_128 (pc := 142) (e := (142, 130, 134, 0, 10, 215, 1125, 145)) rfl) zA (as := [yr (some 0)]) (rest := []) rfl rfl rfl rfl (Nat.le_of_ble_eq_true rfl) (Nat.le_of_ble_eq_true rfl) ⟨_, _, _, rfl, (hT 0 rfl)⟩ (mc := 13) (ms := 494) (by omega) (by omega) ?_
        refine e_K ?_ F
        rintro r h' ⟨N12, T13, R14, I11, rfl, rfl, hT15, hR16, F⟩
        refine e_10 (f_128 (pc := 145) (e := (145, 10, 2, 0, 0, 0, 0, 146)) rfl) rfl ?_
        refine e_61 (f_128 (pc := 146) (e := (146, 61, 153, 0, 0, 0, 0, 149)) rfl) (fun c17 => ?_) (fun c17 => ?_)
        · replace F := F.1 c17
          refine e_10 (f_128 (pc := 153) (e := (153, 10, 3, 0, 0, 0, 0, 154)) rfl) rfl ?_
          exact e_120 (f_128 (pc := 154) (e := (154, 120, 0, 0, 0, 0, 0, 0)) rfl) F
        · replace F := F.2 c17
          refine e_0 (f_128 (pc := 149) (e := (149, 0, 4294967295, 0, 0, 0, 0, 150)) rfl) (v := (-1)) rfl ?_
          refine e_80 (f_128 (pc := 150) (e := (150, 80, 154, 0, 0, 0, 0, 153)) rfl) ?_
          exact e_120 (f_128 (pc := 154) (e := (154, 120, 0, 0, 0, 0, 0, 0)) rfl) F
  · replace F := F.2 c1
    refine e_11 (f_128 (pc := 48) (e := (48, 11, 4, 0, 0, 0, 0, 50)) rfl) rfl ?_
    refine e_1 (f_128 (pc := 50) (e := (50, 1, 40, 0, 0, 0, 0, 52)) rfl) (v := 40) rfl ?_
    refine e_73 (f_128 (pc := 52) (e := (52, 73, 98, 0, 0, 0, 0, 55)) rfl) (fun c18 => ?_) (fun c18 => ?_)
    · replace F := F.1 c18
      refine e_12 (f_128 (pc := 98) (e := (98, 12, 0, 0, 0, 0, 0, 99)) rfl) rfl ?_
      refine e_10 (f_128 (pc := 99) (e := (99, 10, 2, 0, 0, 0, 0, 100)) rfl) rfl ?_
      refine e_91 zA (f_128 (pc := 100) (e := (100, 91, 10, 7, 0, 57, 1075, 103)) rfl) rfl (hT 0 rfl) rfl rfl trivial ?_
      replace F := F _ rfl
      refine e_12 (f_128 (pc := 103) (e := (103, 12, 0, 0, 0, 0, 0, 104)) rfl) rfl ?_
      refine e_10 (f_128 (pc := 104) (e := (104, 10, 3, 0, 0, 0, 0, 105)) rfl) rfl ?_
      refine e_91 zA (f_128 (pc := 105) (e := (105, 91, 10, 8, 0, 61, 1076, 108)) rfl) rfl (hT 0 rfl) rfl rfl trivial ?_
      replace F := F _ rfl
      refine e_12 (f_128 (pc := 108) (e := (108, 12, 0, 0, 0, 0, 0, 109)) rfl) rfl ?_
      refine e_12 (f_128 (pc := 109) (e := (109, 12, 0, 0, 0, 0, 0, 110)) rfl) rfl ?_
      refine e_90r zA (f_128 (pc := 110) (e := (110, 90, 10, 3, 3, 35, 1069, 113)) rfl) rfl (hT 0 rfl) rfl rfl (hR 0 3 rfl) ?_
      refine e_90r zA (f_128 (pc := 113) (e := (113, 90, 7, 2, 3, 206, 1094, 116)) rfl) rfl (hT 67 rfl) rfl rfl (hR 67 2 rfl) ?_
      refine e_12 (f_128 (pc := 116) (e := (116, 12, 0, 0, 0, 0, 0, 117)) rfl) rfl ?_
      refine e_90r zA (f_128 (pc := 117) (e := (117, 90, 10, 1, 3, 19, 1064, 120)) rfl) rfl (hT 0 rfl) rfl rfl (hR 0 1 rfl) ?_
      refine e_90r zA (f_128 (pc := 120) (e := (120, 90, 9, 0, 3, 28, 1067, 123)) rfl) rfl (hT 3 rfl) rfl rfl (hR 3 0 rfl) ?_
      refine e_90 zA (f_128 (pc := 123) (e := (123, 90, 1, 5, 0, 218, 1093, 126)) rfl) rfl (hT 4 rfl) rfl rfl ?_
      refine e_130 (f_128 (pc := 126) (e := (126, 130, 61, 0, 5, 224, 1121, 129)) rfl) zA (as := [yr (some 68), yi _]) (rest := [yr (some 0)]) rfl rfl rfl rfl (Nat.le_of_ble_eq_true rfl) (Nat.le_of_ble_eq_true rfl) ⟨_, _, _, rfl, (hT 68 rfl)⟩ (mc := 0) (ms := 0) hnb hsb ?_
      refine e_K ?_ F
      rintro r h' ⟨r22, I21, rfl, rfl, F⟩
      refine e_91 zA (f_128 (pc := 129) (e := (129, 91, 10, 9, 0, 64, 1077, 132)) rfl) rfl (hT 0 rfl) rfl rfl trivial ?_
      replace F := F _ rfl
      refine e_10 (f_128 (pc := 132) (e := (132, 10, 1, 0, 0, 0, 0, 133)) rfl) rfl ?_
      refine e_0 (f_128 (pc := 133) (e := (133, 0, 1, 0, 0, 0, 0, 134)) rfl) (v := 1) rfl ?_
      refine e_71 (f_128 (pc := 134) (e := (134, 71, 145, 0, 0, 0, 0, 137)) rfl) (fun c24 => ?_) (fun c24 => ?_)
      · replace F := F.1 c24
        refine e_10 (f_128 (pc := 145) (e := (145, 10, 2, 0, 0, 0, 0, 146)) rfl) rfl ?_
        refine e_61 (f_128 (pc := 146) (e := (146, 61, 153, 0, 0, 0, 0, 149)) rfl) (fun c25 => ?_) (fun c25 => ?_)
        · replace F := F.1 c25
          refine e_10 (f_128 (pc := 153) (e := (153, 10, 3, 0, 0, 0, 0, 154)) rfl) rfl ?_
          exact e_120 (f_128 (pc := 154) (e := (154, 120, 0, 0, 0, 0, 0, 0)) rfl) F
        · replace F := F.2 c25
          refine e_0 (f_128 (pc := 149) (e := (149, 0, 4294967295, 0, 0, 0, 0, 150)) rfl) (v := (-1)) rfl ?_
          refine e_80 (f_128 (pc := 150) (e := (150, 80, 154, 0, 0, 0, 0, 153)) rfl) ?_
          exact e_120 (f_128 (pc := 154) (e := (154, 120, 0, 0, 0, 0, 0, 0)) rfl) F
      · replace F := F.2 c24
        refine e_10 (f_128 (pc := 137) (e := (137, 10, 3, 0, 0, 0, 0, 138)) rfl) rfl ?_
        refine e_65 (f_128 (pc := 138) (e := (138, 65, 145, 0, 0, 0, 0, 141)) rfl) (fun c26 => ?_) (fun c26 => ?_)
        · replace F := F.1 c26
          refine e_10 (f_128 (pc := 145) (e := (145, 10, 2, 0, 0, 0, 0, 146)) rfl) rfl ?_
          refine e_61 (f_128 (pc := 146) (e := (146, 61, 153, 0, 0, 0, 0, 149)) rfl) (fun c27 => ?_) (fun c27 => ?_)
          · replace F := F.1 c27
            refine e_10 (f_128 (pc := 153) (e := (153, 10, 3, 0, 0, 0, 0, 154)) rfl) rfl ?_
            exact e_120 (f_128 (pc := 154) (e := (154, 120, 0, 0, 0, 0, 0, 0)) rfl) F
          · replace F := F.2 c27
            refine e_0 (f_128 (pc := 149) (e := (149, 0, 4294967295, 0, 0, 0, 0, 150)) rfl) (v := (-1)) rfl ?_
            refine e_80 (f_128 (pc := 150) (e := (150, 80, 154, 0, 0, 0, 0, 153)) rfl) ?_
            exact e_120 (f_128 (pc := 154) (e := (154, 120, 0, 0, 0, 0, 0, 0)) rfl) F
        · replace F := F.2 c26
          refine e_12 (f_128 (pc := 141) (e := (141, 12, 0, 0, 0, 0, 0, 142)) rfl) rfl ?_
          refine e_130 (f_128 (pc := 142) (e := (142, 130, 134, 0, 10, 215, 1125, 145)) rfl) zA (as := [yr (some 0)]) (rest := []) rfl rfl rfl rfl (Nat.le_of_ble_eq_true rfl) (Nat.le_of_ble_eq_true rfl) ⟨_, _, _, rfl, (hT 0 rfl)⟩ (mc := 13) (ms := 494) (by omega) (by omega) ?_
          refine e_K ?_ F
          rintro r h' ⟨N29, T30, R31, I28, rfl, rfl, hT32, hR33, F⟩
          refine e_10 (f_128 (pc := 145) (e := (145, 10, 2, 0, 0, 0, 0, 146)) rfl) rfl ?_
          refine e_61 (f_128 (pc := 146) (e := (146, 61, 153, 0, 0, 0, 0, 149)) rfl) (fun c34 => ?_) (fun c34 => ?_)
          · replace F := F.1 c34
            refine e_10 (f_128 (pc := 153) (e := (153, 10, 3, 0, 0, 0, 0, 154)) rfl) rfl ?_
            exact e_120 (f_128 (pc := 154) (e := (154, 120, 0, 0, 0, 0, 0, 0)) rfl) F
          · replace F := F.2 c34
            refine e_0 (f_128 (pc := 149) (e := (149, 0, 4294967295, 0, 0, 0, 0, 150)) rfl) (v := (-1)) rfl ?_
            refine e_80 (f_128 (pc := 150) (e := (150, 80, 154, 0, 0, 0, 0, 153)) rfl) ?_
            exact e_120 (f_128 (pc := 154) (e := (154, 120, 0, 0, 0, 0, 0, 0)) rfl) F
    · replace F := F.2 c18
      refine e_10 (f_128 (pc := 55) (e := (55, 10, 2, 0, 0, 0, 0, 56)) rfl) rfl ?_
      refine e_61 (f_128 (pc := 56) (e := (56, 61, 98, 0, 0, 0, 0, 59)) rfl) (fun c35 => ?_) (fun c35 => ?_)
      · replace F := F.1 c35
        refine e_12 (f_128 (pc := 98) (e := (98, 12, 0, 0, 0, 0, 0, 99)) rfl) rfl ?_
        refine e_10 (f_128 (pc := 99) (e := (99, 10, 2, 0, 0, 0, 0, 100)) rfl) rfl ?_
        refine e_91 zA (f_128 (pc := 100) (e := (100, 91, 10, 7, 0, 57, 1075, 103)) rfl) rfl (hT 0 rfl) rfl rfl trivial ?_
        replace F := F _ rfl
        refine e_12 (f_128 (pc := 103) (e := (103, 12, 0, 0, 0, 0, 0, 104)) rfl) rfl ?_
        refine e_10 (f_128 (pc := 104) (e := (104, 10, 3, 0, 0, 0, 0, 105)) rfl) rfl ?_
        refine e_91 zA (f_128 (pc := 105) (e := (105, 91, 10, 8, 0, 61, 1076, 108)) rfl) rfl (hT 0 rfl) rfl rfl trivial ?_
        replace F := F _ rfl
        refine e_12 (f_128 (pc := 108) (e := (108, 12, 0, 0, 0, 0, 0, 109)) rfl) rfl ?_
        refine e_12 (f_128 (pc := 109) (e := (109, 12, 0, 0, 0, 0, 0, 110)) rfl) rfl ?_
        refine e_90r zA (f_128 (pc := 110) (e := (110, 90, 10, 3, 3, 35, 1069, 113)) rfl) rfl (hT 0 rfl) rfl rfl (hR 0 3 rfl) ?_
        refine e_90r zA (f_128 (pc := 113) (e := (113, 90, 7, 2, 3, 206, 1094, 116)) rfl) rfl (hT 67 rfl) rfl rfl (hR 67 2 rfl) ?_
        refine e_12 (f_128 (pc := 116) (e := (116, 12, 0, 0, 0, 0, 0, 117)) rfl) rfl ?_
        refine e_90r zA (f_128 (pc := 117) (e := (117, 90, 10, 1, 3, 19, 1064, 120)) rfl) rfl (hT 0 rfl) rfl rfl (hR 0 1 rfl) ?_
        refine e_90r zA (f_128 (pc := 120) (e := (120, 90, 9, 0, 3, 28, 1067, 123)) rfl) rfl (hT 3 rfl) rfl rfl (hR 3 0 rfl) ?_
        refine e_90 zA (f_128 (pc := 123) (e := (123, 90, 1, 5, 0, 218, 1093, 126)) rfl) rfl (hT 4 rfl) rfl rfl ?_
        refine e_130 (f_128 (pc := 126) (e := (126, 130, 61, 0, 5, 224, 1121, 129)) rfl) zA (as := [yr (some 68), yi _]) (rest := [yr (some 0)]) rfl rfl rfl rfl (Nat.le_of_ble_eq_true rfl) (Nat.le_of_ble_eq_true rfl) ⟨_, _, _, rfl, (hT 68 rfl)⟩ (mc := 0) (ms := 0) hnb hsb ?_
        refine e_K ?_ F
        rintro r h' ⟨r39, I38, rfl, rfl, F⟩
        refine e_91 zA (f_128 (pc := 129) (e := (129, 91, 10, 9, 0, 64, 1077, 132)) rfl) rfl (hT 0 rfl) rfl rfl trivial ?_
        replace F := F _ rfl
        refine e_10 (f_128 (pc := 132) (e := (132, 10, 1, 0, 0, 0, 0, 133)) rfl) rfl ?_
        refine e_0 (f_128 (pc := 133) (e := (133, 0, 1, 0, 0, 0, 0, 134)) rfl) (v := 1) rfl ?_
        refine e_71 (f_128 (pc := 134) (e := (134, 71, 145, 0, 0, 0, 0, 137)) rfl) (fun c41 => ?_) (fun c41 => ?_)
        · replace F := F.1 c41
          refine e_10 (f_128 (pc := 145) (e := (145, 10, 2, 0, 0, 0, 0, 146)) rfl) rfl ?_
          refine e_61 (f_128 (pc := 146) (e := (146, 61, 153, 0, 0, 0, 0, 149)) rfl) (fun c42 => ?_) (fun c42 => ?_)
          · replace F := F.1 c42
            refine e_10 (f_128 (pc := 153) (e := (153, 10, 3, 0, 0, 0, 0, 154)) rfl) rfl ?_
            exact e_120 (f_128 (pc := 154) (e := (154, 120, 0, 0, 0, 0, 0, 0)) rfl) F
          · replace F := F.2 c42
            refine e_0 (f_128 (pc := 149) (e := (149, 0, 4294967295, 0, 0, 0, 0, 150)) rfl) (v := (-1)) rfl ?_
            refine e_80 (f_128 (pc := 150) (e := (150, 80, 154, 0, 0, 0, 0, 153)) rfl) ?_
            exact e_120 (f_128 (pc := 154) (e := (154, 120, 0, 0, 0, 0, 0, 0)) rfl) F
        · replace F := F.2 c41
          refine e_10 (f_128 (pc := 137) (e := (137, 10, 3, 0, 0, 0, 0, 138)) rfl) rfl ?_
          refine e_65 (f_128 (pc := 138) (e := (138, 65, 145, 0, 0, 0, 0, 141)) rfl) (fun c43 => ?_) (fun c43 => ?_)
          · replace F := F.1 c43
            refine e_10 (f_128 (pc := 145) (e := (145, 10, 2, 0, 0, 0, 0, 146)) rfl) rfl ?_
            refine e_61 (f_128 (pc := 146) (e := (146, 61, 153, 0, 0, 0, 0, 149)) rfl) (fun c44 => ?_) (fun c44 => ?_)
            · replace F := F.1 c44
              refine e_10 (f_128 (pc := 153) (e := (153, 10, 3, 0, 0, 0, 0, 154)) rfl) rfl ?_
              exact e_120 (f_128 (pc := 154) (e := (154, 120, 0, 0, 0, 0, 0, 0)) rfl) F
            · replace F := F.2 c44
              refine e_0 (f_128 (pc := 149) (e := (149, 0, 4294967295, 0, 0, 0, 0, 150)) rfl) (v := (-1)) rfl ?_
              refine e_80 (f_128 (pc := 150) (e := (150, 80, 154, 0, 0, 0, 0, 153)) rfl) ?_
              exact e_120 (f_128 (pc := 154) (e := (154, 120, 0, 0, 0, 0, 0, 0)) rfl) F
          · replace F := F.2 c43
            refine e_12 (f_128 (pc := 141) (e := (141, 12, 0, 0, 0, 0, 0, 142)) rfl) rfl ?_
            refine e_130 (f_128 (pc := 142) (e := (142, 130, 134, 0, 10, 215, 1125, 145)) rfl) zA (as := [yr (some 0)]) (rest := []) rfl rfl rfl rfl (Nat.le_of_ble_eq_true rfl) (Nat.le_of_ble_eq_true rfl) ⟨_, _, _, rfl, (hT 0 rfl)⟩ (mc := 13) (ms := 494) (by omega) (by omega) ?_
            refine e_K ?_ F
            rintro r h' ⟨N46, T47, R48, I45, rfl, rfl, hT49, hR50, F⟩
            refine e_10 (f_128 (pc := 145) (e := (145, 10, 2, 0, 0, 0, 0, 146)) rfl) rfl ?_
            refine e_61 (f_128 (pc := 146) (e := (146, 61, 153, 0, 0, 0, 0, 149)) rfl) (fun c51 => ?_) (fun c51 => ?_)
            · replace F := F.1 c51
              refine e_10 (f_128 (pc := 153) (e := (153, 10, 3, 0, 0, 0, 0, 154)) rfl) rfl ?_
              exact e_120 (f_128 (pc := 154) (e := (154, 120, 0, 0, 0, 0, 0, 0)) rfl) F
            · replace F := F.2 c51
              refine e_0 (f_128 (pc := 149) (e := (149, 0, 4294967295, 0, 0, 0, 0, 150)) rfl) (v := (-1)) rfl ?_
              refine e_80 (f_128 (pc := 150) (e := (150, 80, 154, 0, 0, 0, 0, 153)) rfl) ?_
              exact e_120 (f_128 (pc := 154) (e := (154, 120, 0, 0, 0, 0, 0, 0)) rfl) F
      · replace F := F.2 c35
        refine e_12 (f_128 (pc := 59) (e := (59, 12, 0, 0, 0, 0, 0, 60)) rfl) rfl ?_
        refine e_90r zA (f_128 (pc := 60) (e := (60, 90, 10, 3, 3, 35, 1069, 63)) rfl) rfl (hT 0 rfl) rfl rfl (hR 0 3 rfl) ?_
        refine e_12 (f_128 (pc := 63) (e := (63, 12, 0, 0, 0, 0, 0, 64)) rfl) rfl ?_
        refine e_90r zA (f_128 (pc := 64) (e := (64, 90, 10, 1, 3, 19, 1064, 67)) rfl) rfl (hT 0 rfl) rfl rfl (hR 0 1 rfl) ?_
        refine e_90r zA (f_128 (pc := 67) (e := (67, 90, 9, 2, 3, 101, 1086, 70)) rfl) rfl (hT 3 rfl) rfl rfl (hR 3 2 rfl) ?_
        refine e_90r zA (f_128 (pc := 70) (e := (70, 90, 2, 1, 3, 301, 1123, 73)) rfl) rfl (hT 29 rfl) rfl rfl (hR 29 1 rfl) ?_
        refine e_11 (f_128 (pc := 73) (e := (73, 11, 4, 0, 0, 0, 0, 75)) rfl) rfl ?_
        obtain ⟨b52, b53, F⟩ := F
        refine e_110 (f_128 (pc := 75) (e := (75, 110, 0, 0, 0, 0, 0, 76)) rfl) rfl (hT 30 rfl) b52 b53 ?_
        refine e_130 (f_128 (pc := 76) (e := (76, 130, 87, 0, 7, 302, 1124, 79)) rfl) zA (as := [yr (some 67), yi _]) (rest := []) rfl rfl rfl rfl (Nat.le_of_ble_eq_true rfl) (Nat.le_of_ble_eq_true rfl) ⟨_, _, _, rfl, (hT 67 rfl)⟩ (mc := 0) (ms := 0) hnb hsb ?_
        refine e_K ?_ F
        rintro r h' ⟨r55, I54, rfl, rfl, F⟩
        refine e_20 (f_128 (pc := 79) (e := (79, 20, 2, 0, 0, 0, 0, 80)) rfl) ?_
        refine e_10 (f_128 (pc := 80) (e := (80, 10, 3, 0, 0, 0, 0, 81)) rfl) rfl ?_
        refine e_10 (f_128 (pc := 81) (e := (81, 10, 2, 0, 0, 0, 0, 82)) rfl) rfl ?_
        refine e_61 (f_128 (pc := 82) (e := (82, 61, 89, 0, 0, 0, 0, 85)) rfl) (fun c56 => ?_) (fun c56 => ?_)
        · replace F := F.1 c56
          refine e_0 (f_128 (pc := 89) (e := (89, 0, 0, 0, 0, 0, 0, 90)) rfl) (v := 0) rfl ?_
          refine e_30 (f_128 (pc := 90) (e := (90, 30, 0, 0, 0, 0, 0, 91)) rfl) ?_
          refine e_20 (f_128 (pc := 91) (e := (91, 20, 3, 0, 0, 0, 0, 92)) rfl) ?_
          refine e_26 (f_128 (pc := 92) (e := (92, 26, 4, 1, 0, 0, 0, 95)) rfl) (w := 1) rfl rfl ?_
          refine e_80 (f_128 (pc := 95) (e := (95, 80, 33, 0, 0, 0, 0, 98)) rfl) ?_
          refine e_lo [0, 1, 2, 3, 4] rfl ?_
          exact F
        · replace F := F.2 c56
          refine e_0 (f_128 (pc := 85) (e := (85, 0, 1, 0, 0, 0, 0, 86)) rfl) (v := 1) rfl ?_
          refine e_80 (f_128 (pc := 86) (e := (86, 80, 90, 0, 0, 0, 0, 89)) rfl) ?_
          refine e_30 (f_128 (pc := 90) (e := (90, 30, 0, 0, 0, 0, 0, 91)) rfl) ?_
          refine e_20 (f_128 (pc := 91) (e := (91, 20, 3, 0, 0, 0, 0, 92)) rfl) ?_
          refine e_26 (f_128 (pc := 92) (e := (92, 26, 4, 1, 0, 0, 0, 95)) rfl) (w := 1) rfl rfl ?_
          refine e_80 (f_128 (pc := 95) (e := (95, 80, 33, 0, 0, 0, 0, 98)) rfl) ?_
          refine e_lo [0, 1, 2, 3, 4] rfl ?_
          exact F
/-! ChairAlley.lane(II)Z -/
set_option maxRecDepth 20000 in
theorem Bd_130_0 (hT : yLT T) (hR : yLR R) (hnb : nc ≤ bc) (hsb : nl ≤ bs) (hb1 : nc + 13 ≤ bc) (hb2 : nl + 494 ≤ bs) {x1 x2 : Int} (F : yW l zSS D cy zFk z d 10 0 0 (fun r h' => ∃ r2 I1, r = some (yi r2) ∧ h' = (N, T, R, I1) ∧ ((r2 = 0 → K (some (yi 0)) (N, T, R, I1)) ∧ (¬ (r2 = 0) → yW l zSS D cy zFk z d 12 0 0 (fun r h' => ∃ r5 I4, r = some (yi r5) ∧ h' = (N, T, R, I4) ∧ ((r5 = 0 → (x2 < (-1) → K (some (yi 0)) (N, T, R, I4)) ∧ (¬ (x2 < (-1)) → (4 ≤ x2 → K (some (yi 0)) (N, T, R, I4)) ∧ (¬ (4 ≤ x2) → 0 ≤ x1 ∧ x1 < 100 ∧ (((I4 17 x1.toNat) ≠ x2 → yW l zSS D cy zFk z d 2 13 494 (fun r h' => ∃ N13 T14 R15 I12, r = none ∧ h' = (N13, T14, R15, I12) ∧ yLT T14 ∧ yLR R15 ∧ (0 ≤ x1 ∧ x1 < 100 ∧ (∀ I20, I20 = yU I12 17 x1.toNat (ynar 1 x2) → (K (some (yi 1)) (N13, T14, R15, I20))))) 0 0 0 [(0, yr (some 89)), (1, yr (some 16))] [] (N, T, R, I4)) ∧ (¬ ((I4 17 x1.toNat) ≠ x2) → K (some (yi 0)) (N, T, R, I4)))))) ∧ (¬ (r5 = 0) → K (some (yi 0)) (N, T, R, I4)))) 0 0 0 [(0, yr (some 4)), (1, yi x1), (2, yi 1)] [] (N, T, R, I1)))) 0 0 0 [(0, yr (some 4)), (1, yi x1)] [] (N, T, R, I)) :
    yW l zSS D cy zFk z (d + 1) 130 bc bs K nc nl 0 [(0, yr (some 0)), (1, yi x1), (2, yi x2)] [] (N, T, R, I) := by
  refine e_12 (f_130 (pc := 0) (e := (0, 12, 0, 0, 0, 0, 0, 1)) rfl) rfl ?_
  refine e_90r zA (f_130 (pc := 1) (e := (1, 90, 10, 1, 3, 19, 1064, 4)) rfl) rfl (hT 0 rfl) rfl rfl (hR 0 1 rfl) ?_
  refine e_90r zA (f_130 (pc := 4) (e := (4, 90, 9, 0, 3, 28, 1067, 7)) rfl) rfl (hT 3 rfl) rfl rfl (hR 3 0 rfl) ?_
  refine e_10 (f_130 (pc := 7) (e := (7, 10, 1, 0, 0, 0, 0, 8)) rfl) rfl ?_
  refine e_130 (f_130 (pc := 8) (e := (8, 130, 10, 0, 1, 159, 1097, 11)) rfl) zA (as := [yr (some 4), yi x1]) (rest := []) rfl rfl rfl rfl (Nat.le_of_ble_eq_true rfl) (Nat.le_of_ble_eq_true rfl) ⟨_, _, _, rfl, (hT 4 rfl)⟩ (mc := 0) (ms := 0) hnb hsb ?_
  refine e_K ?_ F
  rintro r h' ⟨r2, I1, rfl, rfl, F⟩
  refine e_60 (f_130 (pc := 11) (e := (11, 60, 29, 0, 0, 0, 0, 14)) rfl) (fun c3 => ?_) (fun c3 => ?_)
  · replace F := F.1 c3
    refine e_0 (f_130 (pc := 29) (e := (29, 0, 0, 0, 0, 0, 0, 30)) rfl) (v := 0) rfl ?_
    exact e_121 (f_130 (pc := 30) (e := (30, 121, 0, 0, 0, 0, 0, 31)) rfl) (.inl rfl) F
  · replace F := F.2 c3
    refine e_12 (f_130 (pc := 14) (e := (14, 12, 0, 0, 0, 0, 0, 15)) rfl) rfl ?_
    refine e_90r zA (f_130 (pc := 15) (e := (15, 90, 10, 1, 3, 19, 1064, 18)) rfl) rfl (hT 0 rfl) rfl rfl (hR 0 1 rfl) ?_
    refine e_90r zA (f_130 (pc := 18) (e := (18, 90, 9, 0, 3, 28, 1067, 21)) rfl) rfl (hT 3 rfl) rfl rfl (hR 3 0 rfl) ?_
    refine e_10 (f_130 (pc := 21) (e := (21, 10, 1, 0, 0, 0, 0, 22)) rfl) rfl ?_
    refine e_0 (f_130 (pc := 22) (e := (22, 0, 1, 0, 0, 0, 0, 23)) rfl) (v := 1) rfl ?_
    refine e_130 (f_130 (pc := 23) (e := (23, 130, 12, 0, 1, 162, 1098, 26)) rfl) zA (as := [yr (some 4), yi x1, yi 1]) (rest := []) rfl rfl rfl rfl (Nat.le_of_ble_eq_true rfl) (Nat.le_of_ble_eq_true rfl) ⟨_, _, _, rfl, (hT 4 rfl)⟩ (mc := 0) (ms := 0) hnb hsb ?_
    refine e_K ?_ F
    rintro r h' ⟨r5, I4, rfl, rfl, F⟩
    refine e_60 (f_130 (pc := 26) (e := (26, 60, 31, 0, 0, 0, 0, 29)) rfl) (fun c6 => ?_) (fun c6 => ?_)
    · replace F := F.1 c6
      refine e_10 (f_130 (pc := 31) (e := (31, 10, 2, 0, 0, 0, 0, 32)) rfl) rfl ?_
      refine e_0 (f_130 (pc := 32) (e := (32, 0, 4294967295, 0, 0, 0, 0, 33)) rfl) (v := (-1)) rfl ?_
      refine e_72 (f_130 (pc := 33) (e := (33, 72, 57, 0, 0, 0, 0, 36)) rfl) (fun c7 => ?_) (fun c7 => ?_)
      · replace F := F.1 c7
        refine e_0 (f_130 (pc := 57) (e := (57, 0, 0, 0, 0, 0, 0, 58)) rfl) (v := 0) rfl ?_
        exact e_121 (f_130 (pc := 58) (e := (58, 121, 0, 0, 0, 0, 0, 59)) rfl) (.inl rfl) F
      · replace F := F.2 c7
        refine e_10 (f_130 (pc := 36) (e := (36, 10, 2, 0, 0, 0, 0, 37)) rfl) rfl ?_
        refine e_0 (f_130 (pc := 37) (e := (37, 0, 4, 0, 0, 0, 0, 38)) rfl) (v := 4) rfl ?_
        refine e_73 (f_130 (pc := 38) (e := (38, 73, 57, 0, 0, 0, 0, 41)) rfl) (fun c8 => ?_) (fun c8 => ?_)
        · replace F := F.1 c8
          refine e_0 (f_130 (pc := 57) (e := (57, 0, 0, 0, 0, 0, 0, 58)) rfl) (v := 0) rfl ?_
          exact e_121 (f_130 (pc := 58) (e := (58, 121, 0, 0, 0, 0, 0, 59)) rfl) (.inl rfl) F
        · replace F := F.2 c8
          refine e_12 (f_130 (pc := 41) (e := (41, 12, 0, 0, 0, 0, 0, 42)) rfl) rfl ?_
          refine e_90r zA (f_130 (pc := 42) (e := (42, 90, 10, 1, 3, 19, 1064, 45)) rfl) rfl (hT 0 rfl) rfl rfl (hR 0 1 rfl) ?_
          refine e_90r zA (f_130 (pc := 45) (e := (45, 90, 9, 1, 3, 92, 1084, 48)) rfl) rfl (hT 3 rfl) rfl rfl (hR 3 1 rfl) ?_
          refine e_90r zA (f_130 (pc := 48) (e := (48, 90, 5, 1, 3, 166, 1099, 51)) rfl) rfl (hT 16 rfl) rfl rfl (hR 16 1 rfl) ?_
          refine e_10 (f_130 (pc := 51) (e := (51, 10, 1, 0, 0, 0, 0, 52)) rfl) rfl ?_
          obtain ⟨b9, b10, F⟩ := F
          refine e_110 (f_130 (pc := 52) (e := (52, 110, 0, 0, 0, 0, 0, 53)) rfl) rfl (hT 17 rfl) b9 b10 ?_
          refine e_10 (f_130 (pc := 53) (e := (53, 10, 2, 0, 0, 0, 0, 54)) rfl) rfl ?_
          refine e_71 (f_130 (pc := 54) (e := (54, 71, 59, 0, 0, 0, 0, 57)) rfl) (fun c11 => ?_) (fun c11 => ?_)
          · replace F := F.1 c11
            refine e_12 (f_130 (pc := 59) (e := (59, 12, 0, 0, 0, 0, 0, 60)) rfl) rfl ?_
            refine e_90r zA (f_130 (pc := 60) (e := (60, 90, 10, 4, 3, 42, 1071, 63)) rfl) rfl (hT 0 rfl) rfl rfl (hR 0 4 rfl) ?_
            refine e_12 (f_130 (pc := 63) (e := (63, 12, 0, 0, 0, 0, 0, 64)) rfl) rfl ?_
            refine e_90r zA (f_130 (pc := 64) (e := (64, 90, 10, 1, 3, 19, 1064, 67)) rfl) rfl (hT 0 rfl) rfl rfl (hR 0 1 rfl) ?_
            refine e_90r zA (f_130 (pc := 67) (e := (67, 90, 9, 1, 3, 92, 1084, 70)) rfl) rfl (hT 3 rfl) rfl rfl (hR 3 1 rfl) ?_
            refine e_130 (f_130 (pc := 70) (e := (70, 130, 2, 0, 0, 241, 1116, 73)) rfl) zA (as := [yr (some 89), yr (some 16)]) (rest := []) rfl rfl rfl rfl (Nat.le_of_ble_eq_true rfl) (Nat.le_of_ble_eq_true rfl) ⟨_, _, _, rfl, (hT 89 rfl)⟩ (mc := 13) (ms := 494) (by omega) (by omega) ?_
            refine e_K ?_ F
            rintro r h' ⟨N13, T14, R15, I12, rfl, rfl, hT16, hR17, F⟩
            refine e_12 (f_130 (pc := 73) (e := (73, 12, 0, 0, 0, 0, 0, 74)) rfl) rfl ?_
            refine e_90r zA (f_130 (pc := 74) (e := (74, 90, 10, 1, 3, 19, 1064, 77)) rfl) rfl (hT16 0 rfl) rfl rfl (hR17 0 1 rfl) ?_
            refine e_90r zA (f_130 (pc := 77) (e := (77, 90, 9, 1, 3, 92, 1084, 80)) rfl) rfl (hT16 3 rfl) rfl rfl (hR17 3 1 rfl) ?_
            refine e_90r zA (f_130 (pc := 80) (e := (80, 90, 5, 1, 3, 166, 1099, 83)) rfl) rfl (hT16 16 rfl) rfl rfl (hR17 16 1 rfl) ?_
            refine e_10 (f_130 (pc := 83) (e := (83, 10, 1, 0, 0, 0, 0, 84)) rfl) rfl ?_
            refine e_10 (f_130 (pc := 84) (e := (84, 10, 2, 0, 0, 0, 0, 85)) rfl) rfl ?_
            obtain ⟨b18, b19, F⟩ := F
            refine e_111 (f_130 (pc := 85) (e := (85, 111, 0, 0, 0, 0, 0, 86)) rfl) rfl (hT16 17 rfl) b18 b19 ?_
            replace F := F _ rfl
            refine e_0 (f_130 (pc := 86) (e := (86, 0, 1, 0, 0, 0, 0, 87)) rfl) (v := 1) rfl ?_
            exact e_121 (f_130 (pc := 87) (e := (87, 121, 0, 0, 0, 0, 0, 0)) rfl) (.inr rfl) F
          · replace F := F.2 c11
            refine e_0 (f_130 (pc := 57) (e := (57, 0, 0, 0, 0, 0, 0, 58)) rfl) (v := 0) rfl ?_
            exact e_121 (f_130 (pc := 58) (e := (58, 121, 0, 0, 0, 0, 0, 59)) rfl) (.inl rfl) F
    · replace F := F.2 c6
      refine e_0 (f_130 (pc := 29) (e := (29, 0, 0, 0, 0, 0, 0, 30)) rfl) (v := 0) rfl ?_
      exact e_121 (f_130 (pc := 30) (e := (30, 121, 0, 0, 0, 0, 0, 31)) rfl) (.inl rfl) F
/-! ChairAlley.liveWhatWasTried()V -/
set_option maxRecDepth 20000 in
theorem Bd_134_0 (hT : yLT T) (hR : yLR R) (hnb : nc ≤ bc) (hsb : nl ≤ bs) (hb1 : nc + 13 ≤ bc) (hb2 : nl + 494 ≤ bs) (F : yW l zSS D cy zFk z d 2 13 494 (fun r h' => ∃ N2 T3 R4 I1, r = none ∧ h' = (N2, T3, R4, I1) ∧ yLT T3 ∧ yLR R4 ∧ (yW l zSS D cy zFk z d 62 0 0 (fun r h' => ∃ I7, r = none ∧ h' = (N2, T3, R4, I7) ∧ (K none (N2, T3, R4, I7))) 0 0 0 [(0, yr (some 16)), (1, yr (some 68))] [] (N2, T3, R4, I1))) 0 0 0 [(0, yr (some 89)), (1, yr (some 16))] [] (N, T, R, I)) :
    yW l zSS D cy zFk z (d + 1) 134 bc bs K nc nl 0 [(0, yr (some 0))] [] (N, T, R, I) := by
  refine e_12 (f_134 (pc := 0) (e := (0, 12, 0, 0, 0, 0, 0, 1)) rfl) rfl ?_
  refine e_90r zA (f_134 (pc := 1) (e := (1, 90, 10, 4, 3, 42, 1071, 4)) rfl) rfl (hT 0 rfl) rfl rfl (hR 0 4 rfl) ?_
  refine e_12 (f_134 (pc := 4) (e := (4, 12, 0, 0, 0, 0, 0, 5)) rfl) rfl ?_
  refine e_90r zA (f_134 (pc := 5) (e := (5, 90, 10, 1, 3, 19, 1064, 8)) rfl) rfl (hT 0 rfl) rfl rfl (hR 0 1 rfl) ?_
  refine e_90r zA (f_134 (pc := 8) (e := (8, 90, 9, 1, 3, 92, 1084, 11)) rfl) rfl (hT 3 rfl) rfl rfl (hR 3 1 rfl) ?_
  refine e_130 (f_134 (pc := 11) (e := (11, 130, 2, 0, 0, 241, 1116, 14)) rfl) zA (as := [yr (some 89), yr (some 16)]) (rest := []) rfl rfl rfl rfl (Nat.le_of_ble_eq_true rfl) (Nat.le_of_ble_eq_true rfl) ⟨_, _, _, rfl, (hT 89 rfl)⟩ (mc := 13) (ms := 494) (by omega) (by omega) ?_
  refine e_K ?_ F
  rintro r h' ⟨N2, T3, R4, I1, rfl, rfl, hT5, hR6, F⟩
  refine e_12 (f_134 (pc := 14) (e := (14, 12, 0, 0, 0, 0, 0, 15)) rfl) rfl ?_
  refine e_90r zA (f_134 (pc := 15) (e := (15, 90, 10, 1, 3, 19, 1064, 18)) rfl) rfl (hT5 0 rfl) rfl rfl (hR6 0 1 rfl) ?_
  refine e_90r zA (f_134 (pc := 18) (e := (18, 90, 9, 1, 3, 92, 1084, 21)) rfl) rfl (hT5 3 rfl) rfl rfl (hR6 3 1 rfl) ?_
  refine e_12 (f_134 (pc := 21) (e := (21, 12, 0, 0, 0, 0, 0, 22)) rfl) rfl ?_
  refine e_90r zA (f_134 (pc := 22) (e := (22, 90, 10, 3, 3, 35, 1069, 25)) rfl) rfl (hT5 0 rfl) rfl rfl (hR6 0 3 rfl) ?_
  refine e_90r zA (f_134 (pc := 25) (e := (25, 90, 7, 2, 3, 206, 1094, 28)) rfl) rfl (hT5 67 rfl) rfl rfl (hR6 67 2 rfl) ?_
  refine e_130 (f_134 (pc := 28) (e := (28, 130, 62, 0, 5, 330, 1131, 31)) rfl) zA (as := [yr (some 16), yr (some 68)]) (rest := []) rfl rfl rfl rfl (Nat.le_of_ble_eq_true rfl) (Nat.le_of_ble_eq_true rfl) ⟨_, _, _, rfl, (hT5 16 rfl)⟩ (mc := 0) (ms := 0) (by omega) (by omega) ?_
  refine e_K ?_ F
  rintro r h' ⟨I7, rfl, rfl, F⟩
  exact e_122 (f_134 (pc := 31) (e := (31, 122, 0, 0, 0, 0, 0, 0)) rfl) F
/-! ChairAlley.on(I)I -/
set_option maxRecDepth 20000 in
theorem Bd_140_0 (hT : yLT T) (hR : yLR R) (hnb : nc ≤ bc) (hsb : nl ≤ bs) (hb1 : nc + 13 ≤ bc) (hb2 : nl + 494 ≤ bs) {x1 : Int} (F : (x1 < 1 → K (some (yi (-1))) (N, T, R, I)) ∧ (¬ (x1 < 1) → (x1 ≤ 100 → yW l zSS D cy zFk z d 102 0 0 (fun r h' => ∃ I3, r = none ∧ h' = (N, T, R, I3) ∧ (yW l zSS D cy zFk z d 96 0 0 (fun r h' => ∃ I4, r = none ∧ h' = (N, T, R, I4) ∧ (yW l zSS D cy zFk z (d + 1) 140 bc bs K nc nl 36 [(0, yr (some 0)), (1, yi x1), (2, yi 0)] [] (N, T, R, I4))) 0 0 0 [(0, yr (some 67))] [] (N, T, R, I3))) 0 0 0 [(0, yr (some 67)), (1, yr (some 16))] [] (N, T, R, I)) ∧ (¬ (x1 ≤ 100) → K (some (yi (-1))) (N, T, R, I)))) :
    yW l zSS D cy zFk z (d + 1) 140 bc bs K nc nl 0 [(0, yr (some 0)), (1, yi x1)] [] (N, T, R, I) := by
  refine e_10 (f_140 (pc := 0) (e := (0, 10, 1, 0, 0, 0, 0, 1)) rfl) rfl ?_
  refine e_0 (f_140 (pc := 1) (e := (1, 0, 1, 0, 0, 0, 0, 2)) rfl) (v := 1) rfl ?_
  refine e_72 (f_140 (pc := 2) (e := (2, 72, 11, 0, 0, 0, 0, 5)) rfl) (fun c1 => ?_) (fun c1 => ?_)
  · replace F := F.1 c1
    refine e_0 (f_140 (pc := 11) (e := (11, 0, 4294967295, 0, 0, 0, 0, 12)) rfl) (v := (-1)) rfl ?_
    exact e_120 (f_140 (pc := 12) (e := (12, 120, 0, 0, 0, 0, 0, 13)) rfl) F
  · replace F := F.2 c1
    refine e_10 (f_140 (pc := 5) (e := (5, 10, 1, 0, 0, 0, 0, 6)) rfl) rfl ?_
    refine e_1 (f_140 (pc := 6) (e := (6, 1, 100, 0, 0, 0, 0, 8)) rfl) (v := 100) rfl ?_
    refine e_75 (f_140 (pc := 8) (e := (8, 75, 13, 0, 0, 0, 0, 11)) rfl) (fun c2 => ?_) (fun c2 => ?_)
    · replace F := F.1 c2
      refine e_12 (f_140 (pc := 13) (e := (13, 12, 0, 0, 0, 0, 0, 14)) rfl) rfl ?_
      refine e_90r zA (f_140 (pc := 14) (e := (14, 90, 10, 3, 3, 35, 1069, 17)) rfl) rfl (hT 0 rfl) rfl rfl (hR 0 3 rfl) ?_
      refine e_12 (f_140 (pc := 17) (e := (17, 12, 0, 0, 0, 0, 0, 18)) rfl) rfl ?_
      refine e_90r zA (f_140 (pc := 18) (e := (18, 90, 10, 1, 3, 19, 1064, 21)) rfl) rfl (hT 0 rfl) rfl rfl (hR 0 1 rfl) ?_
      refine e_90r zA (f_140 (pc := 21) (e := (21, 90, 9, 1, 3, 92, 1084, 24)) rfl) rfl (hT 3 rfl) rfl rfl (hR 3 1 rfl) ?_
      refine e_130 (f_140 (pc := 24) (e := (24, 130, 102, 0, 7, 193, 1122, 27)) rfl) zA (as := [yr (some 67), yr (some 16)]) (rest := []) rfl rfl rfl rfl (Nat.le_of_ble_eq_true rfl) (Nat.le_of_ble_eq_true rfl) ⟨_, _, _, rfl, (hT 67 rfl)⟩ (mc := 0) (ms := 0) hnb hsb ?_
      refine e_K ?_ F
      rintro r h' ⟨I3, rfl, rfl, F⟩
      refine e_12 (f_140 (pc := 27) (e := (27, 12, 0, 0, 0, 0, 0, 28)) rfl) rfl ?_
      refine e_90r zA (f_140 (pc := 28) (e := (28, 90, 10, 3, 3, 35, 1069, 31)) rfl) rfl (hT 0 rfl) rfl rfl (hR 0 3 rfl) ?_
      refine e_130 (f_140 (pc := 31) (e := (31, 130, 96, 0, 7, 203, 1092, 34)) rfl) zA (as := [yr (some 67)]) (rest := []) rfl rfl rfl rfl (Nat.le_of_ble_eq_true rfl) (Nat.le_of_ble_eq_true rfl) ⟨_, _, _, rfl, (hT 67 rfl)⟩ (mc := 0) (ms := 0) hnb hsb ?_
      refine e_K ?_ F
      rintro r h' ⟨I4, rfl, rfl, F⟩
      refine e_0 (f_140 (pc := 34) (e := (34, 0, 0, 0, 0, 0, 0, 35)) rfl) (v := 0) rfl ?_
      refine e_20 (f_140 (pc := 35) (e := (35, 20, 2, 0, 0, 0, 0, 36)) rfl) ?_
      refine e_lo [0, 1, 2] rfl ?_
      exact F
    · replace F := F.2 c2
      refine e_0 (f_140 (pc := 11) (e := (11, 0, 4294967295, 0, 0, 0, 0, 12)) rfl) (v := (-1)) rfl ?_
      exact e_120 (f_140 (pc := 12) (e := (12, 120, 0, 0, 0, 0, 0, 13)) rfl) F
set_option maxRecDepth 20000 in
theorem Bd_140_36 (hT : yLT T) (hR : yLR R) (hnb : nc ≤ bc) (hsb : nl ≤ bs) (hb1 : nc + 13 ≤ bc) (hb2 : nl + 494 ≤ bs) {x1 x2 : Int} (F : (x1 ≤ x2 → ((ysub (I 68 0) (I 16 0)) ≤ 0 → K (some (yi (ysub (I 68 0) (I 16 0)))) (N, T, R, I)) ∧ (¬ ((ysub (I 68 0) (I 16 0)) ≤ 0) → yW l zSS D cy zFk z d 134 13 494 (fun r h' => ∃ N4 T5 R6 I3, r = none ∧ h' = (N4, T5, R6, I3) ∧ yLT T5 ∧ yLR R6 ∧ (K (some (yi (ysub (I 68 0) (I 16 0)))) (N4, T5, R6, I3))) 0 0 0 [(0, yr (some 0))] [] (N, T, R, I))) ∧ (¬ (x1 ≤ x2) → (500 ≤ (I 68 0) → ((ysub (I 68 0) (I 16 0)) ≤ 0 → K (some (yi (ysub (I 68 0) (I 16 0)))) (N, T, R, I)) ∧ (¬ ((ysub (I 68 0) (I 16 0)) ≤ 0) → yW l zSS D cy zFk z d 134 13 494 (fun r h' => ∃ N12 T13 R14 I11, r = none ∧ h' = (N12, T13, R14, I11) ∧ yLT T13 ∧ yLR R14 ∧ (K (some (yi (ysub (I 68 0) (I 16 0)))) (N12, T13, R14, I11))) 0 0 0 [(0, yr (some 0))] [] (N, T, R, I))) ∧ (¬ (500 ≤ (I 68 0)) → yW l zSS D cy zFk z d 88 0 0 (fun r h' => ∃ I17, r = none ∧ h' = (N, T, R, I17) ∧ (yW l zSS D cy zFk z (d + 1) 140 bc bs K nc nl 36 [(0, yr (some 0)), (1, yi x1), (2, yi (yadd x2 1))] [] (N, T, R, I17))) 0 0 0 [(0, yr (some 67))] [] (N, T, R, I)))) :
    yW l zSS D cy zFk z (d + 1) 140 bc bs K nc nl 36 [(0, yr (some 0)), (1, yi x1), (2, yi x2)] [] (N, T, R, I) := by
  refine e_10 (f_140 (pc := 36) (e := (36, 10, 2, 0, 0, 0, 0, 37)) rfl) rfl ?_
  refine e_10 (f_140 (pc := 37) (e := (37, 10, 1, 0, 0, 0, 0, 38)) rfl) rfl ?_
  refine e_73 (f_140 (pc := 38) (e := (38, 73, 70, 0, 0, 0, 0, 41)) rfl) (fun c1 => ?_) (fun c1 => ?_)
  · replace F := F.1 c1
    refine e_12 (f_140 (pc := 70) (e := (70, 12, 0, 0, 0, 0, 0, 71)) rfl) rfl ?_
    refine e_90r zA (f_140 (pc := 71) (e := (71, 90, 10, 3, 3, 35, 1069, 74)) rfl) rfl (hT 0 rfl) rfl rfl (hR 0 3 rfl) ?_
    refine e_90r zA (f_140 (pc := 74) (e := (74, 90, 7, 2, 3, 206, 1094, 77)) rfl) rfl (hT 67 rfl) rfl rfl (hR 67 2 rfl) ?_
    refine e_90 zA (f_140 (pc := 77) (e := (77, 90, 5, 0, 0, 209, 1138, 80)) rfl) rfl (hT 68 rfl) rfl rfl ?_
    refine e_12 (f_140 (pc := 80) (e := (80, 12, 0, 0, 0, 0, 0, 81)) rfl) rfl ?_
    refine e_90r zA (f_140 (pc := 81) (e := (81, 90, 10, 1, 3, 19, 1064, 84)) rfl) rfl (hT 0 rfl) rfl rfl (hR 0 1 rfl) ?_
    refine e_90r zA (f_140 (pc := 84) (e := (84, 90, 9, 1, 3, 92, 1084, 87)) rfl) rfl (hT 3 rfl) rfl rfl (hR 3 1 rfl) ?_
    refine e_90 zA (f_140 (pc := 87) (e := (87, 90, 5, 0, 0, 209, 1138, 90)) rfl) rfl (hT 16 rfl) rfl rfl ?_
    refine e_31 (f_140 (pc := 90) (e := (90, 31, 0, 0, 0, 0, 0, 91)) rfl) ?_
    refine e_20 (f_140 (pc := 91) (e := (91, 20, 2, 0, 0, 0, 0, 92)) rfl) ?_
    refine e_10 (f_140 (pc := 92) (e := (92, 10, 2, 0, 0, 0, 0, 93)) rfl) rfl ?_
    refine e_65 (f_140 (pc := 93) (e := (93, 65, 100, 0, 0, 0, 0, 96)) rfl) (fun c2 => ?_) (fun c2 => ?_)
    · replace F := F.1 c2
      refine e_10 (f_140 (pc := 100) (e := (100, 10, 2, 0, 0, 0, 0, 101)) rfl) rfl ?_
      exact e_120 (f_140 (pc := 101) (e := (101, 120, 0, 0, 0, 0, 0, 0)) rfl) F
    · replace F := F.2 c2
      refine e_12 (f_140 (pc := 96) (e := (96, 12, 0, 0, 0, 0, 0, 97)) rfl) rfl ?_
      refine e_130 (f_140 (pc := 97) (e := (97, 130, 134, 0, 10, 215, 1125, 100)) rfl) zA (as := [yr (some 0)]) (rest := []) rfl rfl rfl rfl (Nat.le_of_ble_eq_true rfl) (Nat.le_of_ble_eq_true rfl) ⟨_, _, _, rfl, (hT 0 rfl)⟩ (mc := 13) (ms := 494) (by omega) (by omega) ?_
      refine e_K ?_ F
      rintro r h' ⟨N4, T5, R6, I3, rfl, rfl, hT7, hR8, F⟩
      refine e_10 (f_140 (pc := 100) (e := (100, 10, 2, 0, 0, 0, 0, 101)) rfl) rfl ?_
      exact e_120 (f_140 (pc := 101) (e := (101, 120, 0, 0, 0, 0, 0, 0)) rfl) F
  · replace F := F.2 c1
    refine e_12 (f_140 (pc := 41) (e := (41, 12, 0, 0, 0, 0, 0, 42)) rfl) rfl ?_
    refine e_90r zA (f_140 (pc := 42) (e := (42, 90, 10, 3, 3, 35, 1069, 45)) rfl) rfl (hT 0 rfl) rfl rfl (hR 0 3 rfl) ?_
    refine e_90r zA (f_140 (pc := 45) (e := (45, 90, 7, 2, 3, 206, 1094, 48)) rfl) rfl (hT 67 rfl) rfl rfl (hR 67 2 rfl) ?_
    refine e_90 zA (f_140 (pc := 48) (e := (48, 90, 5, 0, 0, 209, 1138, 51)) rfl) rfl (hT 68 rfl) rfl rfl ?_
    refine e_2 (f_140 (pc := 51) (e := (51, 2, 500, 0, 0, 0, 0, 54)) rfl) (v := 500) rfl ?_
    refine e_73 (f_140 (pc := 54) (e := (54, 73, 70, 0, 0, 0, 0, 57)) rfl) (fun c9 => ?_) (fun c9 => ?_)
    · replace F := F.1 c9
      refine e_12 (f_140 (pc := 70) (e := (70, 12, 0, 0, 0, 0, 0, 71)) rfl) rfl ?_
      refine e_90r zA (f_140 (pc := 71) (e := (71, 90, 10, 3, 3, 35, 1069, 74)) rfl) rfl (hT 0 rfl) rfl rfl (hR 0 3 rfl) ?_
      refine e_90r zA (f_140 (pc := 74) (e := (74, 90, 7, 2, 3, 206, 1094, 77)) rfl) rfl (hT 67 rfl) rfl rfl (hR 67 2 rfl) ?_
      refine e_90 zA (f_140 (pc := 77) (e := (77, 90, 5, 0, 0, 209, 1138, 80)) rfl) rfl (hT 68 rfl) rfl rfl ?_
      refine e_12 (f_140 (pc := 80) (e := (80, 12, 0, 0, 0, 0, 0, 81)) rfl) rfl ?_
      refine e_90r zA (f_140 (pc := 81) (e := (81, 90, 10, 1, 3, 19, 1064, 84)) rfl) rfl (hT 0 rfl) rfl rfl (hR 0 1 rfl) ?_
      refine e_90r zA (f_140 (pc := 84) (e := (84, 90, 9, 1, 3, 92, 1084, 87)) rfl) rfl (hT 3 rfl) rfl rfl (hR 3 1 rfl) ?_
      refine e_90 zA (f_140 (pc := 87) (e := (87, 90, 5, 0, 0, 209, 1138, 90)) rfl) rfl (hT 16 rfl) rfl rfl ?_
      refine e_31 (f_140 (pc := 90) (e := (90, 31, 0, 0, 0, 0, 0, 91)) rfl) ?_
      refine e_20 (f_140 (pc := 91) (e := (91, 20, 2, 0, 0, 0, 0, 92)) rfl) ?_
      refine e_10 (f_140 (pc := 92) (e := (92, 10, 2, 0, 0, 0, 0, 93)) rfl) rfl ?_
      refine e_65 (f_140 (pc := 93) (e := (93, 65, 100, 0, 0, 0, 0, 96)) rfl) (fun c10 => ?_) (fun c10 => ?_)
      · replace F := F.1 c10
        refine e_10 (f_140 (pc := 100) (e := (100, 10, 2, 0, 0, 0, 0, 101)) rfl) rfl ?_
        exact e_120 (f_140 (pc := 101) (e := (101, 120, 0, 0, 0, 0, 0, 0)) rfl) F
      · replace F := F.2 c10
        refine e_12 (f_140 (pc := 96) (e := (96, 12, 0, 0, 0, 0, 0, 97)) rfl) rfl ?_
        refine e_130 (f_140 (pc := 97) (e := (97, 130, 134, 0, 10, 215, 1125, 100)) rfl) zA (as := [yr (some 0)]) (rest := []) rfl rfl rfl rfl (Nat.le_of_ble_eq_true rfl) (Nat.le_of_ble_eq_true rfl) ⟨_, _, _, rfl, (hT 0 rfl)⟩ (mc := 13) (ms := 494) (by omega) (by omega) ?_
        refine e_K ?_ F
        rintro r h' ⟨N12, T13, R14, I11, rfl, rfl, hT15, hR16, F⟩
        refine e_10 (f_140 (pc := 100) (e := (100, 10, 2, 0, 0, 0, 0, 101)) rfl) rfl ?_
        exact e_120 (f_140 (pc := 101) (e := (101, 120, 0, 0, 0, 0, 0, 0)) rfl) F
    · replace F := F.2 c9
      refine e_12 (f_140 (pc := 57) (e := (57, 12, 0, 0, 0, 0, 0, 58)) rfl) rfl ?_
      refine e_90r zA (f_140 (pc := 58) (e := (58, 90, 10, 3, 3, 35, 1069, 61)) rfl) rfl (hT 0 rfl) rfl rfl (hR 0 3 rfl) ?_
      refine e_130 (f_140 (pc := 61) (e := (61, 130, 88, 0, 7, 212, 1141, 64)) rfl) zA (as := [yr (some 67)]) (rest := []) rfl rfl rfl rfl (Nat.le_of_ble_eq_true rfl) (Nat.le_of_ble_eq_true rfl) ⟨_, _, _, rfl, (hT 67 rfl)⟩ (mc := 0) (ms := 0) hnb hsb ?_
      refine e_K ?_ F
      rintro r h' ⟨I17, rfl, rfl, F⟩
      refine e_26 (f_140 (pc := 64) (e := (64, 26, 2, 1, 0, 0, 0, 67)) rfl) (w := 1) rfl rfl ?_
      refine e_80 (f_140 (pc := 67) (e := (67, 80, 36, 0, 0, 0, 0, 70)) rfl) ?_
      refine e_lo [0, 1, 2] rfl ?_
      exact F
/-! ChairAlley.torches(IIII)I -/
set_option maxRecDepth 20000 in
theorem Bd_148_0 (hT : yLT T) (hR : yLR R) (hnb : nc ≤ bc) (hsb : nl ≤ bs) (h126 : 126 ≤ N) {x1 x2 x3 x4 : Int} (F : yW l zSS D cy zFk z d 126 0 0 (fun r h' => ∃ r2 I1, r = some (yi r2) ∧ h' = (N, T, R, I1) ∧ ((r2 = 0 → K (some (yi (-1))) (N, T, R, I1)) ∧ (¬ (r2 = 0) → yW l zSS D cy zFk z d 126 0 0 (fun r h' => ∃ r5 I4, r = some (yi r5) ∧ h' = (N, T, R, I4) ∧ ((r5 = 0 → K (some (yi (-1))) (N, T, R, I4)) ∧ (¬ (r5 = 0) → (x1 ≠ x2 → (x3 < 1 → K (some (yi (-1))) (N, T, R, I4)) ∧ (¬ (x3 < 1) → (20 < x3 → K (some (yi (-1))) (N, T, R, I4)) ∧ (¬ (20 < x3) → ((-1) ≤ x4 → nc + 1 ≤ bc ∧ nl + 4 ≤ bs ∧ (∀ T11 R12 I13, T11 = yNT T N 1 4 → R12 = yNR R N → I13 = yNI I4 N → (nc + 1 + 1 ≤ bc ∧ nl + 4 + 4 ≤ bs ∧ (∀ T18 R19 I20, T18 = yNT T11 (N + 1) 1 4 → R19 = yNR R12 (N + 1) → I20 = yNI I13 (N + 1) → (yW l zSS D cy zFk z (d + 1) 148 bc bs K (nc + 1 + 1) (nl + 4 + 4) 52 [(0, yr (some 0)), (1, yi x1), (2, yi x2), (3, yi x3), (4, yi x4), (5, yr (some N)), (6, yr (some (N + 1)))] [] (((N + 1) + 1), T18, R19, I20)))))) ∧ (¬ ((-1) ≤ x4) → K (some (yi (-1))) (N, T, R, I4))))) ∧ (¬ (x1 ≠ x2) → K (some (yi (-1))) (N, T, R, I4))))) 0 0 0 [(0, yr (some 0)), (1, yi x2)] [] (N, T, R, I1)))) 0 0 0 [(0, yr (some 0)), (1, yi x1)] [] (N, T, R, I)) :
    yW l zSS D cy zFk z (d + 1) 148 bc bs K nc nl 0 [(0, yr (some 0)), (1, yi x1), (2, yi x2), (3, yi x3), (4, yi x4)] [] (N, T, R, I) := by
  refine e_12 (f_148 (pc := 0) (e := (0, 12, 0, 0, 0, 0, 0, 1)) rfl) rfl ?_
  refine e_10 (f_148 (pc := 1) (e := (1, 10, 1, 0, 0, 0, 0, 2)) rfl) rfl ?_
  refine e_130 (f_148 (pc := 2) (e := (2, 130, 126, 0, 10, 186, 1134, 5)) rfl) zA (as := [yr (some 0), yi x1]) (rest := []) rfl rfl rfl rfl (Nat.le_of_ble_eq_true rfl) (Nat.le_of_ble_eq_true rfl) ⟨_, _, _, rfl, (hT 0 rfl)⟩ (mc := 0) (ms := 0) hnb hsb ?_
  refine e_K ?_ F
  rintro r h' ⟨r2, I1, rfl, rfl, F⟩
  refine e_60 (f_148 (pc := 5) (e := (5, 60, 21, 0, 0, 0, 0, 8)) rfl) (fun c3 => ?_) (fun c3 => ?_)
  · replace F := F.1 c3
    refine e_0 (f_148 (pc := 21) (e := (21, 0, 4294967295, 0, 0, 0, 0, 22)) rfl) (v := (-1)) rfl ?_
    exact e_120 (f_148 (pc := 22) (e := (22, 120, 0, 0, 0, 0, 0, 23)) rfl) F
  · replace F := F.2 c3
    refine e_12 (f_148 (pc := 8) (e := (8, 12, 0, 0, 0, 0, 0, 9)) rfl) rfl ?_
    refine e_10 (f_148 (pc := 9) (e := (9, 10, 2, 0, 0, 0, 0, 10)) rfl) rfl ?_
    refine e_130 (f_148 (pc := 10) (e := (10, 130, 126, 0, 10, 186, 1134, 13)) rfl) zA (as := [yr (some 0), yi x2]) (rest := []) rfl rfl rfl rfl (Nat.le_of_ble_eq_true rfl) (Nat.le_of_ble_eq_true rfl) ⟨_, _, _, rfl, (hT 0 rfl)⟩ (mc := 0) (ms := 0) hnb hsb ?_
    refine e_K ?_ F
    rintro r h' ⟨r5, I4, rfl, rfl, F⟩
    refine e_60 (f_148 (pc := 13) (e := (13, 60, 21, 0, 0, 0, 0, 16)) rfl) (fun c6 => ?_) (fun c6 => ?_)
    · replace F := F.1 c6
      refine e_0 (f_148 (pc := 21) (e := (21, 0, 4294967295, 0, 0, 0, 0, 22)) rfl) (v := (-1)) rfl ?_
      exact e_120 (f_148 (pc := 22) (e := (22, 120, 0, 0, 0, 0, 0, 23)) rfl) F
    · replace F := F.2 c6
      refine e_10 (f_148 (pc := 16) (e := (16, 10, 1, 0, 0, 0, 0, 17)) rfl) rfl ?_
      refine e_10 (f_148 (pc := 17) (e := (17, 10, 2, 0, 0, 0, 0, 18)) rfl) rfl ?_
      refine e_71 (f_148 (pc := 18) (e := (18, 71, 23, 0, 0, 0, 0, 21)) rfl) (fun c7 => ?_) (fun c7 => ?_)
      · replace F := F.1 c7
        refine e_10 (f_148 (pc := 23) (e := (23, 10, 3, 0, 0, 0, 0, 24)) rfl) rfl ?_
        refine e_0 (f_148 (pc := 24) (e := (24, 0, 1, 0, 0, 0, 0, 25)) rfl) (v := 1) rfl ?_
        refine e_72 (f_148 (pc := 25) (e := (25, 72, 40, 0, 0, 0, 0, 28)) rfl) (fun c8 => ?_) (fun c8 => ?_)
        · replace F := F.1 c8
          refine e_0 (f_148 (pc := 40) (e := (40, 0, 4294967295, 0, 0, 0, 0, 41)) rfl) (v := (-1)) rfl ?_
          exact e_120 (f_148 (pc := 41) (e := (41, 120, 0, 0, 0, 0, 0, 42)) rfl) F
        · replace F := F.2 c8
          refine e_10 (f_148 (pc := 28) (e := (28, 10, 3, 0, 0, 0, 0, 29)) rfl) rfl ?_
          refine e_1 (f_148 (pc := 29) (e := (29, 1, 20, 0, 0, 0, 0, 31)) rfl) (v := 20) rfl ?_
          refine e_74 (f_148 (pc := 31) (e := (31, 74, 40, 0, 0, 0, 0, 34)) rfl) (fun c9 => ?_) (fun c9 => ?_)
          · replace F := F.1 c9
            refine e_0 (f_148 (pc := 40) (e := (40, 0, 4294967295, 0, 0, 0, 0, 41)) rfl) (v := (-1)) rfl ?_
            exact e_120 (f_148 (pc := 41) (e := (41, 120, 0, 0, 0, 0, 0, 42)) rfl) F
          · replace F := F.2 c9
            refine e_11 (f_148 (pc := 34) (e := (34, 11, 4, 0, 0, 0, 0, 36)) rfl) rfl ?_
            refine e_0 (f_148 (pc := 36) (e := (36, 0, 4294967295, 0, 0, 0, 0, 37)) rfl) (v := (-1)) rfl ?_
            refine e_73 (f_148 (pc := 37) (e := (37, 73, 42, 0, 0, 0, 0, 40)) rfl) (fun c10 => ?_) (fun c10 => ?_)
            · replace F := F.1 c10
              refine e_0 (f_148 (pc := 42) (e := (42, 0, 4, 0, 0, 0, 0, 43)) rfl) (v := 4) rfl ?_
              obtain ⟨e16, e17, F⟩ := F
              refine e_101 (f_148 (pc := 43) (e := (43, 101, 1, 0, 0, 0, 0, 45)) rfl) zA (n := 4) rfl (by decide) e16 e17 ?_
              replace F := F _ _ _ rfl rfl rfl
              show yW l zSS D cy zFk z _ 148 bc bs K _ _ _ _ _ (N + 1, yNT _ N 1 4, yNR _ N, yNI _ N)
              have hT14 := yLT_nw (c := 1) (n := 4) (show 126 ≤ N by omega) hT
              have hR15 := yLR_nw (show 126 ≤ N by omega) hR
              refine e_23 (f_148 (pc := 45) (e := (45, 23, 5, 0, 0, 0, 0, 47)) rfl) ?_
              refine e_0 (f_148 (pc := 47) (e := (47, 0, 4, 0, 0, 0, 0, 48)) rfl) (v := 4) rfl ?_
              obtain ⟨e23, e24, F⟩ := F
              refine e_101 (f_148 (pc := 48) (e := (48, 101, 1, 0, 0, 0, 0, 50)) rfl) zA (n := 4) rfl (by decide) e23 e24 ?_
              replace F := F _ _ _ rfl rfl rfl
              show yW l zSS D cy zFk z _ 148 bc bs K _ _ _ _ _ ((N + 1) + 1, yNT _ (N + 1) 1 4, yNR _ (N + 1), yNI _ (N + 1))
              have hT21 := yLT_nw (c := 1) (n := 4) (show 126 ≤ (N + 1) by omega) hT14
              have hR22 := yLR_nw (show 126 ≤ (N + 1) by omega) hR15
              refine e_23 (f_148 (pc := 50) (e := (50, 23, 6, 0, 0, 0, 0, 52)) rfl) ?_
              refine e_lo [0, 1, 2, 3, 4, 5, 6] rfl ?_
              exact F
            · replace F := F.2 c10
              refine e_0 (f_148 (pc := 40) (e := (40, 0, 4294967295, 0, 0, 0, 0, 41)) rfl) (v := (-1)) rfl ?_
              exact e_120 (f_148 (pc := 41) (e := (41, 120, 0, 0, 0, 0, 0, 42)) rfl) F
      · replace F := F.2 c7
        refine e_0 (f_148 (pc := 21) (e := (21, 0, 4294967295, 0, 0, 0, 0, 22)) rfl) (v := (-1)) rfl ?_
        exact e_120 (f_148 (pc := 22) (e := (22, 120, 0, 0, 0, 0, 0, 23)) rfl) F
set_option maxRecDepth 20000 in
theorem Bd_148_52 (hT : yLT T) (hR : yLR R) (hnb : nc ≤ bc) (hsb : nl ≤ bs) {v1 : Nat} (hv1 : T v1 = (1, 4)) {v2 : Nat} (hv2 : T v2 = (1, 4)) {x1 x2 x3 x4 : Int} (F : yW l zSS D cy zFk z d 102 0 0 (fun r h' => ∃ I1, r = none ∧ h' = (N, T, R, I1) ∧ (yW l zSS D cy zFk z d 96 0 0 (fun r h' => ∃ I2, r = none ∧ h' = (N, T, R, I2) ∧ (yW l zSS D cy zFk z (d + 1) 148 bc bs K nc nl 76 [(0, yr (some 0)), (1, yi x1), (2, yi x2), (3, yi x3), (4, yi x4), (5, yr (some v1)), (6, yr (some v2)), (7, yi 0)] [] (N, T, R, I2))) 0 0 0 [(0, yr (some 67))] [] (N, T, R, I1))) 0 0 0 [(0, yr (some 67)), (1, yr (some 16))] [] (N, T, R, I)) :
    yW l zSS D cy zFk z (d + 1) 148 bc bs K nc nl 52 [(0, yr (some 0)), (1, yi x1), (2, yi x2), (3, yi x3), (4, yi x4), (5, yr (some v1)), (6, yr (some v2))] [] (N, T, R, I) := by
  refine e_12 (f_148 (pc := 52) (e := (52, 12, 0, 0, 0, 0, 0, 53)) rfl) rfl ?_
  refine e_90r zA (f_148 (pc := 53) (e := (53, 90, 10, 3, 3, 35, 1069, 56)) rfl) rfl (hT 0 rfl) rfl rfl (hR 0 3 rfl) ?_
  refine e_12 (f_148 (pc := 56) (e := (56, 12, 0, 0, 0, 0, 0, 57)) rfl) rfl ?_
  refine e_90r zA (f_148 (pc := 57) (e := (57, 90, 10, 1, 3, 19, 1064, 60)) rfl) rfl (hT 0 rfl) rfl rfl (hR 0 1 rfl) ?_
  refine e_90r zA (f_148 (pc := 60) (e := (60, 90, 9, 1, 3, 92, 1084, 63)) rfl) rfl (hT 3 rfl) rfl rfl (hR 3 1 rfl) ?_
  refine e_130 (f_148 (pc := 63) (e := (63, 130, 102, 0, 7, 193, 1122, 66)) rfl) zA (as := [yr (some 67), yr (some 16)]) (rest := []) rfl rfl rfl rfl (Nat.le_of_ble_eq_true rfl) (Nat.le_of_ble_eq_true rfl) ⟨_, _, _, rfl, (hT 67 rfl)⟩ (mc := 0) (ms := 0) hnb hsb ?_
  refine e_K ?_ F
  rintro r h' ⟨I1, rfl, rfl, F⟩
  refine e_12 (f_148 (pc := 66) (e := (66, 12, 0, 0, 0, 0, 0, 67)) rfl) rfl ?_
  refine e_90r zA (f_148 (pc := 67) (e := (67, 90, 10, 3, 3, 35, 1069, 70)) rfl) rfl (hT 0 rfl) rfl rfl (hR 0 3 rfl) ?_
  refine e_130 (f_148 (pc := 70) (e := (70, 130, 96, 0, 7, 203, 1092, 73)) rfl) zA (as := [yr (some 67)]) (rest := []) rfl rfl rfl rfl (Nat.le_of_ble_eq_true rfl) (Nat.le_of_ble_eq_true rfl) ⟨_, _, _, rfl, (hT 67 rfl)⟩ (mc := 0) (ms := 0) hnb hsb ?_
  refine e_K ?_ F
  rintro r h' ⟨I2, rfl, rfl, F⟩
  refine e_0 (f_148 (pc := 73) (e := (73, 0, 0, 0, 0, 0, 0, 74)) rfl) (v := 0) rfl ?_
  refine e_21 (f_148 (pc := 74) (e := (74, 21, 7, 0, 0, 0, 0, 76)) rfl) ?_
  refine e_lo [0, 1, 2, 3, 4, 5, 6, 7] rfl ?_
  exact F
set_option maxRecDepth 20000 in
theorem Bd_148_76 (hT : yLT T) (hR : yLR R) (hnb : nc ≤ bc) (hsb : nl ≤ bs) {v1 : Nat} (hv1 : T v1 = (1, 4)) {v2 : Nat} (hv2 : T v2 = (1, 4)) {x1 x2 x3 x4 x7 : Int} (F : (4 ≤ x7 → yW l zSS D cy zFk z (d + 1) 148 bc bs K nc nl 214 [(4, yi x4), (5, yr (some v1)), (6, yr (some v2)), (7, yi 0), (8, yi 0)] [] (N, T, R, I)) ∧ (¬ (4 ≤ x7) → yW l zSS D cy zFk z d 102 0 0 (fun r h' => ∃ I2, r = none ∧ h' = (N, T, R, I2) ∧ (((yand x7 2) = 0 → 0 ≤ x1 ∧ x1 < 8 ∧ (∀ I6, I6 = yU I2 79 x1.toNat (ynar 1 0) → (((yand x7 1) = 0 → 0 ≤ x2 ∧ x2 < 8 ∧ (∀ I10, I10 = yU I6 79 x2.toNat (ynar 1 0) → (yW l zSS D cy zFk z d 89 0 0 (fun r h' => ∃ I11, r = none ∧ h' = (N, T, R, I11) ∧ (yW l zSS D cy zFk z d 106 0 0 (fun r h' => ∃ r13 I12, r = some (yi r13) ∧ h' = (N, T, R, I12) ∧ (0 ≤ x7 ∧ x7 < 4 ∧ (∀ I16, I16 = yU I12 v1 x7.toNat (ynar 1 r13) → (yW l zSS D cy zFk z d 106 0 0 (fun r h' => ∃ r18 I17, r = some (yi r18) ∧ h' = (N, T, R, I17) ∧ (0 ≤ x7 ∧ x7 < 4 ∧ (∀ I21, I21 = yU I17 v2 x7.toNat (ynar 1 r18) → (yW l zSS D cy zFk z (d + 1) 148 bc bs K nc nl 76 [(0, yr (some 0)), (1, yi x1), (2, yi x2), (3, yi x3), (4, yi x4), (5, yr (some v1)), (6, yr (some v2)), (7, yi (yadd x7 1))] [] (N, T, R, I21))))) 0 0 0 [(0, yr (some 67)), (1, yi x2)] [] (N, T, R, I16))))) 0 0 0 [(0, yr (some 67)), (1, yi x1)] [] (N, T, R, I11))) 0 0 0 [(0, yr (some 67)), (1, yi 500)] [] (N, T, R, I10)))) ∧ (¬ ((yand x7 1) = 0) → 0 ≤ x2 ∧ x2 < 8 ∧ (∀ I24, I24 = yU I6 79 x2.toNat (ynar 1 (yadd (I6 16 0) x3)) → (yW l zSS D cy zFk z d 89 0 0 (fun r h' => ∃ I25, r = none ∧ h' = (N, T, R, I25) ∧ (yW l zSS D cy zFk z d 106 0 0 (fun r h' => ∃ r27 I26, r = some (yi r27) ∧ h' = (N, T, R, I26) ∧ (0 ≤ x7 ∧ x7 < 4 ∧ (∀ I30, I30 = yU I26 v1 x7.toNat (ynar 1 r27) → (yW l zSS D cy zFk z d 106 0 0 (fun r h' => ∃ r32 I31, r = some (yi r32) ∧ h' = (N, T, R, I31) ∧ (0 ≤ x7 ∧ x7 < 4 ∧ (∀ I35, I35 = yU I31 v2 x7.toNat (ynar 1 r32) → (yW l zSS D cy zFk z (d + 1) 148 bc bs K nc nl 76 [(0, yr (some 0)), (1, yi x1), (2, yi x2), (3, yi x3), (4, yi x4), (5, yr (some v1)), (6, yr (some v2)), (7, yi (yadd x7 1))] [] (N, T, R, I35))))) 0 0 0 [(0, yr (some 67)), (1, yi x2)] [] (N, T, R, I30))))) 0 0 0 [(0, yr (some 67)), (1, yi x1)] [] (N, T, R, I25))) 0 0 0 [(0, yr (some 67)), (1, yi 500)] [] (N, T, R, I24))))))) ∧ (¬ ((yand x7 2) = 0) → 0 ≤ x1 ∧ x1 < 8 ∧ (∀ I38, I38 = yU I2 79 x1.toNat (ynar 1 (yadd (I2 16 0) x3)) → (((yand x7 1) = 0 → 0 ≤ x2 ∧ x2 < 8 ∧ (∀ I42, I42 = yU I38 79 x2.toNat (ynar 1 0) → (yW l zSS D cy zFk z d 89 0 0 (fun r h' => ∃ I43, r = none ∧ h' = (N, T, R, I43) ∧ (yW l zSS D cy zFk z d 106 0 0 (fun r h' => ∃ r45 I44, r = some (yi r45) ∧ h' = (N, T, R, I44) ∧ (0 ≤ x7 ∧ x7 < 4 ∧ (∀ I48, I48 = yU I44 v1 x7.toNat (ynar 1 r45) → (yW l zSS D cy zFk z d 106 0 0 (fun r h' => ∃ r50 I49, r = some (yi r50) ∧ h' = (N, T, R, I49) ∧ (0 ≤ x7 ∧ x7 < 4 ∧ (∀ I53, I53 = yU I49 v2 x7.toNat (ynar 1 r50) → (yW l zSS D cy zFk z (d + 1) 148 bc bs K nc nl 76 [(0, yr (some 0)), (1, yi x1), (2, yi x2), (3, yi x3), (4, yi x4), (5, yr (some v1)), (6, yr (some v2)), (7, yi (yadd x7 1))] [] (N, T, R, I53))))) 0 0 0 [(0, yr (some 67)), (1, yi x2)] [] (N, T, R, I48))))) 0 0 0 [(0, yr (some 67)), (1, yi x1)] [] (N, T, R, I43))) 0 0 0 [(0, yr (some 67)), (1, yi 500)] [] (N, T, R, I42)))) ∧ (¬ ((yand x7 1) = 0) → 0 ≤ x2 ∧ x2 < 8 ∧ (∀ I56, I56 = yU I38 79 x2.toNat (ynar 1 (yadd (I38 16 0) x3)) → (yW l zSS D cy zFk z d 89 0 0 (fun r h' => ∃ I57, r = none ∧ h' = (N, T, R, I57) ∧ (yW l zSS D cy zFk z d 106 0 0 (fun r h' => ∃ r59 I58, r = some (yi r59) ∧ h' = (N, T, R, I58) ∧ (0 ≤ x7 ∧ x7 < 4 ∧ (∀ I62, I62 = yU I58 v1 x7.toNat (ynar 1 r59) → (yW l zSS D cy zFk z d 106 0 0 (fun r h' => ∃ r64 I63, r = some (yi r64) ∧ h' = (N, T, R, I63) ∧ (0 ≤ x7 ∧ x7 < 4 ∧ (∀ I67, I67 = yU I63 v2 x7.toNat (ynar 1 r64) → (yW l zSS D cy zFk z (d + 1) 148 bc bs K nc nl 76 [(0, yr (some 0)), (1, yi x1), (2, yi x2), (3, yi x3), (4, yi x4), (5, yr (some v1)), (6, yr (some v2)), (7, yi (yadd x7 1))] [] (N, T, R, I67))))) 0 0 0 [(0, yr (some 67)), (1, yi x2)] [] (N, T, R, I62))))) 0 0 0 [(0, yr (some 67)), (1, yi x1)] [] (N, T, R, I57))) 0 0 0 [(0, yr (some 67)), (1, yi 500)] [] (N, T, R, I56))))))))) 0 0 0 [(0, yr (some 67)), (1, yr (some 16))] [] (N, T, R, I))) :
    yW l zSS D cy zFk z (d + 1) 148 bc bs K nc nl 76 [(0, yr (some 0)), (1, yi x1), (2, yi x2), (3, yi x3), (4, yi x4), (5, yr (some v1)), (6, yr (some v2)), (7, yi x7)] [] (N, T, R, I) := by
  refine e_11 (f_148 (pc := 76) (e := (76, 11, 7, 0, 0, 0, 0, 78)) rfl) rfl ?_
  refine e_0 (f_148 (pc := 78) (e := (78, 0, 4, 0, 0, 0, 0, 79)) rfl) (v := 4) rfl ?_
  refine e_73 (f_148 (pc := 79) (e := (79, 73, 208, 0, 0, 0, 0, 82)) rfl) (fun c1 => ?_) (fun c1 => ?_)
  · replace F := F.1 c1
    refine e_0 (f_148 (pc := 208) (e := (208, 0, 0, 0, 0, 0, 0, 209)) rfl) (v := 0) rfl ?_
    refine e_21 (f_148 (pc := 209) (e := (209, 21, 7, 0, 0, 0, 0, 211)) rfl) ?_
    refine e_0 (f_148 (pc := 211) (e := (211, 0, 0, 0, 0, 0, 0, 212)) rfl) (v := 0) rfl ?_
    refine e_21 (f_148 (pc := 212) (e := (212, 21, 8, 0, 0, 0, 0, 214)) rfl) ?_
    refine e_lo [4, 5, 6, 7, 8] rfl ?_
    exact F
  · replace F := F.2 c1
    refine e_12 (f_148 (pc := 82) (e := (82, 12, 0, 0, 0, 0, 0, 83)) rfl) rfl ?_
    refine e_90r zA (f_148 (pc := 83) (e := (83, 90, 10, 3, 3, 35, 1069, 86)) rfl) rfl (hT 0 rfl) rfl rfl (hR 0 3 rfl) ?_
    refine e_12 (f_148 (pc := 86) (e := (86, 12, 0, 0, 0, 0, 0, 87)) rfl) rfl ?_
    refine e_90r zA (f_148 (pc := 87) (e := (87, 90, 10, 1, 3, 19, 1064, 90)) rfl) rfl (hT 0 rfl) rfl rfl (hR 0 1 rfl) ?_
    refine e_90r zA (f_148 (pc := 90) (e := (90, 90, 9, 1, 3, 92, 1084, 93)) rfl) rfl (hT 3 rfl) rfl rfl (hR 3 1 rfl) ?_
    refine e_130 (f_148 (pc := 93) (e := (93, 130, 102, 0, 7, 193, 1122, 96)) rfl) zA (as := [yr (some 67), yr (some 16)]) (rest := []) rfl rfl rfl rfl (Nat.le_of_ble_eq_true rfl) (Nat.le_of_ble_eq_true rfl) ⟨_, _, _, rfl, (hT 67 rfl)⟩ (mc := 0) (ms := 0) hnb hsb ?_
    refine e_K ?_ F
    rintro r h' ⟨I2, rfl, rfl, F⟩
    refine e_12 (f_148 (pc := 96) (e := (96, 12, 0, 0, 0, 0, 0, 97)) rfl) rfl ?_
    refine e_90r zA (f_148 (pc := 97) (e := (97, 90, 10, 3, 3, 35, 1069, 100)) rfl) rfl (hT 0 rfl) rfl rfl (hR 0 3 rfl) ?_
    refine e_90r zA (f_148 (pc := 100) (e := (100, 90, 7, 2, 3, 206, 1094, 103)) rfl) rfl (hT 67 rfl) rfl rfl (hR 67 2 rfl) ?_
    refine e_90r zA (f_148 (pc := 103) (e := (103, 90, 5, 11, 3, 286, 1153, 106)) rfl) rfl (hT 68 rfl) rfl rfl (hR 68 11 rfl) ?_
    refine e_10 (f_148 (pc := 106) (e := (106, 10, 1, 0, 0, 0, 0, 107)) rfl) rfl ?_
    refine e_11 (f_148 (pc := 107) (e := (107, 11, 7, 0, 0, 0, 0, 109)) rfl) rfl ?_
    refine e_0 (f_148 (pc := 109) (e := (109, 0, 2, 0, 0, 0, 0, 110)) rfl) (v := 2) rfl ?_
    refine e_35 (f_148 (pc := 110) (e := (110, 35, 0, 0, 0, 0, 0, 111)) rfl) ?_
    refine e_60 (f_148 (pc := 111) (e := (111, 60, 129, 0, 0, 0, 0, 114)) rfl) (fun c3 => ?_) (fun c3 => ?_)
    · replace F := F.1 c3
      refine e_0 (f_148 (pc := 129) (e := (129, 0, 0, 0, 0, 0, 0, 130)) rfl) (v := 0) rfl ?_
      obtain ⟨b4, b5, F⟩ := F
      refine e_111 (f_148 (pc := 130) (e := (130, 111, 0, 0, 0, 0, 0, 131)) rfl) rfl (hT 79 rfl) b4 b5 ?_
      replace F := F _ rfl
      refine e_12 (f_148 (pc := 131) (e := (131, 12, 0, 0, 0, 0, 0, 132)) rfl) rfl ?_
      refine e_90r zA (f_148 (pc := 132) (e := (132, 90, 10, 3, 3, 35, 1069, 135)) rfl) rfl (hT 0 rfl) rfl rfl (hR 0 3 rfl) ?_
      refine e_90r zA (f_148 (pc := 135) (e := (135, 90, 7, 2, 3, 206, 1094, 138)) rfl) rfl (hT 67 rfl) rfl rfl (hR 67 2 rfl) ?_
      refine e_90r zA (f_148 (pc := 138) (e := (138, 90, 5, 11, 3, 286, 1153, 141)) rfl) rfl (hT 68 rfl) rfl rfl (hR 68 11 rfl) ?_
      refine e_10 (f_148 (pc := 141) (e := (141, 10, 2, 0, 0, 0, 0, 142)) rfl) rfl ?_
      refine e_11 (f_148 (pc := 142) (e := (142, 11, 7, 0, 0, 0, 0, 144)) rfl) rfl ?_
      refine e_0 (f_148 (pc := 144) (e := (144, 0, 1, 0, 0, 0, 0, 145)) rfl) (v := 1) rfl ?_
      refine e_35 (f_148 (pc := 145) (e := (145, 35, 0, 0, 0, 0, 0, 146)) rfl) ?_
      refine e_60 (f_148 (pc := 146) (e := (146, 60, 164, 0, 0, 0, 0, 149)) rfl) (fun c7 => ?_) (fun c7 => ?_)
      · replace F := F.1 c7
        refine e_0 (f_148 (pc := 164) (e := (164, 0, 0, 0, 0, 0, 0, 165)) rfl) (v := 0) rfl ?_
        obtain ⟨b8, b9, F⟩ := F
        refine e_111 (f_148 (pc := 165) (e := (165, 111, 0, 0, 0, 0, 0, 166)) rfl) rfl (hT 79 rfl) b8 b9 ?_
        replace F := F _ rfl
        refine e_12 (f_148 (pc := 166) (e := (166, 12, 0, 0, 0, 0, 0, 167)) rfl) rfl ?_
        refine e_90r zA (f_148 (pc := 167) (e := (167, 90, 10, 3, 3, 35, 1069, 170)) rfl) rfl (hT 0 rfl) rfl rfl (hR 0 3 rfl) ?_
        refine e_2 (f_148 (pc := 170) (e := (170, 2, 500, 0, 0, 0, 0, 173)) rfl) (v := 500) rfl ?_
        refine e_130 (f_148 (pc := 173) (e := (173, 130, 89, 0, 7, 258, 1127, 176)) rfl) zA (as := [yr (some 67), yi 500]) (rest := []) rfl rfl rfl rfl (Nat.le_of_ble_eq_true rfl) (Nat.le_of_ble_eq_true rfl) ⟨_, _, _, rfl, (hT 67 rfl)⟩ (mc := 0) (ms := 0) hnb hsb ?_
        refine e_K ?_ F
        rintro r h' ⟨I11, rfl, rfl, F⟩
        refine e_13 (f_148 (pc := 176) (e := (176, 13, 5, 0, 0, 0, 0, 178)) rfl) rfl ?_
        refine e_11 (f_148 (pc := 178) (e := (178, 11, 7, 0, 0, 0, 0, 180)) rfl) rfl ?_
        refine e_12 (f_148 (pc := 180) (e := (180, 12, 0, 0, 0, 0, 0, 181)) rfl) rfl ?_
        refine e_90r zA (f_148 (pc := 181) (e := (181, 90, 10, 3, 3, 35, 1069, 184)) rfl) rfl (hT 0 rfl) rfl rfl (hR 0 3 rfl) ?_
        refine e_10 (f_148 (pc := 184) (e := (184, 10, 1, 0, 0, 0, 0, 185)) rfl) rfl ?_
        refine e_130 (f_148 (pc := 185) (e := (185, 130, 106, 0, 7, 283, 1130, 188)) rfl) zA (as := [yr (some 67), yi x1]) (rest := [yi x7, yr (some v1)]) rfl rfl rfl rfl (Nat.le_of_ble_eq_true rfl) (Nat.le_of_ble_eq_true rfl) ⟨_, _, _, rfl, (hT 67 rfl)⟩ (mc := 0) (ms := 0) hnb hsb ?_
        refine e_K ?_ F
        rintro r h' ⟨r13, I12, rfl, rfl, F⟩
        obtain ⟨b14, b15, F⟩ := F
        refine e_111 (f_148 (pc := 188) (e := (188, 111, 0, 0, 0, 0, 0, 189)) rfl) rfl hv1 b14 b15 ?_
        replace F := F _ rfl
        refine e_13 (f_148 (pc := 189) (e := (189, 13, 6, 0, 0, 0, 0, 191)) rfl) rfl ?_
        refine e_11 (f_148 (pc := 191) (e := (191, 11, 7, 0, 0, 0, 0, 193)) rfl) rfl ?_
        refine e_12 (f_148 (pc := 193) (e := (193, 12, 0, 0, 0, 0, 0, 194)) rfl) rfl ?_
        refine e_90r zA (f_148 (pc := 194) (e := (194, 90, 10, 3, 3, 35, 1069, 197)) rfl) rfl (hT 0 rfl) rfl rfl (hR 0 3 rfl) ?_
        refine e_10 (f_148 (pc := 197) (e := (197, 10, 2, 0, 0, 0, 0, 198)) rfl) rfl ?_
        refine e_130 (f_148 (pc := 198) (e := (198, 130, 106, 0, 7, 283, 1130, 201)) rfl) zA (as := [yr (some 67), yi x2]) (rest := [yi x7, yr (some v2)]) rfl rfl rfl rfl (Nat.le_of_ble_eq_true rfl) (Nat.le_of_ble_eq_true rfl) ⟨_, _, _, rfl, (hT 67 rfl)⟩ (mc := 0) (ms := 0) hnb hsb ?_
        refine e_K ?_ F
        rintro r h' ⟨r18, I17, rfl, rfl, F⟩
        obtain ⟨b19, b20, F⟩ := F
        refine e_111 (f_148 (pc := 201) (e := (201, 111, 0, 0, 0, 0, 0, 202)) rfl) rfl hv2 b19 b20 ?_
        replace F := F _ rfl
        refine e_26 (f_148 (pc := 202) (e := (202, 26, 7, 1, 0, 0, 0, 205)) rfl) (w := 1) rfl rfl ?_
        refine e_80 (f_148 (pc := 205) (e := (205, 80, 76, 0, 0, 0, 0, 208)) rfl) ?_
        refine e_lo [0, 1, 2, 3, 4, 5, 6, 7] rfl ?_
        exact F
      · replace F := F.2 c7
        refine e_12 (f_148 (pc := 149) (e := (149, 12, 0, 0, 0, 0, 0, 150)) rfl) rfl ?_
        refine e_90r zA (f_148 (pc := 150) (e := (150, 90, 10, 1, 3, 19, 1064, 153)) rfl) rfl (hT 0 rfl) rfl rfl (hR 0 1 rfl) ?_
        refine e_90r zA (f_148 (pc := 153) (e := (153, 90, 9, 1, 3, 92, 1084, 156)) rfl) rfl (hT 3 rfl) rfl rfl (hR 3 1 rfl) ?_
        refine e_90 zA (f_148 (pc := 156) (e := (156, 90, 5, 0, 0, 209, 1138, 159)) rfl) rfl (hT 16 rfl) rfl rfl ?_
        refine e_10 (f_148 (pc := 159) (e := (159, 10, 3, 0, 0, 0, 0, 160)) rfl) rfl ?_
        refine e_30 (f_148 (pc := 160) (e := (160, 30, 0, 0, 0, 0, 0, 161)) rfl) ?_
        refine e_80 (f_148 (pc := 161) (e := (161, 80, 165, 0, 0, 0, 0, 164)) rfl) ?_
        obtain ⟨b22, b23, F⟩ := F
        refine e_111 (f_148 (pc := 165) (e := (165, 111, 0, 0, 0, 0, 0, 166)) rfl) rfl (hT 79 rfl) b22 b23 ?_
        replace F := F _ rfl
        refine e_12 (f_148 (pc := 166) (e := (166, 12, 0, 0, 0, 0, 0, 167)) rfl) rfl ?_
        refine e_90r zA (f_148 (pc := 167) (e := (167, 90, 10, 3, 3, 35, 1069, 170)) rfl) rfl (hT 0 rfl) rfl rfl (hR 0 3 rfl) ?_
        refine e_2 (f_148 (pc := 170) (e := (170, 2, 500, 0, 0, 0, 0, 173)) rfl) (v := 500) rfl ?_
        refine e_130 (f_148 (pc := 173) (e := (173, 130, 89, 0, 7, 258, 1127, 176)) rfl) zA (as := [yr (some 67), yi 500]) (rest := []) rfl rfl rfl rfl (Nat.le_of_ble_eq_true rfl) (Nat.le_of_ble_eq_true rfl) ⟨_, _, _, rfl, (hT 67 rfl)⟩ (mc := 0) (ms := 0) hnb hsb ?_
        refine e_K ?_ F
        rintro r h' ⟨I25, rfl, rfl, F⟩
        refine e_13 (f_148 (pc := 176) (e := (176, 13, 5, 0, 0, 0, 0, 178)) rfl) rfl ?_
        refine e_11 (f_148 (pc := 178) (e := (178, 11, 7, 0, 0, 0, 0, 180)) rfl) rfl ?_
        refine e_12 (f_148 (pc := 180) (e := (180, 12, 0, 0, 0, 0, 0, 181)) rfl) rfl ?_
        refine e_90r zA (f_148 (pc := 181) (e := (181, 90, 10, 3, 3, 35, 1069, 184)) rfl) rfl (hT 0 rfl) rfl rfl (hR 0 3 rfl) ?_
        refine e_10 (f_148 (pc := 184) (e := (184, 10, 1, 0, 0, 0, 0, 185)) rfl) rfl ?_
        refine e_130 (f_148 (pc := 185) (e := (185, 130, 106, 0, 7, 283, 1130, 188)) rfl) zA (as := [yr (some 67), yi x1]) (rest := [yi x7, yr (some v1)]) rfl rfl rfl rfl (Nat.le_of_ble_eq_true rfl) (Nat.le_of_ble_eq_true rfl) ⟨_, _, _, rfl, (hT 67 rfl)⟩ (mc := 0) (ms := 0) hnb hsb ?_
        refine e_K ?_ F
        rintro r h' ⟨r27, I26, rfl, rfl, F⟩
        obtain ⟨b28, b29, F⟩ := F
        refine e_111 (f_148 (pc := 188) (e := (188, 111, 0, 0, 0, 0, 0, 189)) rfl) rfl hv1 b28 b29 ?_
        replace F := F _ rfl
        refine e_13 (f_148 (pc := 189) (e := (189, 13, 6, 0, 0, 0, 0, 191)) rfl) rfl ?_
        refine e_11 (f_148 (pc := 191) (e := (191, 11, 7, 0, 0, 0, 0, 193)) rfl) rfl ?_
        refine e_12 (f_148 (pc := 193) (e := (193, 12, 0, 0, 0, 0, 0, 194)) rfl) rfl ?_
        refine e_90r zA (f_148 (pc := 194) (e := (194, 90, 10, 3, 3, 35, 1069, 197)) rfl) rfl (hT 0 rfl) rfl rfl (hR 0 3 rfl) ?_
        refine e_10 (f_148 (pc := 197) (e := (197, 10, 2, 0, 0, 0, 0, 198)) rfl) rfl ?_
        refine e_130 (f_148 (pc := 198) (e := (198, 130, 106, 0, 7, 283, 1130, 201)) rfl) zA (as := [yr (some 67), yi x2]) (rest := [yi x7, yr (some v2)]) rfl rfl rfl rfl (Nat.le_of_ble_eq_true rfl) (Nat.le_of_ble_eq_true rfl) ⟨_, _, _, rfl, (hT 67 rfl)⟩ (mc := 0) (ms := 0) hnb hsb ?_
        refine e_K ?_ F
        rintro r h' ⟨r32, I31, rfl, rfl, F⟩
        obtain ⟨b33, b34, F⟩ := F
        refine e_111 (f_148 (pc := 201) (e := (201, 111, 0, 0, 0, 0, 0, 202)) rfl) rfl hv2 b33 b34 ?_
        replace F := F _ rfl
        refine e_26 (f_148 (pc := 202) (e := (202, 26, 7, 1, 0, 0, 0, 205)) rfl) (w := 1) rfl rfl ?_
        refine e_80 (f_148 (pc := 205) (e := (205, 80, 76, 0, 0, 0, 0, 208)) rfl) ?_
        refine e_lo [0, 1, 2, 3, 4, 5, 6, 7] rfl ?_
        exact F
    · replace F := F.2 c3
      refine e_12 (f_148 (pc := 114) (e := (114, 12, 0, 0, 0, 0, 0, 115)) rfl) rfl ?_
      refine e_90r zA (f_148 (pc := 115) (e := (115, 90, 10, 1, 3, 19, 1064, 118)) rfl) rfl (hT 0 rfl) rfl rfl (hR 0 1 rfl) ?_
      refine e_90r zA (f_148 (pc := 118) (e := (118, 90, 9, 1, 3, 92, 1084, 121)) rfl) rfl (hT 3 rfl) rfl rfl (hR 3 1 rfl) ?_
      refine e_90 zA (f_148 (pc := 121) (e := (121, 90, 5, 0, 0, 209, 1138, 124)) rfl) rfl (hT 16 rfl) rfl rfl ?_
      refine e_10 (f_148 (pc := 124) (e := (124, 10, 3, 0, 0, 0, 0, 125)) rfl) rfl ?_
      refine e_30 (f_148 (pc := 125) (e := (125, 30, 0, 0, 0, 0, 0, 126)) rfl) ?_
      refine e_80 (f_148 (pc := 126) (e := (126, 80, 130, 0, 0, 0, 0, 129)) rfl) ?_
      obtain ⟨b36, b37, F⟩ := F
      refine e_111 (f_148 (pc := 130) (e := (130, 111, 0, 0, 0, 0, 0, 131)) rfl) rfl (hT 79 rfl) b36 b37 ?_
      replace F := F _ rfl
      refine e_12 (f_148 (pc := 131) (e := (131, 12, 0, 0, 0, 0, 0, 132)) rfl) rfl ?_
      refine e_90r zA (f_148 (pc := 132) (e := (132, 90, 10, 3, 3, 35, 1069, 135)) rfl) rfl (hT 0 rfl) rfl rfl (hR 0 3 rfl) ?_
      refine e_90r zA (f_148 (pc := 135) (e := (135, 90, 7, 2, 3, 206, 1094, 138)) rfl) rfl (hT 67 rfl) rfl rfl (hR 67 2 rfl) ?_
      refine e_90r zA (f_148 (pc := 138) (e := (138, 90, 5, 11, 3, 286, 1153, 141)) rfl) rfl (hT 68 rfl) rfl rfl (hR 68 11 rfl) ?_
      refine e_10 (f_148 (pc := 141) (e := (141, 10, 2, 0, 0, 0, 0, 142)) rfl) rfl ?_
      refine e_11 (f_148 (pc := 142) (e := (142, 11, 7, 0, 0, 0, 0, 144)) rfl) rfl ?_
      refine e_0 (f_148 (pc := 144) (e := (144, 0, 1, 0, 0, 0, 0, 145)) rfl) (v := 1) rfl ?_
      refine e_35 (f_148 (pc := 145) (e := (145, 35, 0, 0, 0, 0, 0, 146)) rfl) ?_
      refine e_60 (f_148 (pc := 146) (e := (146, 60, 164, 0, 0, 0, 0, 149)) rfl) (fun c39 => ?_) (fun c39 => ?_)
      · replace F := F.1 c39
        refine e_0 (f_148 (pc := 164) (e := (164, 0, 0, 0, 0, 0, 0, 165)) rfl) (v := 0) rfl ?_
        obtain ⟨b40, b41, F⟩ := F
        refine e_111 (f_148 (pc := 165) (e := (165, 111, 0, 0, 0, 0, 0, 166)) rfl) rfl (hT 79 rfl) b40 b41 ?_
        replace F := F _ rfl
        refine e_12 (f_148 (pc := 166) (e := (166, 12, 0, 0, 0, 0, 0, 167)) rfl) rfl ?_
        refine e_90r zA (f_148 (pc := 167) (e := (167, 90, 10, 3, 3, 35, 1069, 170)) rfl) rfl (hT 0 rfl) rfl rfl (hR 0 3 rfl) ?_
        refine e_2 (f_148 (pc := 170) (e := (170, 2, 500, 0, 0, 0, 0, 173)) rfl) (v := 500) rfl ?_
        refine e_130 (f_148 (pc := 173) (e := (173, 130, 89, 0, 7, 258, 1127, 176)) rfl) zA (as := [yr (some 67), yi 500]) (rest := []) rfl rfl rfl rfl (Nat.le_of_ble_eq_true rfl) (Nat.le_of_ble_eq_true rfl) ⟨_, _, _, rfl, (hT 67 rfl)⟩ (mc := 0) (ms := 0) hnb hsb ?_
        refine e_K ?_ F
        rintro r h' ⟨I43, rfl, rfl, F⟩
        refine e_13 (f_148 (pc := 176) (e := (176, 13, 5, 0, 0, 0, 0, 178)) rfl) rfl ?_
        refine e_11 (f_148 (pc := 178) (e := (178, 11, 7, 0, 0, 0, 0, 180)) rfl) rfl ?_
        refine e_12 (f_148 (pc := 180) (e := (180, 12, 0, 0, 0, 0, 0, 181)) rfl) rfl ?_
        refine e_90r zA (f_148 (pc := 181) (e := (181, 90, 10, 3, 3, 35, 1069, 184)) rfl) rfl (hT 0 rfl) rfl rfl (hR 0 3 rfl) ?_
        refine e_10 (f_148 (pc := 184) (e := (184, 10, 1, 0, 0, 0, 0, 185)) rfl) rfl ?_
        refine e_130 (f_148 (pc := 185) (e := (185, 130, 106, 0, 7, 283, 1130, 188)) rfl) zA (as := [yr (some 67), yi x1]) (rest := [yi x7, yr (some v1)]) rfl rfl rfl rfl (Nat.le_of_ble_eq_true rfl) (Nat.le_of_ble_eq_true rfl) ⟨_, _, _, rfl, (hT 67 rfl)⟩ (mc := 0) (ms := 0) hnb hsb ?_
        refine e_K ?_ F
        rintro r h' ⟨r45, I44, rfl, rfl, F⟩
        obtain ⟨b46, b47, F⟩ := F
        refine e_111 (f_148 (pc := 188) (e := (188, 111, 0, 0, 0, 0, 0, 189)) rfl) rfl hv1 b46 b47 ?_
        replace F := F _ rfl
        refine e_13 (f_148 (pc := 189) (e := (189, 13, 6, 0, 0, 0, 0, 191)) rfl) rfl ?_
        refine e_11 (f_148 (pc := 191) (e := (191, 11, 7, 0, 0, 0, 0, 193)) rfl) rfl ?_
        refine e_12 (f_148 (pc := 193) (e := (193, 12, 0, 0, 0, 0, 0, 194)) rfl) rfl ?_
        refine e_90r zA (f_148 (pc := 194) (e := (194, 90, 10, 3, 3, 35, 1069, 197)) rfl) rfl (hT 0 rfl) rfl rfl (hR 0 3 rfl) ?_
        refine e_10 (f_148 (pc := 197) (e := (197, 10, 2, 0, 0, 0, 0, 198)) rfl) rfl ?_
        refine e_130 (f_148 (pc := 198) (e := (198, 130, 106, 0, 7, 283, 1130, 201)) rfl) zA (as := [yr (some 67), yi x2]) (rest := [yi x7, yr (some v2)]) rfl rfl rfl rfl (Nat.le_of_ble_eq_true rfl) (Nat.le_of_ble_eq_true rfl) ⟨_, _, _, rfl, (hT 67 rfl)⟩ (mc := 0) (ms := 0) hnb hsb ?_
        refine e_K ?_ F
        rintro r h' ⟨r50, I49, rfl, rfl, F⟩
        obtain ⟨b51, b52, F⟩ := F
        refine e_111 (f_148 (pc := 201) (e := (201, 111, 0, 0, 0, 0, 0, 202)) rfl) rfl hv2 b51 b52 ?_
        replace F := F _ rfl
        refine e_26 (f_148 (pc := 202) (e := (202, 26, 7, 1, 0, 0, 0, 205)) rfl) (w := 1) rfl rfl ?_
        refine e_80 (f_148 (pc := 205) (e := (205, 80, 76, 0, 0, 0, 0, 208)) rfl) ?_
        refine e_lo [0, 1, 2, 3, 4, 5, 6, 7] rfl ?_
        exact F
      · replace F := F.2 c39
        refine e_12 (f_148 (pc := 149) (e := (149, 12, 0, 0, 0, 0, 0, 150)) rfl) rfl ?_
        refine e_90r zA (f_148 (pc := 150) (e := (150, 90, 10, 1, 3, 19, 1064, 153)) rfl) rfl (hT 0 rfl) rfl rfl (hR 0 1 rfl) ?_
        refine e_90r zA (f_148 (pc := 153) (e := (153, 90, 9, 1, 3, 92, 1084, 156)) rfl) rfl (hT 3 rfl) rfl rfl (hR 3 1 rfl) ?_
        refine e_90 zA (f_148 (pc := 156) (e := (156, 90, 5, 0, 0, 209, 1138, 159)) rfl) rfl (hT 16 rfl) rfl rfl ?_
        refine e_10 (f_148 (pc := 159) (e := (159, 10, 3, 0, 0, 0, 0, 160)) rfl) rfl ?_
        refine e_30 (f_148 (pc := 160) (e := (160, 30, 0, 0, 0, 0, 0, 161)) rfl) ?_
        refine e_80 (f_148 (pc := 161) (e := (161, 80, 165, 0, 0, 0, 0, 164)) rfl) ?_
        obtain ⟨b54, b55, F⟩ := F
        refine e_111 (f_148 (pc := 165) (e := (165, 111, 0, 0, 0, 0, 0, 166)) rfl) rfl (hT 79 rfl) b54 b55 ?_
        replace F := F _ rfl
        refine e_12 (f_148 (pc := 166) (e := (166, 12, 0, 0, 0, 0, 0, 167)) rfl) rfl ?_
        refine e_90r zA (f_148 (pc := 167) (e := (167, 90, 10, 3, 3, 35, 1069, 170)) rfl) rfl (hT 0 rfl) rfl rfl (hR 0 3 rfl) ?_
        refine e_2 (f_148 (pc := 170) (e := (170, 2, 500, 0, 0, 0, 0, 173)) rfl) (v := 500) rfl ?_
        refine e_130 (f_148 (pc := 173) (e := (173, 130, 89, 0, 7, 258, 1127, 176)) rfl) zA (as := [yr (some 67), yi 500]) (rest := []) rfl rfl rfl rfl (Nat.le_of_ble_eq_true rfl) (Nat.le_of_ble_eq_true rfl) ⟨_, _, _, rfl, (hT 67 rfl)⟩ (mc := 0) (ms := 0) hnb hsb ?_
        refine e_K ?_ F
        rintro r h' ⟨I57, rfl, rfl, F⟩
        refine e_13 (f_148 (pc := 176) (e := (176, 13, 5, 0, 0, 0, 0, 178)) rfl) rfl ?_
        refine e_11 (f_148 (pc := 178) (e := (178, 11, 7, 0, 0, 0, 0, 180)) rfl) rfl ?_
        refine e_12 (f_148 (pc := 180) (e := (180, 12, 0, 0, 0, 0, 0, 181)) rfl) rfl ?_
        refine e_90r zA (f_148 (pc := 181) (e := (181, 90, 10, 3, 3, 35, 1069, 184)) rfl) rfl (hT 0 rfl) rfl rfl (hR 0 3 rfl) ?_
        refine e_10 (f_148 (pc := 184) (e := (184, 10, 1, 0, 0, 0, 0, 185)) rfl) rfl ?_
        refine e_130 (f_148 (pc := 185) (e := (185, 130, 106, 0, 7, 283, 1130, 188)) rfl) zA (as := [yr (some 67), yi x1]) (rest := [yi x7, yr (some v1)]) rfl rfl rfl rfl (Nat.le_of_ble_eq_true rfl) (Nat.le_of_ble_eq_true rfl) ⟨_, _, _, rfl, (hT 67 rfl)⟩ (mc := 0) (ms := 0) hnb hsb ?_
        refine e_K ?_ F
        rintro r h' ⟨r59, I58, rfl, rfl, F⟩
        obtain ⟨b60, b61, F⟩ := F
        refine e_111 (f_148 (pc := 188) (e := (188, 111, 0, 0, 0, 0, 0, 189)) rfl) rfl hv1 b60 b61 ?_
        replace F := F _ rfl
        refine e_13 (f_148 (pc := 189) (e := (189, 13, 6, 0, 0, 0, 0, 191)) rfl) rfl ?_
        refine e_11 (f_148 (pc := 191) (e := (191, 11, 7, 0, 0, 0, 0, 193)) rfl) rfl ?_
        refine e_12 (f_148 (pc := 193) (e := (193, 12, 0, 0, 0, 0, 0, 194)) rfl) rfl ?_
        refine e_90r zA (f_148 (pc := 194) (e := (194, 90, 10, 3, 3, 35, 1069, 197)) rfl) rfl (hT 0 rfl) rfl rfl (hR 0 3 rfl) ?_
        refine e_10 (f_148 (pc := 197) (e := (197, 10, 2, 0, 0, 0, 0, 198)) rfl) rfl ?_
        refine e_130 (f_148 (pc := 198) (e := (198, 130, 106, 0, 7, 283, 1130, 201)) rfl) zA (as := [yr (some 67), yi x2]) (rest := [yi x7, yr (some v2)]) rfl rfl rfl rfl (Nat.le_of_ble_eq_true rfl) (Nat.le_of_ble_eq_true rfl) ⟨_, _, _, rfl, (hT 67 rfl)⟩ (mc := 0) (ms := 0) hnb hsb ?_
        refine e_K ?_ F
        rintro r h' ⟨r64, I63, rfl, rfl, F⟩
        obtain ⟨b65, b66, F⟩ := F
        refine e_111 (f_148 (pc := 201) (e := (201, 111, 0, 0, 0, 0, 0, 202)) rfl) rfl hv2 b65 b66 ?_
        replace F := F _ rfl
        refine e_26 (f_148 (pc := 202) (e := (202, 26, 7, 1, 0, 0, 0, 205)) rfl) (w := 1) rfl rfl ?_
        refine e_80 (f_148 (pc := 205) (e := (205, 80, 76, 0, 0, 0, 0, 208)) rfl) ?_
        refine e_lo [0, 1, 2, 3, 4, 5, 6, 7] rfl ?_
        exact F
set_option maxRecDepth 20000 in
theorem Bd_148_214 (hT : yLT T) (hR : yLR R) (hnb : nc ≤ bc) (hsb : nl ≤ bs) {v1 : Nat} (hv1 : T v1 = (1, 4)) {v2 : Nat} (hv2 : T v2 = (1, 4)) {x4 x7 x8 : Int} (F : (4 ≤ x8 → (x4 ≠ (-1) → K (some (yi (-1))) (N, T, R, I)) ∧ (¬ (x4 ≠ (-1)) → K (some (yi x7)) (N, T, R, I))) ∧ (¬ (4 ≤ x8) → 0 ≤ (yxor x8 2) ∧ (yxor x8 2) < 4 ∧ (0 ≤ x8 ∧ x8 < 4 ∧ (((I v1 (yxor x8 2).toNat) < (I v1 x8.toNat) → yW l zSS D cy zFk z d 148 bc bs K nc nl 214 [(4, yi x4), (5, yr (some v1)), (6, yr (some v2)), (7, yi x7), (8, yi (yadd x8 1))] [] (N, T, R, I)) ∧ (¬ ((I v1 (yxor x8 2).toNat) < (I v1 x8.toNat)) → 0 ≤ (yxor x8 1) ∧ (yxor x8 1) < 4 ∧ (0 ≤ x8 ∧ x8 < 4 ∧ (((I v2 (yxor x8 1).toNat) < (I v2 x8.toNat) → yW l zSS D cy zFk z d 148 bc bs K nc nl 214 [(4, yi x4), (5, yr (some v1)), (6, yr (some v2)), (7, yi x7), (8, yi (yadd x8 1))] [] (N, T, R, I)) ∧ (¬ ((I v2 (yxor x8 1).toNat) < (I v2 x8.toNat)) → (x7 ≠ x4 → yW l zSS D cy zFk z d 148 bc bs K nc nl 214 [(4, yi x4), (5, yr (some v1)), (6, yr (some v2)), (7, yi (yadd x7 1)), (8, yi (yadd x8 1))] [] (N, T, R, I)) ∧ (¬ (x7 ≠ x4) → K (some (yi x8)) (N, T, R, I)))))))))) :
    yW l zSS D cy zFk z d 148 bc bs K nc nl 214 [(4, yi x4), (5, yr (some v1)), (6, yr (some v2)), (7, yi x7), (8, yi x8)] [] (N, T, R, I) := by
  refine e_11 (f_148 (pc := 214) (e := (214, 11, 8, 0, 0, 0, 0, 216)) rfl) rfl ?_
  refine e_0 (f_148 (pc := 216) (e := (216, 0, 4, 0, 0, 0, 0, 217)) rfl) (v := 4) rfl ?_
  refine e_73 (f_148 (pc := 217) (e := (217, 73, 269, 0, 0, 0, 0, 220)) rfl) (fun c1 => ?_) (fun c1 => ?_)
  · replace F := F.1 c1
    refine e_11 (f_148 (pc := 269) (e := (269, 11, 4, 0, 0, 0, 0, 271)) rfl) rfl ?_
    refine e_0 (f_148 (pc := 271) (e := (271, 0, 4294967295, 0, 0, 0, 0, 272)) rfl) (v := (-1)) rfl ?_
    refine e_71 (f_148 (pc := 272) (e := (272, 71, 280, 0, 0, 0, 0, 275)) rfl) (fun c2 => ?_) (fun c2 => ?_)
    · replace F := F.1 c2
      refine e_0 (f_148 (pc := 280) (e := (280, 0, 4294967295, 0, 0, 0, 0, 281)) rfl) (v := (-1)) rfl ?_
      exact e_120 (f_148 (pc := 281) (e := (281, 120, 0, 0, 0, 0, 0, 0)) rfl) F
    · replace F := F.2 c2
      refine e_11 (f_148 (pc := 275) (e := (275, 11, 7, 0, 0, 0, 0, 277)) rfl) rfl ?_
      refine e_80 (f_148 (pc := 277) (e := (277, 80, 281, 0, 0, 0, 0, 280)) rfl) ?_
      exact e_120 (f_148 (pc := 281) (e := (281, 120, 0, 0, 0, 0, 0, 0)) rfl) F
  · replace F := F.2 c1
    refine e_13 (f_148 (pc := 220) (e := (220, 13, 5, 0, 0, 0, 0, 222)) rfl) rfl ?_
    refine e_11 (f_148 (pc := 222) (e := (222, 11, 8, 0, 0, 0, 0, 224)) rfl) rfl ?_
    refine e_0 (f_148 (pc := 224) (e := (224, 0, 2, 0, 0, 0, 0, 225)) rfl) (v := 2) rfl ?_
    refine e_37 (f_148 (pc := 225) (e := (225, 37, 0, 0, 0, 0, 0, 226)) rfl) ?_
    obtain ⟨b3, b4, F⟩ := F
    refine e_110 (f_148 (pc := 226) (e := (226, 110, 0, 0, 0, 0, 0, 227)) rfl) rfl hv1 b3 b4 ?_
    refine e_13 (f_148 (pc := 227) (e := (227, 13, 5, 0, 0, 0, 0, 229)) rfl) rfl ?_
    refine e_11 (f_148 (pc := 229) (e := (229, 11, 8, 0, 0, 0, 0, 231)) rfl) rfl ?_
    obtain ⟨b5, b6, F⟩ := F
    refine e_110 (f_148 (pc := 231) (e := (231, 110, 0, 0, 0, 0, 0, 232)) rfl) rfl hv1 b5 b6 ?_
    refine e_72 (f_148 (pc := 232) (e := (232, 72, 263, 0, 0, 0, 0, 235)) rfl) (fun c7 => ?_) (fun c7 => ?_)
    · replace F := F.1 c7
      refine e_26 (f_148 (pc := 263) (e := (263, 26, 8, 1, 0, 0, 0, 266)) rfl) (w := 1) rfl rfl ?_
      refine e_80 (f_148 (pc := 266) (e := (266, 80, 214, 0, 0, 0, 0, 269)) rfl) ?_
      refine e_lo [4, 5, 6, 7, 8] rfl ?_
      exact F
    · replace F := F.2 c7
      refine e_13 (f_148 (pc := 235) (e := (235, 13, 6, 0, 0, 0, 0, 237)) rfl) rfl ?_
      refine e_11 (f_148 (pc := 237) (e := (237, 11, 8, 0, 0, 0, 0, 239)) rfl) rfl ?_
      refine e_0 (f_148 (pc := 239) (e := (239, 0, 1, 0, 0, 0, 0, 240)) rfl) (v := 1) rfl ?_
      refine e_37 (f_148 (pc := 240) (e := (240, 37, 0, 0, 0, 0, 0, 241)) rfl) ?_
      obtain ⟨b8, b9, F⟩ := F
      refine e_110 (f_148 (pc := 241) (e := (241, 110, 0, 0, 0, 0, 0, 242)) rfl) rfl hv2 b8 b9 ?_
      refine e_13 (f_148 (pc := 242) (e := (242, 13, 6, 0, 0, 0, 0, 244)) rfl) rfl ?_
      refine e_11 (f_148 (pc := 244) (e := (244, 11, 8, 0, 0, 0, 0, 246)) rfl) rfl ?_
      obtain ⟨b10, b11, F⟩ := F
      refine e_110 (f_148 (pc := 246) (e := (246, 110, 0, 0, 0, 0, 0, 247)) rfl) rfl hv2 b10 b11 ?_
      refine e_72 (f_148 (pc := 247) (e := (247, 72, 263, 0, 0, 0, 0, 250)) rfl) (fun c12 => ?_) (fun c12 => ?_)
      · replace F := F.1 c12
        refine e_26 (f_148 (pc := 263) (e := (263, 26, 8, 1, 0, 0, 0, 266)) rfl) (w := 1) rfl rfl ?_
        refine e_80 (f_148 (pc := 266) (e := (266, 80, 214, 0, 0, 0, 0, 269)) rfl) ?_
        refine e_lo [4, 5, 6, 7, 8] rfl ?_
        exact F
      · replace F := F.2 c12
        refine e_11 (f_148 (pc := 250) (e := (250, 11, 7, 0, 0, 0, 0, 252)) rfl) rfl ?_
        refine e_11 (f_148 (pc := 252) (e := (252, 11, 4, 0, 0, 0, 0, 254)) rfl) rfl ?_
        refine e_71 (f_148 (pc := 254) (e := (254, 71, 260, 0, 0, 0, 0, 257)) rfl) (fun c13 => ?_) (fun c13 => ?_)
        · replace F := F.1 c13
          refine e_26 (f_148 (pc := 260) (e := (260, 26, 7, 1, 0, 0, 0, 263)) rfl) (w := 1) rfl rfl ?_
          refine e_26 (f_148 (pc := 263) (e := (263, 26, 8, 1, 0, 0, 0, 266)) rfl) (w := 1) rfl rfl ?_
          refine e_80 (f_148 (pc := 266) (e := (266, 80, 214, 0, 0, 0, 0, 269)) rfl) ?_
          refine e_lo [4, 5, 6, 7, 8] rfl ?_
          exact F
        · replace F := F.2 c13
          refine e_11 (f_148 (pc := 257) (e := (257, 11, 8, 0, 0, 0, 0, 259)) rfl) rfl ?_
          exact e_120 (f_148 (pc := 259) (e := (259, 120, 0, 0, 0, 0, 0, 260)) rfl) F
/-! ChairAlley.voted(I)I -/
set_option maxRecDepth 20000 in
theorem Bd_151_0 (hT : yLT T) (hR : yLR R) (hnb : nc ≤ bc) (hsb : nl ≤ bs) (h126 : 126 ≤ N) {x1 : Int} (F : yW l zSS D cy zFk z d 11 0 0 (fun r h' => ∃ r2 I1, r = some (yi r2) ∧ h' = (N, T, R, I1) ∧ ((r2 ≠ 0 → nc + 1 ≤ bc ∧ nl + 8 ≤ bs ∧ (∀ T4 R5 I6, T4 = yNT T N 1 8 → R5 = yNR R N → I6 = yNI I1 N → (yW l zSS D cy zFk z (d + 1) 151 bc bs K (nc + 1) (nl + 8) 21 [(0, yr (some 0)), (1, yi x1), (2, yr (some N))] [] ((N + 1), T4, R5, I6)))) ∧ (¬ (r2 ≠ 0) → K (some (yi (-1))) (N, T, R, I1)))) 0 0 0 [(0, yr (some 4)), (1, yi x1)] [] (N, T, R, I)) :
    yW l zSS D cy zFk z (d + 1) 151 bc bs K nc nl 0 [(0, yr (some 0)), (1, yi x1)] [] (N, T, R, I) := by
  refine e_12 (f_151 (pc := 0) (e := (0, 12, 0, 0, 0, 0, 0, 1)) rfl) rfl ?_
  refine e_90r zA (f_151 (pc := 1) (e := (1, 90, 10, 1, 3, 19, 1064, 4)) rfl) rfl (hT 0 rfl) rfl rfl (hR 0 1 rfl) ?_
  refine e_90r zA (f_151 (pc := 4) (e := (4, 90, 9, 0, 3, 28, 1067, 7)) rfl) rfl (hT 3 rfl) rfl rfl (hR 3 0 rfl) ?_
  refine e_10 (f_151 (pc := 7) (e := (7, 10, 1, 0, 0, 0, 0, 8)) rfl) rfl ?_
  refine e_130 (f_151 (pc := 8) (e := (8, 130, 11, 0, 1, 120, 1101, 11)) rfl) zA (as := [yr (some 4), yi x1]) (rest := []) rfl rfl rfl rfl (Nat.le_of_ble_eq_true rfl) (Nat.le_of_ble_eq_true rfl) ⟨_, _, _, rfl, (hT 4 rfl)⟩ (mc := 0) (ms := 0) hnb hsb ?_
  refine e_K ?_ F
  rintro r h' ⟨r2, I1, rfl, rfl, F⟩
  refine e_61 (f_151 (pc := 11) (e := (11, 61, 16, 0, 0, 0, 0, 14)) rfl) (fun c3 => ?_) (fun c3 => ?_)
  · replace F := F.1 c3
    refine e_1 (f_151 (pc := 16) (e := (16, 1, 8, 0, 0, 0, 0, 18)) rfl) (v := 8) rfl ?_
    obtain ⟨e9, e10, F⟩ := F
    refine e_101 (f_151 (pc := 18) (e := (18, 101, 1, 0, 0, 0, 0, 20)) rfl) zA (n := 8) rfl (by decide) e9 e10 ?_
    replace F := F _ _ _ rfl rfl rfl
    show yW l zSS D cy zFk z _ 151 bc bs K _ _ _ _ _ (N + 1, yNT _ N 1 8, yNR _ N, yNI _ N)
    have hT7 := yLT_nw (c := 1) (n := 8) (show 126 ≤ N by omega) hT
    have hR8 := yLR_nw (show 126 ≤ N by omega) hR
    refine e_22 (f_151 (pc := 20) (e := (20, 22, 2, 0, 0, 0, 0, 21)) rfl) ?_
    refine e_lo [0, 1, 2] rfl ?_
    exact F
  · replace F := F.2 c3
    refine e_0 (f_151 (pc := 14) (e := (14, 0, 4294967295, 0, 0, 0, 0, 15)) rfl) (v := (-1)) rfl ?_
    exact e_120 (f_151 (pc := 15) (e := (15, 120, 0, 0, 0, 0, 0, 16)) rfl) F
set_option maxRecDepth 20000 in
theorem Bd_151_21 (hT : yLT T) (hR : yLR R) (hnb : nc ≤ bc) (hsb : nl ≤ bs) {v1 : Nat} (hv1 : T v1 = (1, 8)) {x1 : Int} (F : yW l zSS D cy zFk z d 102 0 0 (fun r h' => ∃ I1, r = none ∧ h' = (N, T, R, I1) ∧ (yW l zSS D cy zFk z d 96 0 0 (fun r h' => ∃ I2, r = none ∧ h' = (N, T, R, I2) ∧ (yW l zSS D cy zFk z d 89 0 0 (fun r h' => ∃ I3, r = none ∧ h' = (N, T, R, I3) ∧ (yW l zSS D cy zFk z (d + 1) 151 bc bs K nc nl 54 [(0, yr (some 0)), (1, yi x1), (2, yr (some v1)), (3, yi 0)] [] (N, T, R, I3))) 0 0 0 [(0, yr (some 67)), (1, yi 500)] [] (N, T, R, I2))) 0 0 0 [(0, yr (some 67))] [] (N, T, R, I1))) 0 0 0 [(0, yr (some 67)), (1, yr (some 16))] [] (N, T, R, I)) :
    yW l zSS D cy zFk z (d + 1) 151 bc bs K nc nl 21 [(0, yr (some 0)), (1, yi x1), (2, yr (some v1))] [] (N, T, R, I) := by
  refine e_12 (f_151 (pc := 21) (e := (21, 12, 0, 0, 0, 0, 0, 22)) rfl) rfl ?_
  refine e_90r zA (f_151 (pc := 22) (e := (22, 90, 10, 3, 3, 35, 1069, 25)) rfl) rfl (hT 0 rfl) rfl rfl (hR 0 3 rfl) ?_
  refine e_12 (f_151 (pc := 25) (e := (25, 12, 0, 0, 0, 0, 0, 26)) rfl) rfl ?_
  refine e_90r zA (f_151 (pc := 26) (e := (26, 90, 10, 1, 3, 19, 1064, 29)) rfl) rfl (hT 0 rfl) rfl rfl (hR 0 1 rfl) ?_
  refine e_90r zA (f_151 (pc := 29) (e := (29, 90, 9, 1, 3, 92, 1084, 32)) rfl) rfl (hT 3 rfl) rfl rfl (hR 3 1 rfl) ?_
  refine e_130 (f_151 (pc := 32) (e := (32, 130, 102, 0, 7, 193, 1122, 35)) rfl) zA (as := [yr (some 67), yr (some 16)]) (rest := []) rfl rfl rfl rfl (Nat.le_of_ble_eq_true rfl) (Nat.le_of_ble_eq_true rfl) ⟨_, _, _, rfl, (hT 67 rfl)⟩ (mc := 0) (ms := 0) hnb hsb ?_
  refine e_K ?_ F
  rintro r h' ⟨I1, rfl, rfl, F⟩
  refine e_12 (f_151 (pc := 35) (e := (35, 12, 0, 0, 0, 0, 0, 36)) rfl) rfl ?_
  refine e_90r zA (f_151 (pc := 36) (e := (36, 90, 10, 3, 3, 35, 1069, 39)) rfl) rfl (hT 0 rfl) rfl rfl (hR 0 3 rfl) ?_
  refine e_130 (f_151 (pc := 39) (e := (39, 130, 96, 0, 7, 203, 1092, 42)) rfl) zA (as := [yr (some 67)]) (rest := []) rfl rfl rfl rfl (Nat.le_of_ble_eq_true rfl) (Nat.le_of_ble_eq_true rfl) ⟨_, _, _, rfl, (hT 67 rfl)⟩ (mc := 0) (ms := 0) hnb hsb ?_
  refine e_K ?_ F
  rintro r h' ⟨I2, rfl, rfl, F⟩
  refine e_12 (f_151 (pc := 42) (e := (42, 12, 0, 0, 0, 0, 0, 43)) rfl) rfl ?_
  refine e_90r zA (f_151 (pc := 43) (e := (43, 90, 10, 3, 3, 35, 1069, 46)) rfl) rfl (hT 0 rfl) rfl rfl (hR 0 3 rfl) ?_
  refine e_2 (f_151 (pc := 46) (e := (46, 2, 500, 0, 0, 0, 0, 49)) rfl) (v := 500) rfl ?_
  refine e_130 (f_151 (pc := 49) (e := (49, 130, 89, 0, 7, 258, 1127, 52)) rfl) zA (as := [yr (some 67), yi 500]) (rest := []) rfl rfl rfl rfl (Nat.le_of_ble_eq_true rfl) (Nat.le_of_ble_eq_true rfl) ⟨_, _, _, rfl, (hT 67 rfl)⟩ (mc := 0) (ms := 0) hnb hsb ?_
  refine e_K ?_ F
  rintro r h' ⟨I3, rfl, rfl, F⟩
  refine e_0 (f_151 (pc := 52) (e := (52, 0, 0, 0, 0, 0, 0, 53)) rfl) (v := 0) rfl ?_
  refine e_20 (f_151 (pc := 53) (e := (53, 20, 3, 0, 0, 0, 0, 54)) rfl) ?_
  refine e_lo [0, 1, 2, 3] rfl ?_
  exact F
set_option maxRecDepth 20000 in
theorem Bd_151_54 (hT : yLT T) (hR : yLR R) (hnb : nc ≤ bc) (hsb : nl ≤ bs) {v1 : Nat} (hv1 : T v1 = (1, 8)) {x1 x3 : Int} (F : (8 ≤ x3 → yW l zSS D cy zFk z d 102 0 0 (fun r h' => ∃ I2, r = none ∧ h' = (N, T, R, I2) ∧ (yW l zSS D cy zFk z d 68 0 0 (fun r h' => ∃ I3, r = none ∧ h' = (N, T, R, I3) ∧ (yW l zSS D cy zFk z d 89 0 0 (fun r h' => ∃ I4, r = none ∧ h' = (N, T, R, I4) ∧ (yW l zSS D cy zFk z (d + 1) 151 bc bs K nc nl 117 [(0, yr (some 0)), (1, yi x1), (2, yr (some v1)), (3, yi 0), (4, yi 0)] [] (N, T, R, I4))) 0 0 0 [(0, yr (some 67)), (1, yi 500)] [] (N, T, R, I3))) 0 0 0 [(0, yr (some 68)), (1, yi x1)] [] (N, T, R, I2))) 0 0 0 [(0, yr (some 67)), (1, yr (some 16))] [] (N, T, R, I)) ∧ (¬ (8 ≤ x3) → yW l zSS D cy zFk z d 106 0 0 (fun r h' => ∃ r6 I5, r = some (yi r6) ∧ h' = (N, T, R, I5) ∧ (0 ≤ x3 ∧ x3 < 8 ∧ (∀ I9, I9 = yU I5 v1 x3.toNat (ynar 1 r6) → (yW l zSS D cy zFk z (d + 1) 151 bc bs K nc nl 54 [(0, yr (some 0)), (1, yi x1), (2, yr (some v1)), (3, yi (yadd x3 1))] [] (N, T, R, I9))))) 0 0 0 [(0, yr (some 67)), (1, yi x3)] [] (N, T, R, I))) :
    yW l zSS D cy zFk z (d + 1) 151 bc bs K nc nl 54 [(0, yr (some 0)), (1, yi x1), (2, yr (some v1)), (3, yi x3)] [] (N, T, R, I) := by
  refine e_10 (f_151 (pc := 54) (e := (54, 10, 3, 0, 0, 0, 0, 55)) rfl) rfl ?_
  refine e_1 (f_151 (pc := 55) (e := (55, 1, 8, 0, 0, 0, 0, 57)) rfl) (v := 8) rfl ?_
  refine e_73 (f_151 (pc := 57) (e := (57, 73, 77, 0, 0, 0, 0, 60)) rfl) (fun c1 => ?_) (fun c1 => ?_)
  · replace F := F.1 c1
    refine e_12 (f_151 (pc := 77) (e := (77, 12, 0, 0, 0, 0, 0, 78)) rfl) rfl ?_
    refine e_90r zA (f_151 (pc := 78) (e := (78, 90, 10, 3, 3, 35, 1069, 81)) rfl) rfl (hT 0 rfl) rfl rfl (hR 0 3 rfl) ?_
    refine e_12 (f_151 (pc := 81) (e := (81, 12, 0, 0, 0, 0, 0, 82)) rfl) rfl ?_
    refine e_90r zA (f_151 (pc := 82) (e := (82, 90, 10, 1, 3, 19, 1064, 85)) rfl) rfl (hT 0 rfl) rfl rfl (hR 0 1 rfl) ?_
    refine e_90r zA (f_151 (pc := 85) (e := (85, 90, 9, 1, 3, 92, 1084, 88)) rfl) rfl (hT 3 rfl) rfl rfl (hR 3 1 rfl) ?_
    refine e_130 (f_151 (pc := 88) (e := (88, 130, 102, 0, 7, 193, 1122, 91)) rfl) zA (as := [yr (some 67), yr (some 16)]) (rest := []) rfl rfl rfl rfl (Nat.le_of_ble_eq_true rfl) (Nat.le_of_ble_eq_true rfl) ⟨_, _, _, rfl, (hT 67 rfl)⟩ (mc := 0) (ms := 0) hnb hsb ?_
    refine e_K ?_ F
    rintro r h' ⟨I2, rfl, rfl, F⟩
    refine e_12 (f_151 (pc := 91) (e := (91, 12, 0, 0, 0, 0, 0, 92)) rfl) rfl ?_
    refine e_90r zA (f_151 (pc := 92) (e := (92, 90, 10, 3, 3, 35, 1069, 95)) rfl) rfl (hT 0 rfl) rfl rfl (hR 0 3 rfl) ?_
    refine e_90r zA (f_151 (pc := 95) (e := (95, 90, 7, 2, 3, 206, 1094, 98)) rfl) rfl (hT 67 rfl) rfl rfl (hR 67 2 rfl) ?_
    refine e_10 (f_151 (pc := 98) (e := (98, 10, 1, 0, 0, 0, 0, 99)) rfl) rfl ?_
    refine e_130 (f_151 (pc := 99) (e := (99, 130, 68, 0, 5, 277, 1095, 102)) rfl) zA (as := [yr (some 68), yi x1]) (rest := []) rfl rfl rfl rfl (Nat.le_of_ble_eq_true rfl) (Nat.le_of_ble_eq_true rfl) ⟨_, _, _, rfl, (hT 68 rfl)⟩ (mc := 0) (ms := 0) hnb hsb ?_
    refine e_K ?_ F
    rintro r h' ⟨I3, rfl, rfl, F⟩
    refine e_12 (f_151 (pc := 102) (e := (102, 12, 0, 0, 0, 0, 0, 103)) rfl) rfl ?_
    refine e_90r zA (f_151 (pc := 103) (e := (103, 90, 10, 3, 3, 35, 1069, 106)) rfl) rfl (hT 0 rfl) rfl rfl (hR 0 3 rfl) ?_
    refine e_2 (f_151 (pc := 106) (e := (106, 2, 500, 0, 0, 0, 0, 109)) rfl) (v := 500) rfl ?_
    refine e_130 (f_151 (pc := 109) (e := (109, 130, 89, 0, 7, 258, 1127, 112)) rfl) zA (as := [yr (some 67), yi 500]) (rest := []) rfl rfl rfl rfl (Nat.le_of_ble_eq_true rfl) (Nat.le_of_ble_eq_true rfl) ⟨_, _, _, rfl, (hT 67 rfl)⟩ (mc := 0) (ms := 0) hnb hsb ?_
    refine e_K ?_ F
    rintro r h' ⟨I4, rfl, rfl, F⟩
    refine e_0 (f_151 (pc := 112) (e := (112, 0, 0, 0, 0, 0, 0, 113)) rfl) (v := 0) rfl ?_
    refine e_20 (f_151 (pc := 113) (e := (113, 20, 3, 0, 0, 0, 0, 114)) rfl) ?_
    refine e_0 (f_151 (pc := 114) (e := (114, 0, 0, 0, 0, 0, 0, 115)) rfl) (v := 0) rfl ?_
    refine e_21 (f_151 (pc := 115) (e := (115, 21, 4, 0, 0, 0, 0, 117)) rfl) ?_
    refine e_lo [0, 1, 2, 3, 4] rfl ?_
    exact F
  · replace F := F.2 c1
    refine e_12 (f_151 (pc := 60) (e := (60, 12, 2, 0, 0, 0, 0, 61)) rfl) rfl ?_
    refine e_10 (f_151 (pc := 61) (e := (61, 10, 3, 0, 0, 0, 0, 62)) rfl) rfl ?_
    refine e_12 (f_151 (pc := 62) (e := (62, 12, 0, 0, 0, 0, 0, 63)) rfl) rfl ?_
    refine e_90r zA (f_151 (pc := 63) (e := (63, 90, 10, 3, 3, 35, 1069, 66)) rfl) rfl (hT 0 rfl) rfl rfl (hR 0 3 rfl) ?_
    refine e_10 (f_151 (pc := 66) (e := (66, 10, 3, 0, 0, 0, 0, 67)) rfl) rfl ?_
    refine e_130 (f_151 (pc := 67) (e := (67, 130, 106, 0, 7, 283, 1130, 70)) rfl) zA (as := [yr (some 67), yi x3]) (rest := [yi x3, yr (some v1)]) rfl rfl rfl rfl (Nat.le_of_ble_eq_true rfl) (Nat.le_of_ble_eq_true rfl) ⟨_, _, _, rfl, (hT 67 rfl)⟩ (mc := 0) (ms := 0) hnb hsb ?_
    refine e_K ?_ F
    rintro r h' ⟨r6, I5, rfl, rfl, F⟩
    obtain ⟨b7, b8, F⟩ := F
    refine e_111 (f_151 (pc := 70) (e := (70, 111, 0, 0, 0, 0, 0, 71)) rfl) rfl hv1 b7 b8 ?_
    replace F := F _ rfl
    refine e_26 (f_151 (pc := 71) (e := (71, 26, 3, 1, 0, 0, 0, 74)) rfl) (w := 1) rfl rfl ?_
    refine e_80 (f_151 (pc := 74) (e := (74, 80, 54, 0, 0, 0, 0, 77)) rfl) ?_
    refine e_lo [0, 1, 2, 3] rfl ?_
    exact F
set_option maxRecDepth 20000 in
theorem Bd_151_117 (hT : yLT T) (hR : yLR R) (hnb : nc ≤ bc) (hsb : nl ≤ bs) {v1 : Nat} (hv1 : T v1 = (1, 8)) {x1 x3 x4 : Int} (F : (8 ≤ x4 → (x3 ≤ 0 → K (some (yi 0)) (N, T, R, I)) ∧ (¬ (x3 ≤ 0) → K (some (yi 1)) (N, T, R, I))) ∧ (¬ (8 ≤ x4) → yW l zSS D cy zFk z d 126 0 0 (fun r h' => ∃ r4 I3, r = some (yi r4) ∧ h' = (N, T, R, I3) ∧ ((r4 = 0 → yW l zSS D cy zFk z (d + 1) 151 bc bs K nc nl 117 [(0, yr (some 0)), (1, yi x1), (2, yr (some v1)), (3, yi x3), (4, yi (yadd x4 1))] [] (N, T, R, I3)) ∧ (¬ (r4 = 0) → (x4 = x1 → yW l zSS D cy zFk z (d + 1) 151 bc bs K nc nl 117 [(0, yr (some 0)), (1, yi x1), (2, yr (some v1)), (3, yi (yadd x3 (-1))), (4, yi (yadd x4 1))] [] (N, T, R, I3)) ∧ (¬ (x4 = x1) → yW l zSS D cy zFk z d 106 0 0 (fun r h' => ∃ r8 I7, r = some (yi r8) ∧ h' = (N, T, R, I7) ∧ (0 ≤ x4 ∧ x4 < 8 ∧ (((I7 v1 x4.toNat) ≤ r8 → yW l zSS D cy zFk z (d + 1) 151 bc bs K nc nl 117 [(0, yr (some 0)), (1, yi x1), (2, yr (some v1)), (3, yi (yadd x3 (-1))), (4, yi (yadd x4 1))] [] (N, T, R, I7)) ∧ (¬ ((I7 v1 x4.toNat) ≤ r8) → yW l zSS D cy zFk z (d + 1) 151 bc bs K nc nl 117 [(0, yr (some 0)), (1, yi x1), (2, yr (some v1)), (3, yi (yadd x3 1)), (4, yi (yadd x4 1))] [] (N, T, R, I7))))) 0 0 0 [(0, yr (some 67)), (1, yi x4)] [] (N, T, R, I3))))) 0 0 0 [(0, yr (some 0)), (1, yi x4)] [] (N, T, R, I))) :
    yW l zSS D cy zFk z (d + 1) 151 bc bs K nc nl 117 [(0, yr (some 0)), (1, yi x1), (2, yr (some v1)), (3, yi x3), (4, yi x4)] [] (N, T, R, I) := by
  refine e_11 (f_151 (pc := 117) (e := (117, 11, 4, 0, 0, 0, 0, 119)) rfl) rfl ?_
  refine e_1 (f_151 (pc := 119) (e := (119, 1, 8, 0, 0, 0, 0, 121)) rfl) (v := 8) rfl ?_
  refine e_73 (f_151 (pc := 121) (e := (121, 73, 181, 0, 0, 0, 0, 124)) rfl) (fun c1 => ?_) (fun c1 => ?_)
  · replace F := F.1 c1
    refine e_10 (f_151 (pc := 181) (e := (181, 10, 3, 0, 0, 0, 0, 182)) rfl) rfl ?_
    refine e_65 (f_151 (pc := 182) (e := (182, 65, 189, 0, 0, 0, 0, 185)) rfl) (fun c2 => ?_) (fun c2 => ?_)
    · replace F := F.1 c2
      refine e_0 (f_151 (pc := 189) (e := (189, 0, 0, 0, 0, 0, 0, 190)) rfl) (v := 0) rfl ?_
      exact e_120 (f_151 (pc := 190) (e := (190, 120, 0, 0, 0, 0, 0, 0)) rfl) F
    · replace F := F.2 c2
      refine e_0 (f_151 (pc := 185) (e := (185, 0, 1, 0, 0, 0, 0, 186)) rfl) (v := 1) rfl ?_
      refine e_80 (f_151 (pc := 186) (e := (186, 80, 190, 0, 0, 0, 0, 189)) rfl) ?_
      exact e_120 (f_151 (pc := 190) (e := (190, 120, 0, 0, 0, 0, 0, 0)) rfl) F
  · replace F := F.2 c1
    refine e_12 (f_151 (pc := 124) (e := (124, 12, 0, 0, 0, 0, 0, 125)) rfl) rfl ?_
    refine e_11 (f_151 (pc := 125) (e := (125, 11, 4, 0, 0, 0, 0, 127)) rfl) rfl ?_
    refine e_130 (f_151 (pc := 127) (e := (127, 130, 126, 0, 10, 186, 1134, 130)) rfl) zA (as := [yr (some 0), yi x4]) (rest := []) rfl rfl rfl rfl (Nat.le_of_ble_eq_true rfl) (Nat.le_of_ble_eq_true rfl) ⟨_, _, _, rfl, (hT 0 rfl)⟩ (mc := 0) (ms := 0) hnb hsb ?_
    refine e_K ?_ F
    rintro r h' ⟨r4, I3, rfl, rfl, F⟩
    refine e_60 (f_151 (pc := 130) (e := (130, 60, 175, 0, 0, 0, 0, 133)) rfl) (fun c5 => ?_) (fun c5 => ?_)
    · replace F := F.1 c5
      refine e_26 (f_151 (pc := 175) (e := (175, 26, 4, 1, 0, 0, 0, 178)) rfl) (w := 1) rfl rfl ?_
      refine e_80 (f_151 (pc := 178) (e := (178, 80, 117, 0, 0, 0, 0, 181)) rfl) ?_
      refine e_lo [0, 1, 2, 3, 4] rfl ?_
      exact F
    · replace F := F.2 c5
      refine e_11 (f_151 (pc := 133) (e := (133, 11, 4, 0, 0, 0, 0, 135)) rfl) rfl ?_
      refine e_10 (f_151 (pc := 135) (e := (135, 10, 1, 0, 0, 0, 0, 136)) rfl) rfl ?_
      refine e_70 (f_151 (pc := 136) (e := (136, 70, 159, 0, 0, 0, 0, 139)) rfl) (fun c6 => ?_) (fun c6 => ?_)
      · replace F := F.1 c6
        refine e_0 (f_151 (pc := 159) (e := (159, 0, 0, 0, 0, 0, 0, 160)) rfl) (v := 0) rfl ?_
        refine e_21 (f_151 (pc := 160) (e := (160, 21, 5, 0, 0, 0, 0, 162)) rfl) ?_
        refine e_10 (f_151 (pc := 162) (e := (162, 10, 3, 0, 0, 0, 0, 163)) rfl) rfl ?_
        refine e_11 (f_151 (pc := 163) (e := (163, 11, 5, 0, 0, 0, 0, 165)) rfl) rfl ?_
        refine e_60 (f_151 (pc := 165) (e := (165, 60, 172, 0, 0, 0, 0, 168)) rfl) (fun _ => ?_) (fun g => absurd (by decide) g)
        refine e_0 (f_151 (pc := 172) (e := (172, 0, 4294967295, 0, 0, 0, 0, 173)) rfl) (v := (-1)) rfl ?_
        refine e_30 (f_151 (pc := 173) (e := (173, 30, 0, 0, 0, 0, 0, 174)) rfl) ?_
        refine e_20 (f_151 (pc := 174) (e := (174, 20, 3, 0, 0, 0, 0, 175)) rfl) ?_
        refine e_26 (f_151 (pc := 175) (e := (175, 26, 4, 1, 0, 0, 0, 178)) rfl) (w := 1) rfl rfl ?_
        refine e_80 (f_151 (pc := 178) (e := (178, 80, 117, 0, 0, 0, 0, 181)) rfl) ?_
        refine e_lo [0, 1, 2, 3, 4] rfl ?_
        exact F
      · replace F := F.2 c6
        refine e_12 (f_151 (pc := 139) (e := (139, 12, 0, 0, 0, 0, 0, 140)) rfl) rfl ?_
        refine e_90r zA (f_151 (pc := 140) (e := (140, 90, 10, 3, 3, 35, 1069, 143)) rfl) rfl (hT 0 rfl) rfl rfl (hR 0 3 rfl) ?_
        refine e_11 (f_151 (pc := 143) (e := (143, 11, 4, 0, 0, 0, 0, 145)) rfl) rfl ?_
        refine e_130 (f_151 (pc := 145) (e := (145, 130, 106, 0, 7, 283, 1130, 148)) rfl) zA (as := [yr (some 67), yi x4]) (rest := []) rfl rfl rfl rfl (Nat.le_of_ble_eq_true rfl) (Nat.le_of_ble_eq_true rfl) ⟨_, _, _, rfl, (hT 67 rfl)⟩ (mc := 0) (ms := 0) hnb hsb ?_
        refine e_K ?_ F
        rintro r h' ⟨r8, I7, rfl, rfl, F⟩
        refine e_12 (f_151 (pc := 148) (e := (148, 12, 2, 0, 0, 0, 0, 149)) rfl) rfl ?_
        refine e_11 (f_151 (pc := 149) (e := (149, 11, 4, 0, 0, 0, 0, 151)) rfl) rfl ?_
        obtain ⟨b9, b10, F⟩ := F
        refine e_110 (f_151 (pc := 151) (e := (151, 110, 0, 0, 0, 0, 0, 152)) rfl) rfl hv1 b9 b10 ?_
        refine e_73 (f_151 (pc := 152) (e := (152, 73, 159, 0, 0, 0, 0, 155)) rfl) (fun c11 => ?_) (fun c11 => ?_)
        · replace F := F.1 c11
          refine e_0 (f_151 (pc := 159) (e := (159, 0, 0, 0, 0, 0, 0, 160)) rfl) (v := 0) rfl ?_
          refine e_21 (f_151 (pc := 160) (e := (160, 21, 5, 0, 0, 0, 0, 162)) rfl) ?_
          refine e_10 (f_151 (pc := 162) (e := (162, 10, 3, 0, 0, 0, 0, 163)) rfl) rfl ?_
          refine e_11 (f_151 (pc := 163) (e := (163, 11, 5, 0, 0, 0, 0, 165)) rfl) rfl ?_
          refine e_60 (f_151 (pc := 165) (e := (165, 60, 172, 0, 0, 0, 0, 168)) rfl) (fun _ => ?_) (fun g => absurd (by decide) g)
          refine e_0 (f_151 (pc := 172) (e := (172, 0, 4294967295, 0, 0, 0, 0, 173)) rfl) (v := (-1)) rfl ?_
          refine e_30 (f_151 (pc := 173) (e := (173, 30, 0, 0, 0, 0, 0, 174)) rfl) ?_
          refine e_20 (f_151 (pc := 174) (e := (174, 20, 3, 0, 0, 0, 0, 175)) rfl) ?_
          refine e_26 (f_151 (pc := 175) (e := (175, 26, 4, 1, 0, 0, 0, 178)) rfl) (w := 1) rfl rfl ?_
          refine e_80 (f_151 (pc := 178) (e := (178, 80, 117, 0, 0, 0, 0, 181)) rfl) ?_
          refine e_lo [0, 1, 2, 3, 4] rfl ?_
          exact F
        · replace F := F.2 c11
          refine e_0 (f_151 (pc := 155) (e := (155, 0, 1, 0, 0, 0, 0, 156)) rfl) (v := 1) rfl ?_
          refine e_80 (f_151 (pc := 156) (e := (156, 80, 160, 0, 0, 0, 0, 159)) rfl) ?_
          refine e_21 (f_151 (pc := 160) (e := (160, 21, 5, 0, 0, 0, 0, 162)) rfl) ?_
          refine e_10 (f_151 (pc := 162) (e := (162, 10, 3, 0, 0, 0, 0, 163)) rfl) rfl ?_
          refine e_11 (f_151 (pc := 163) (e := (163, 11, 5, 0, 0, 0, 0, 165)) rfl) rfl ?_
          refine e_60 (f_151 (pc := 165) (e := (165, 60, 172, 0, 0, 0, 0, 168)) rfl) (fun g => absurd g (by decide)) (fun _ => ?_)
          refine e_0 (f_151 (pc := 168) (e := (168, 0, 1, 0, 0, 0, 0, 169)) rfl) (v := 1) rfl ?_
          refine e_80 (f_151 (pc := 169) (e := (169, 80, 173, 0, 0, 0, 0, 172)) rfl) ?_
          refine e_30 (f_151 (pc := 173) (e := (173, 30, 0, 0, 0, 0, 0, 174)) rfl) ?_
          refine e_20 (f_151 (pc := 174) (e := (174, 20, 3, 0, 0, 0, 0, 175)) rfl) ?_
          refine e_26 (f_151 (pc := 175) (e := (175, 26, 4, 1, 0, 0, 0, 178)) rfl) (w := 1) rfl rfl ?_
          refine e_80 (f_151 (pc := 178) (e := (178, 80, 117, 0, 0, 0, 0, 181)) rfl) ?_
          refine e_lo [0, 1, 2, 3, 4] rfl ?_
          exact F
/-! ChairAlley$Untier.makeRows(I)V -/
set_option maxRecDepth 20000 in
theorem Bd_74_0 (hT : yLT T) (hR : yLR R) (hnb : nc ≤ bc) (hsb : nl ≤ bs) (h126 : 126 ≤ N) {vs ns : Nat} (hvs : R 91 9 = some vs) (hTvs : T vs = (0, ns)) (hns : ns < 2147483648) {vq nq : Nat} (hvq : R 91 10 = some vq) (hTvq : T vq = (1, nq)) (hnq : nq < 2147483648) {vt nt : Nat} (hvt : R 91 12 = some vt) (hTvt : T vt = (1, nt)) (hnt : nt < 2147483648) {x1 : Int} (F : (x1 ≤ (ns : Int) → yW l zSS D cy zFk z d 74 bc bs K nc nl 23 [(0, yr (some 91)), (1, yi x1)] [] (N, T, R, I)) ∧ (¬ (x1 ≤ (ns : Int)) → ∃ n9 : Nat, x1 = (n9 : Int) ∧ n9 ≤ 65536 ∧ nc + 1 ≤ bc ∧ nl + n9 ≤ bs ∧ (∀ T2 R3 I4, T2 = yNT T N 0 n9 → R3 = yNR R N → I4 = yNI I N → (∀ R12, R12 = yUR R3 91 9 (some N) → (∃ n21 : Nat, x1 = (n21 : Int) ∧ n21 ≤ 65536 ∧ nc + 1 + 1 ≤ bc ∧ nl + n9 + n21 ≤ bs ∧ (∀ T14 R15 I16, T14 = yNT T2 (N + 1) 1 n21 → R15 = yNR R12 (N + 1) → I16 = yNI I4 (N + 1) → (∀ R24, R24 = yUR R15 91 10 (some (N + 1)) → (yW l zSS D cy zFk z d 74 bc bs K (nc + 1 + 1) (nl + n9 + n21) 23 [(0, yr (some 91)), (1, yi x1)] [] (((N + 1) + 1), T14, R24, I16))))))))) :
    yW l zSS D cy zFk z d 74 bc bs K nc nl 0 [(0, yr (some 91)), (1, yi x1)] [] (N, T, R, I) := by
  refine e_10 (f_74 (pc := 0) (e := (0, 10, 1, 0, 0, 0, 0, 1)) rfl) rfl ?_
  refine e_12 (f_74 (pc := 1) (e := (1, 12, 0, 0, 0, 0, 0, 2)) rfl) rfl ?_
  refine e_90r zA (f_74 (pc := 2) (e := (2, 90, 6, 9, 3, 30, 945, 5)) rfl) rfl (hT 91 rfl) rfl rfl hvs ?_
  refine e_103 (f_74 (pc := 5) (e := (5, 103, 0, 0, 0, 0, 0, 6)) rfl) rfl hTvs (by decide) hns ?_
  refine e_75 (f_74 (pc := 6) (e := (6, 75, 23, 0, 0, 0, 0, 9)) rfl) (fun c1 => ?_) (fun c1 => ?_)
  · replace F := F.1 c1
    refine e_lo [0, 1] rfl ?_
    exact F
  · replace F := F.2 c1
    refine e_12 (f_74 (pc := 9) (e := (9, 12, 0, 0, 0, 0, 0, 10)) rfl) rfl ?_
    refine e_10 (f_74 (pc := 10) (e := (10, 10, 1, 0, 0, 0, 0, 11)) rfl) rfl ?_
    obtain ⟨n9, e10, e11, e7, e8, F⟩ := F
    refine e_101 (f_74 (pc := 11) (e := (11, 101, 0, 0, 0, 0, 0, 13)) rfl) zA (n := n9) e10 e11 e7 e8 ?_
    replace F := F _ _ _ rfl rfl rfl
    show yW l zSS D cy zFk z _ 74 bc bs K _ _ _ _ _ (N + 1, yNT _ N 0 n9, yNR _ N, yNI _ N)
    have hT5 := yLT_nw (c := 0) (n := n9) (show 126 ≤ N by omega) hT
    have hR6 := yLR_nw (show 126 ≤ N by omega) hR
    refine e_91 zA (f_74 (pc := 13) (e := (13, 91, 6, 9, 3, 30, 945, 16)) rfl) rfl (hT5 91 rfl) rfl rfl trivial ?_
    replace F := F _ rfl
    show yW l zSS D cy zFk z _ 74 bc bs K _ _ _ _ _ (_, _, yUR _ 91 9 _, _)
    have hR13 := yLR_up (k := 91) (j := 9) (r := some N) rfl hR6
    refine e_12 (f_74 (pc := 16) (e := (16, 12, 0, 0, 0, 0, 0, 17)) rfl) rfl ?_
    refine e_10 (f_74 (pc := 17) (e := (17, 10, 1, 0, 0, 0, 0, 18)) rfl) rfl ?_
    obtain ⟨n21, e22, e23, e19, e20, F⟩ := F
    refine e_101 (f_74 (pc := 18) (e := (18, 101, 1, 0, 0, 0, 0, 20)) rfl) zA (n := n21) e22 e23 e19 e20 ?_
    replace F := F _ _ _ rfl rfl rfl
    show yW l zSS D cy zFk z _ 74 bc bs K _ _ _ _ _ ((N + 1) + 1, yNT _ (N + 1) 1 n21, yNR _ (N + 1), yNI _ (N + 1))
    have hT17 := yLT_nw (c := 1) (n := n21) (show 126 ≤ (N + 1) by omega) hT5
    have hR18 := yLR_nw (show 126 ≤ (N + 1) by omega) hR13
    refine e_91 zA (f_74 (pc := 20) (e := (20, 91, 6, 10, 3, 34, 946, 23)) rfl) rfl (hT17 91 rfl) rfl rfl trivial ?_
    replace F := F _ rfl
    show yW l zSS D cy zFk z _ 74 bc bs K _ _ _ _ _ (_, _, yUR _ 91 10 _, _)
    have hR25 := yLR_up (k := 91) (j := 10) (r := some (N + 1)) rfl hR18
    refine e_lo [0, 1] rfl ?_
    exact F
set_option maxRecDepth 20000 in
theorem Bd_74_23 (hT : yLT T) (hR : yLR R) (hnb : nc ≤ bc) (hsb : nl ≤ bs) {vs ns : Nat} (hvs : R 91 9 = some vs) (hTvs : T vs = (0, ns)) (hns : ns < 2147483648) {vq nq : Nat} (hvq : R 91 10 = some vq) (hTvq : T vq = (1, nq)) (hnq : nq < 2147483648) {vt nt : Nat} (hvt : R 91 12 = some vt) (hTvt : T vt = (1, nt)) (hnt : nt < 2147483648) {x1 : Int} (F : yW l zSS D cy zFk z d 74 bc bs K nc nl 25 [(0, yr (some 91)), (1, yi x1), (2, yi 0)] [] (N, T, R, I)) :
    yW l zSS D cy zFk z d 74 bc bs K nc nl 23 [(0, yr (some 91)), (1, yi x1)] [] (N, T, R, I) := by
  refine e_0 (f_74 (pc := 23) (e := (23, 0, 0, 0, 0, 0, 0, 24)) rfl) (v := 0) rfl ?_
  refine e_20 (f_74 (pc := 24) (e := (24, 20, 2, 0, 0, 0, 0, 25)) rfl) ?_
  refine e_lo [0, 1, 2] rfl ?_
  exact F
set_option maxRecDepth 20000 in
theorem Bd_74_25 (hT : yLT T) (hR : yLR R) (hnb : nc ≤ bc) (hsb : nl ≤ bs) {vs ns : Nat} (hvs : R 91 9 = some vs) (hTvs : T vs = (0, ns)) (hns : ns < 2147483648) {vq nq : Nat} (hvq : R 91 10 = some vq) (hTvq : T vq = (1, nq)) (hnq : nq < 2147483648) {vt nt : Nat} (hvt : R 91 12 = some vt) (hTvt : T vt = (1, nt)) (hnt : nt < 2147483648) {x1 x2 : Int} (F : (x1 ≤ x2 → K none (N, T, R, I)) ∧ (¬ (x1 ≤ x2) → ((ns : Int) ≤ x2 → K none (N, T, R, I)) ∧ (¬ ((ns : Int) ≤ x2) → 0 ≤ x2 ∧ x2 < (ns : Int) ∧ (∀ I5, I5 = yU I vs x2.toNat (ynar 0 0) → (yW l zSS D cy zFk z d 74 bc bs K nc nl 25 [(0, yr (some 91)), (1, yi x1), (2, yi (yadd x2 1))] [] (N, T, R, I5)))))) :
    yW l zSS D cy zFk z d 74 bc bs K nc nl 25 [(0, yr (some 91)), (1, yi x1), (2, yi x2)] [] (N, T, R, I) := by
  refine e_10 (f_74 (pc := 25) (e := (25, 10, 2, 0, 0, 0, 0, 26)) rfl) rfl ?_
  refine e_10 (f_74 (pc := 26) (e := (26, 10, 1, 0, 0, 0, 0, 27)) rfl) rfl ?_
  refine e_73 (f_74 (pc := 27) (e := (27, 73, 52, 0, 0, 0, 0, 30)) rfl) (fun c1 => ?_) (fun c1 => ?_)
  · replace F := F.1 c1
    exact e_122 (f_74 (pc := 52) (e := (52, 122, 0, 0, 0, 0, 0, 0)) rfl) F
  · replace F := F.2 c1
    refine e_10 (f_74 (pc := 30) (e := (30, 10, 2, 0, 0, 0, 0, 31)) rfl) rfl ?_
    refine e_12 (f_74 (pc := 31) (e := (31, 12, 0, 0, 0, 0, 0, 32)) rfl) rfl ?_
    refine e_90r zA (f_74 (pc := 32) (e := (32, 90, 6, 9, 3, 30, 945, 35)) rfl) rfl (hT 91 rfl) rfl rfl hvs ?_
    refine e_103 (f_74 (pc := 35) (e := (35, 103, 0, 0, 0, 0, 0, 36)) rfl) rfl hTvs (by decide) hns ?_
    refine e_73 (f_74 (pc := 36) (e := (36, 73, 52, 0, 0, 0, 0, 39)) rfl) (fun c2 => ?_) (fun c2 => ?_)
    · replace F := F.1 c2
      exact e_122 (f_74 (pc := 52) (e := (52, 122, 0, 0, 0, 0, 0, 0)) rfl) F
    · replace F := F.2 c2
      refine e_12 (f_74 (pc := 39) (e := (39, 12, 0, 0, 0, 0, 0, 40)) rfl) rfl ?_
      refine e_90r zA (f_74 (pc := 40) (e := (40, 90, 6, 9, 3, 30, 945, 43)) rfl) rfl (hT 91 rfl) rfl rfl hvs ?_
      refine e_10 (f_74 (pc := 43) (e := (43, 10, 2, 0, 0, 0, 0, 44)) rfl) rfl ?_
      refine e_0 (f_74 (pc := 44) (e := (44, 0, 0, 0, 0, 0, 0, 45)) rfl) (v := 0) rfl ?_
      obtain ⟨b3, b4, F⟩ := F
      refine e_113 (f_74 (pc := 45) (e := (45, 113, 0, 0, 0, 0, 0, 46)) rfl) rfl hTvs b3 b4 (.inl rfl) ?_
      replace F := F _ rfl
      refine e_26 (f_74 (pc := 46) (e := (46, 26, 2, 1, 0, 0, 0, 49)) rfl) (w := 1) rfl rfl ?_
      refine e_80 (f_74 (pc := 49) (e := (49, 80, 25, 0, 0, 0, 0, 52)) rfl) ?_
      refine e_lo [0, 1, 2] rfl ?_
      exact F
/-! ChairAlley$Untier.tellSteps(II)V -/
set_option maxRecDepth 20000 in
theorem Bd_82_0 (hT : yLT T) (hR : yLR R) (hnb : nc ≤ bc) (hsb : nl ≤ bs) {vs ns : Nat} (hvs : R 91 9 = some vs) (hTvs : T vs = (0, ns)) (hns : ns < 2147483648) {vq nq : Nat} (hvq : R 91 10 = some vq) (hTvq : T vq = (1, nq)) (hnq : nq < 2147483648) {vt nt : Nat} (hvt : R 91 12 = some vt) (hTvt : T vt = (1, nt)) (hnt : nt < 2147483648) {x1 x2 : Int} (F : ∀ I1, I1 = yU I 91 13 0 → (yW l zSS D cy zFk z d 82 bc bs K nc nl 7 [(0, yr (some 91)), (1, yi x1), (2, yi x2), (3, yi x2)] [] (N, T, R, I1))) :
    yW l zSS D cy zFk z d 82 bc bs K nc nl 0 [(0, yr (some 91)), (1, yi x1), (2, yi x2)] [] (N, T, R, I) := by
  refine e_12 (f_82 (pc := 0) (e := (0, 12, 0, 0, 0, 0, 0, 1)) rfl) rfl ?_
  refine e_0 (f_82 (pc := 1) (e := (1, 0, 0, 0, 0, 0, 0, 2)) rfl) (v := 0) rfl ?_
  refine e_91 zA (f_82 (pc := 2) (e := (2, 91, 6, 13, 0, 84, 974, 5)) rfl) rfl (hT 91 rfl) rfl rfl trivial ?_
  replace F := F _ rfl
  refine e_10 (f_82 (pc := 5) (e := (5, 10, 2, 0, 0, 0, 0, 6)) rfl) rfl ?_
  refine e_20 (f_82 (pc := 6) (e := (6, 20, 3, 0, 0, 0, 0, 7)) rfl) ?_
  refine e_lo [0, 1, 2, 3] rfl ?_
  exact F
set_option maxRecDepth 20000 in
theorem Bd_82_7 (hT : yLT T) (hR : yLR R) (hnb : nc ≤ bc) (hsb : nl ≤ bs) {vs ns : Nat} (hvs : R 91 9 = some vs) (hTvs : T vs = (0, ns)) (hns : ns < 2147483648) {vq nq : Nat} (hvq : R 91 10 = some vq) (hTvq : T vq = (1, nq)) (hnq : nq < 2147483648) {vt nt : Nat} (hvt : R 91 12 = some vt) (hTvt : T vt = (1, nt)) (hnt : nt < 2147483648) {x1 x2 x3 : Int} (F : (x3 = x1 → yW l zSS D cy zFk z (d + 1) 82 bc bs K nc nl 43 [(0, yr (some 91)), (2, yi x2)] [] (N, T, R, I)) ∧ (¬ (x3 = x1) → ((ns : Int) ≤ (I 91 13) → yW l zSS D cy zFk z (d + 1) 82 bc bs K nc nl 43 [(0, yr (some 91)), (2, yi x2)] [] (N, T, R, I)) ∧ (¬ ((ns : Int) ≤ (I 91 13)) → ∀ I3, I3 = yU I 91 13 (yadd (I 91 13) 1) → (yW l zSS D cy zFk z d 71 0 0 (fun r h' => ∃ r5 I4, r = some (yi r5) ∧ h' = (N, T, R, I4) ∧ (yW l zSS D cy zFk z (d + 1) 82 bc bs K nc nl 7 [(0, yr (some 91)), (1, yi x1), (2, yi x2), (3, yi r5)] [] (N, T, R, I4))) 0 0 0 [(0, yr (some 91)), (1, yi x3)] [] (N, T, R, I3))))) :
    yW l zSS D cy zFk z (d + 1) 82 bc bs K nc nl 7 [(0, yr (some 91)), (1, yi x1), (2, yi x2), (3, yi x3)] [] (N, T, R, I) := by
  refine e_10 (f_82 (pc := 7) (e := (7, 10, 3, 0, 0, 0, 0, 8)) rfl) rfl ?_
  refine e_10 (f_82 (pc := 8) (e := (8, 10, 1, 0, 0, 0, 0, 9)) rfl) rfl ?_
  refine e_70 (f_82 (pc := 9) (e := (9, 70, 43, 0, 0, 0, 0, 12)) rfl) (fun c1 => ?_) (fun c1 => ?_)
  · replace F := F.1 c1
    refine e_lo [0, 2] rfl ?_
    exact F
  · replace F := F.2 c1
    refine e_12 (f_82 (pc := 12) (e := (12, 12, 0, 0, 0, 0, 0, 13)) rfl) rfl ?_
    refine e_90 zA (f_82 (pc := 13) (e := (13, 90, 6, 13, 0, 84, 974, 16)) rfl) rfl (hT 91 rfl) rfl rfl ?_
    refine e_12 (f_82 (pc := 16) (e := (16, 12, 0, 0, 0, 0, 0, 17)) rfl) rfl ?_
    refine e_90r zA (f_82 (pc := 17) (e := (17, 90, 6, 9, 3, 30, 945, 20)) rfl) rfl (hT 91 rfl) rfl rfl hvs ?_
    refine e_103 (f_82 (pc := 20) (e := (20, 103, 0, 0, 0, 0, 0, 21)) rfl) rfl hTvs (by decide) hns ?_
    refine e_73 (f_82 (pc := 21) (e := (21, 73, 43, 0, 0, 0, 0, 24)) rfl) (fun c2 => ?_) (fun c2 => ?_)
    · replace F := F.1 c2
      refine e_lo [0, 2] rfl ?_
      exact F
    · replace F := F.2 c2
      refine e_12 (f_82 (pc := 24) (e := (24, 12, 0, 0, 0, 0, 0, 25)) rfl) rfl ?_
      refine e_50 (f_82 (pc := 25) (e := (25, 50, 0, 0, 0, 0, 0, 26)) rfl) rfl ?_
      refine e_90 zA (f_82 (pc := 26) (e := (26, 90, 6, 13, 0, 84, 974, 29)) rfl) rfl (hT 91 rfl) rfl rfl ?_
      refine e_0 (f_82 (pc := 29) (e := (29, 0, 1, 0, 0, 0, 0, 30)) rfl) (v := 1) rfl ?_
      refine e_30 (f_82 (pc := 30) (e := (30, 30, 0, 0, 0, 0, 0, 31)) rfl) ?_
      refine e_91 zA (f_82 (pc := 31) (e := (31, 91, 6, 13, 0, 84, 974, 34)) rfl) rfl (hT 91 rfl) rfl rfl trivial ?_
      replace F := F _ rfl
      refine e_12 (f_82 (pc := 34) (e := (34, 12, 0, 0, 0, 0, 0, 35)) rfl) rfl ?_
      refine e_10 (f_82 (pc := 35) (e := (35, 10, 3, 0, 0, 0, 0, 36)) rfl) rfl ?_
      refine e_130 (f_82 (pc := 36) (e := (36, 130, 71, 0, 6, 126, 975, 39)) rfl) zA (as := [yr (some 91), yi x3]) (rest := []) rfl rfl rfl rfl (Nat.le_of_ble_eq_true rfl) (Nat.le_of_ble_eq_true rfl) ⟨_, _, _, rfl, (hT 91 rfl)⟩ (mc := 0) (ms := 0) hnb hsb ?_
      refine e_K ?_ F
      rintro r h' ⟨r5, I4, rfl, rfl, F⟩
      refine e_20 (f_82 (pc := 39) (e := (39, 20, 3, 0, 0, 0, 0, 40)) rfl) ?_
      refine e_80 (f_82 (pc := 40) (e := (40, 80, 7, 0, 0, 0, 0, 43)) rfl) ?_
      refine e_lo [0, 1, 2, 3] rfl ?_
      exact F
set_option maxRecDepth 20000 in
theorem Bd_82_43 (hT : yLT T) (hR : yLR R) (hnb : nc ≤ bc) (hsb : nl ≤ bs) (h126 : 126 ≤ N) {vs ns : Nat} (hvs : R 91 9 = some vs) (hTvs : T vs = (0, ns)) (hns : ns < 2147483648) {vq nq : Nat} (hvq : R 91 10 = some vq) (hTvq : T vq = (1, nq)) (hnq : nq < 2147483648) {vt nt : Nat} (hvt : R 91 12 = some vt) (hTvt : T vt = (1, nt)) (hnt : nt < 2147483648) {x2 : Int} (F : ((I 91 13) ≤ (nt : Int) → yW l zSS D cy zFk z d 82 bc bs K nc nl 65 [(0, yr (some 91)), (2, yi x2)] [] (N, T, R, I)) ∧ (¬ ((I 91 13) ≤ (nt : Int)) → ∃ n9 : Nat, (I 91 13) = (n9 : Int) ∧ n9 ≤ 65536 ∧ nc + 1 ≤ bc ∧ nl + n9 ≤ bs ∧ (∀ T2 R3 I4, T2 = yNT T N 1 n9 → R3 = yNR R N → I4 = yNI I N → (∀ R12, R12 = yUR R3 91 12 (some N) → (yW l zSS D cy zFk z d 82 bc bs K (nc + 1) (nl + n9) 65 [(0, yr (some 91)), (2, yi x2)] [] ((N + 1), T2, R12, I4)))))) :
    yW l zSS D cy zFk z d 82 bc bs K nc nl 43 [(0, yr (some 91)), (2, yi x2)] [] (N, T, R, I) := by
  refine e_12 (f_82 (pc := 43) (e := (43, 12, 0, 0, 0, 0, 0, 44)) rfl) rfl ?_
  refine e_90 zA (f_82 (pc := 44) (e := (44, 90, 6, 13, 0, 84, 974, 47)) rfl) rfl (hT 91 rfl) rfl rfl ?_
  refine e_12 (f_82 (pc := 47) (e := (47, 12, 0, 0, 0, 0, 0, 48)) rfl) rfl ?_
  refine e_90r zA (f_82 (pc := 48) (e := (48, 90, 6, 12, 3, 37, 947, 51)) rfl) rfl (hT 91 rfl) rfl rfl hvt ?_
  refine e_103 (f_82 (pc := 51) (e := (51, 103, 0, 0, 0, 0, 0, 52)) rfl) rfl hTvt (by decide) hnt ?_
  refine e_75 (f_82 (pc := 52) (e := (52, 75, 65, 0, 0, 0, 0, 55)) rfl) (fun c1 => ?_) (fun c1 => ?_)
  · replace F := F.1 c1
    refine e_lo [0, 2] rfl ?_
    exact F
  · replace F := F.2 c1
    refine e_12 (f_82 (pc := 55) (e := (55, 12, 0, 0, 0, 0, 0, 56)) rfl) rfl ?_
    refine e_12 (f_82 (pc := 56) (e := (56, 12, 0, 0, 0, 0, 0, 57)) rfl) rfl ?_
    refine e_90 zA (f_82 (pc := 57) (e := (57, 90, 6, 13, 0, 84, 974, 60)) rfl) rfl (hT 91 rfl) rfl rfl ?_
    obtain ⟨n9, e10, e11, e7, e8, F⟩ := F
    refine e_101 (f_82 (pc := 60) (e := (60, 101, 1, 0, 0, 0, 0, 62)) rfl) zA (n := n9) e10 e11 e7 e8 ?_
    replace F := F _ _ _ rfl rfl rfl
    show yW l zSS D cy zFk z _ 82 bc bs K _ _ _ _ _ (N + 1, yNT _ N 1 n9, yNR _ N, yNI _ N)
    have hT5 := yLT_nw (c := 1) (n := n9) (show 126 ≤ N by omega) hT
    have hR6 := yLR_nw (show 126 ≤ N by omega) hR
    refine e_91 zA (f_82 (pc := 62) (e := (62, 91, 6, 12, 3, 37, 947, 65)) rfl) rfl (hT5 91 rfl) rfl rfl trivial ?_
    replace F := F _ rfl
    show yW l zSS D cy zFk z _ 82 bc bs K _ _ _ _ _ (_, _, yUR _ 91 12 _, _)
    have hR13 := yLR_up (k := 91) (j := 12) (r := some N) rfl hR6
    refine e_lo [0, 2] rfl ?_
    exact F
set_option maxRecDepth 20000 in
theorem Bd_82_65 (hT : yLT T) (hR : yLR R) (hnb : nc ≤ bc) (hsb : nl ≤ bs) {vs ns : Nat} (hvs : R 91 9 = some vs) (hTvs : T vs = (0, ns)) (hns : ns < 2147483648) {vq nq : Nat} (hvq : R 91 10 = some vq) (hTvq : T vq = (1, nq)) (hnq : nq < 2147483648) {vt nt : Nat} (hvt : R 91 12 = some vt) (hTvt : T vt = (1, nt)) (hnt : nt < 2147483648) {x2 : Int} (F : yW l zSS D cy zFk z d 82 bc bs K nc nl 75 [(0, yr (some 91)), (3, yi x2), (4, yi (ysub (I 91 13) 1))] [] (N, T, R, I)) :
    yW l zSS D cy zFk z d 82 bc bs K nc nl 65 [(0, yr (some 91)), (2, yi x2)] [] (N, T, R, I) := by
  refine e_10 (f_82 (pc := 65) (e := (65, 10, 2, 0, 0, 0, 0, 66)) rfl) rfl ?_
  refine e_20 (f_82 (pc := 66) (e := (66, 20, 3, 0, 0, 0, 0, 67)) rfl) ?_
  refine e_12 (f_82 (pc := 67) (e := (67, 12, 0, 0, 0, 0, 0, 68)) rfl) rfl ?_
  refine e_90 zA (f_82 (pc := 68) (e := (68, 90, 6, 13, 0, 84, 974, 71)) rfl) rfl (hT 91 rfl) rfl rfl ?_
  refine e_0 (f_82 (pc := 71) (e := (71, 0, 1, 0, 0, 0, 0, 72)) rfl) (v := 1) rfl ?_
  refine e_31 (f_82 (pc := 72) (e := (72, 31, 0, 0, 0, 0, 0, 73)) rfl) ?_
  refine e_21 (f_82 (pc := 73) (e := (73, 21, 4, 0, 0, 0, 0, 75)) rfl) ?_
  refine e_lo [0, 3, 4] rfl ?_
  exact F
set_option maxRecDepth 20000 in
theorem Bd_82_75 (hT : yLT T) (hR : yLR R) (hnb : nc ≤ bc) (hsb : nl ≤ bs) {vs ns : Nat} (hvs : R 91 9 = some vs) (hTvs : T vs = (0, ns)) (hns : ns < 2147483648) {vq nq : Nat} (hvq : R 91 10 = some vq) (hTvq : T vq = (1, nq)) (hnq : nq < 2147483648) {vt nt : Nat} (hvt : R 91 12 = some vt) (hTvt : T vt = (1, nt)) (hnt : nt < 2147483648) {x3 x4 : Int} (F : (x4 < 0 → K none (N, T, R, I)) ∧ (¬ (x4 < 0) → ((nt : Int) ≤ x4 → K none (N, T, R, I)) ∧ (¬ ((nt : Int) ≤ x4) → yW l zSS D cy zFk z d 81 0 0 (fun r h' => ∃ r4 I3, r = some (yi r4) ∧ h' = (N, T, R, I3) ∧ ((3 ≤ (ydiv r4 4) → 0 ≤ x4 ∧ x4 < (nt : Int) ∧ (∀ I8, I8 = yU I3 vt x4.toNat (ynar 1 (-1)) → (yW l zSS D cy zFk z d 71 0 0 (fun r h' => ∃ r10 I9, r = some (yi r10) ∧ h' = (N, T, R, I9) ∧ (yW l zSS D cy zFk z (d + 1) 82 bc bs K nc nl 75 [(0, yr (some 91)), (3, yi r10), (4, yi (yadd x4 (-1)))] [] (N, T, R, I9))) 0 0 0 [(0, yr (some 91)), (1, yi x3)] [] (N, T, R, I8)))) ∧ (¬ (3 ≤ (ydiv r4 4)) → 0 ≤ (ydiv r4 4) ∧ (ydiv r4 4) < 3 ∧ (0 ≤ x4 ∧ x4 < (nt : Int) ∧ (∀ I15, I15 = yU I3 vt x4.toNat (ynar 1 (yadd (ymul 4 (I3 92 (ydiv r4 4).toNat)) (yrem r4 4))) → (yW l zSS D cy zFk z d 71 0 0 (fun r h' => ∃ r17 I16, r = some (yi r17) ∧ h' = (N, T, R, I16) ∧ (yW l zSS D cy zFk z (d + 1) 82 bc bs K nc nl 75 [(0, yr (some 91)), (3, yi r17), (4, yi (yadd x4 (-1)))] [] (N, T, R, I16))) 0 0 0 [(0, yr (some 91)), (1, yi x3)] [] (N, T, R, I15))))))) 0 0 0 [(0, yr (some 91)), (1, yi x3)] [] (N, T, R, I)))) :
    yW l zSS D cy zFk z (d + 1) 82 bc bs K nc nl 75 [(0, yr (some 91)), (3, yi x3), (4, yi x4)] [] (N, T, R, I) := by
  refine e_11 (f_82 (pc := 75) (e := (75, 11, 4, 0, 0, 0, 0, 77)) rfl) rfl ?_
  refine e_62 (f_82 (pc := 77) (e := (77, 62, 146, 0, 0, 0, 0, 80)) rfl) (fun c1 => ?_) (fun c1 => ?_)
  · replace F := F.1 c1
    exact e_122 (f_82 (pc := 146) (e := (146, 122, 0, 0, 0, 0, 0, 0)) rfl) F
  · replace F := F.2 c1
    refine e_11 (f_82 (pc := 80) (e := (80, 11, 4, 0, 0, 0, 0, 82)) rfl) rfl ?_
    refine e_12 (f_82 (pc := 82) (e := (82, 12, 0, 0, 0, 0, 0, 83)) rfl) rfl ?_
    refine e_90r zA (f_82 (pc := 83) (e := (83, 90, 6, 12, 3, 37, 947, 86)) rfl) rfl (hT 91 rfl) rfl rfl hvt ?_
    refine e_103 (f_82 (pc := 86) (e := (86, 103, 0, 0, 0, 0, 0, 87)) rfl) rfl hTvt (by decide) hnt ?_
    refine e_73 (f_82 (pc := 87) (e := (87, 73, 146, 0, 0, 0, 0, 90)) rfl) (fun c2 => ?_) (fun c2 => ?_)
    · replace F := F.1 c2
      exact e_122 (f_82 (pc := 146) (e := (146, 122, 0, 0, 0, 0, 0, 0)) rfl) F
    · replace F := F.2 c2
      refine e_12 (f_82 (pc := 90) (e := (90, 12, 0, 0, 0, 0, 0, 91)) rfl) rfl ?_
      refine e_10 (f_82 (pc := 91) (e := (91, 10, 3, 0, 0, 0, 0, 92)) rfl) rfl ?_
      refine e_130 (f_82 (pc := 92) (e := (92, 130, 81, 0, 6, 129, 953, 95)) rfl) zA (as := [yr (some 91), yi x3]) (rest := []) rfl rfl rfl rfl (Nat.le_of_ble_eq_true rfl) (Nat.le_of_ble_eq_true rfl) ⟨_, _, _, rfl, (hT 91 rfl)⟩ (mc := 0) (ms := 0) hnb hsb ?_
      refine e_K ?_ F
      rintro r h' ⟨r4, I3, rfl, rfl, F⟩
      refine e_21 (f_82 (pc := 95) (e := (95, 21, 5, 0, 0, 0, 0, 97)) rfl) ?_
      refine e_11 (f_82 (pc := 97) (e := (97, 11, 5, 0, 0, 0, 0, 99)) rfl) rfl ?_
      refine e_0 (f_82 (pc := 99) (e := (99, 0, 4, 0, 0, 0, 0, 100)) rfl) (v := 4) rfl ?_
      refine e_33 (f_82 (pc := 100) (e := (100, 33, 0, 0, 0, 0, 0, 101)) rfl) (by decide) ?_
      refine e_21 (f_82 (pc := 101) (e := (101, 21, 6, 0, 0, 0, 0, 103)) rfl) ?_
      refine e_12 (f_82 (pc := 103) (e := (103, 12, 0, 0, 0, 0, 0, 104)) rfl) rfl ?_
      refine e_90r zA (f_82 (pc := 104) (e := (104, 90, 6, 12, 3, 37, 947, 107)) rfl) rfl (hT 91 rfl) rfl rfl hvt ?_
      refine e_11 (f_82 (pc := 107) (e := (107, 11, 4, 0, 0, 0, 0, 109)) rfl) rfl ?_
      refine e_11 (f_82 (pc := 109) (e := (109, 11, 6, 0, 0, 0, 0, 111)) rfl) rfl ?_
      refine e_0 (f_82 (pc := 111) (e := (111, 0, 3, 0, 0, 0, 0, 112)) rfl) (v := 3) rfl ?_
      refine e_73 (f_82 (pc := 112) (e := (112, 73, 132, 0, 0, 0, 0, 115)) rfl) (fun c5 => ?_) (fun c5 => ?_)
      · replace F := F.1 c5
        refine e_0 (f_82 (pc := 132) (e := (132, 0, 4294967295, 0, 0, 0, 0, 133)) rfl) (v := (-1)) rfl ?_
        obtain ⟨b6, b7, F⟩ := F
        refine e_111 (f_82 (pc := 133) (e := (133, 111, 0, 0, 0, 0, 0, 134)) rfl) rfl hTvt b6 b7 ?_
        replace F := F _ rfl
        refine e_12 (f_82 (pc := 134) (e := (134, 12, 0, 0, 0, 0, 0, 135)) rfl) rfl ?_
        refine e_10 (f_82 (pc := 135) (e := (135, 10, 3, 0, 0, 0, 0, 136)) rfl) rfl ?_
        refine e_130 (f_82 (pc := 136) (e := (136, 130, 71, 0, 6, 126, 975, 139)) rfl) zA (as := [yr (some 91), yi x3]) (rest := []) rfl rfl rfl rfl (Nat.le_of_ble_eq_true rfl) (Nat.le_of_ble_eq_true rfl) ⟨_, _, _, rfl, (hT 91 rfl)⟩ (mc := 0) (ms := 0) hnb hsb ?_
        refine e_K ?_ F
        rintro r h' ⟨r10, I9, rfl, rfl, F⟩
        refine e_20 (f_82 (pc := 139) (e := (139, 20, 3, 0, 0, 0, 0, 140)) rfl) ?_
        refine e_26 (f_82 (pc := 140) (e := (140, 26, 4, 4294967295, 0, 0, 0, 143)) rfl) (w := (-1)) rfl rfl ?_
        refine e_80 (f_82 (pc := 143) (e := (143, 80, 75, 0, 0, 0, 0, 146)) rfl) ?_
        refine e_lo [0, 3, 4] rfl ?_
        exact F
      · replace F := F.2 c5
        refine e_0 (f_82 (pc := 115) (e := (115, 0, 4, 0, 0, 0, 0, 116)) rfl) (v := 4) rfl ?_
        refine e_12 (f_82 (pc := 116) (e := (116, 12, 0, 0, 0, 0, 0, 117)) rfl) rfl ?_
        refine e_90r zA (f_82 (pc := 117) (e := (117, 90, 6, 3, 3, 11, 939, 120)) rfl) rfl (hT 91 rfl) rfl rfl (hR 91 3 rfl) ?_
        refine e_11 (f_82 (pc := 120) (e := (120, 11, 6, 0, 0, 0, 0, 122)) rfl) rfl ?_
        obtain ⟨b11, b12, F⟩ := F
        refine e_110 (f_82 (pc := 122) (e := (122, 110, 0, 0, 0, 0, 0, 123)) rfl) rfl (hT 92 rfl) b11 b12 ?_
        refine e_32 (f_82 (pc := 123) (e := (123, 32, 0, 0, 0, 0, 0, 124)) rfl) ?_
        refine e_11 (f_82 (pc := 124) (e := (124, 11, 5, 0, 0, 0, 0, 126)) rfl) rfl ?_
        refine e_0 (f_82 (pc := 126) (e := (126, 0, 4, 0, 0, 0, 0, 127)) rfl) (v := 4) rfl ?_
        refine e_34 (f_82 (pc := 127) (e := (127, 34, 0, 0, 0, 0, 0, 128)) rfl) (by decide) ?_
        refine e_30 (f_82 (pc := 128) (e := (128, 30, 0, 0, 0, 0, 0, 129)) rfl) ?_
        refine e_80 (f_82 (pc := 129) (e := (129, 80, 133, 0, 0, 0, 0, 132)) rfl) ?_
        obtain ⟨b13, b14, F⟩ := F
        refine e_111 (f_82 (pc := 133) (e := (133, 111, 0, 0, 0, 0, 0, 134)) rfl) rfl hTvt b13 b14 ?_
        replace F := F _ rfl
        refine e_12 (f_82 (pc := 134) (e := (134, 12, 0, 0, 0, 0, 0, 135)) rfl) rfl ?_
        refine e_10 (f_82 (pc := 135) (e := (135, 10, 3, 0, 0, 0, 0, 136)) rfl) rfl ?_
        refine e_130 (f_82 (pc := 136) (e := (136, 130, 71, 0, 6, 126, 975, 139)) rfl) zA (as := [yr (some 91), yi x3]) (rest := []) rfl rfl rfl rfl (Nat.le_of_ble_eq_true rfl) (Nat.le_of_ble_eq_true rfl) ⟨_, _, _, rfl, (hT 91 rfl)⟩ (mc := 0) (ms := 0) hnb hsb ?_
        refine e_K ?_ F
        rintro r h' ⟨r17, I16, rfl, rfl, F⟩
        refine e_20 (f_82 (pc := 139) (e := (139, 20, 3, 0, 0, 0, 0, 140)) rfl) ?_
        refine e_26 (f_82 (pc := 140) (e := (140, 26, 4, 4294967295, 0, 0, 0, 143)) rfl) (w := (-1)) rfl rfl ?_
        refine e_80 (f_82 (pc := 143) (e := (143, 80, 75, 0, 0, 0, 0, 146)) rfl) ?_
        refine e_lo [0, 3, 4] rfl ?_
        exact F
/-! ChairAlley$Untier.solve(LChairAlley$Land;LChairAlley$State;)I -/
set_option maxRecDepth 20000 in
theorem Bd_78_0 (hT : yLT T) (hR : yLR R) (hnb : nc ≤ bc) (hsb : nl ≤ bs) {e1 f1 e2 f2 : Nat} (hb1 : nc + e1 + e2 ≤ bc) (hb2 : nl + f1 + f2 ≤ bs) {vs ns : Nat} (hvs : R 91 9 = some vs) (hTvs : T vs = (0, ns)) (hns : ns < 2147483648) {vq nq : Nat} (hvq : R 91 10 = some vq) (hTvq : T vq = (1, nq)) (hnq : nq < 2147483648) {vt nt : Nat} (hvt : R 91 12 = some vt) (hTvt : T vt = (1, nt)) (hnt : nt < 2147483648) (F : (36 < (ymul (I 4 0) (I 4 1)) → K (some (yi (-2))) (N, T, R, I)) ∧ (¬ (36 < (ymul (I 4 0) (I 4 1))) → yW l zSS D cy zFk z d 60 0 0 (fun r h' => ∃ r3 I2, r = some (yi r3) ∧ h' = (N, T, R, I2) ∧ ((r3 ≤ 3 → ∀ I5, I5 = yU I2 91 0 (I2 4 0) → (∀ I6, I6 = yU I5 91 1 (ymul (I5 4 0) (I5 4 1)) → (yW l zSS D cy zFk z d 75 0 0 (fun r h' => ∃ I7, r = none ∧ h' = (N, T, R, I7) ∧ (yW l zSS D cy zFk z d 73 0 0 (fun r h' => ∃ r9 I8, r = some (yi r9) ∧ h' = (N, T, R, I8) ∧ (yW l zSS D cy zFk z d 72 0 0 (fun r h' => ∃ r11 I10, r = some (yi r11) ∧ h' = (N, T, R, I10) ∧ (yW l zSS D cy zFk z d 74 e1 f1 (fun r h' => ∃ N13 T14 R15 I12, r = none ∧ h' = (N13, T14, R15, I12) ∧ yLT T14 ∧ yLR R15 ∧ (yW l zSS D cy zFk z d 77 0 0 (fun r h' => ∃ r19 I18, r = some (yi r19) ∧ h' = (N13, T14, R15, I18) ∧ ((r19 ≠ 0 → yW l zSS D cy zFk z d 82 e2 f2 (fun r h' => ∃ N22 T23 R24 I21, r = none ∧ h' = (N22, T23, R24, I21) ∧ yLT T23 ∧ yLR R24 ∧ (K (some (yi (I21 91 13))) (N22, T23, R24, I21))) 0 0 0 [(0, yr (some 91)), (1, yi r11), (2, yi (ysub r9 1))] [] (N13, T14, R15, I18)) ∧ (¬ (r19 ≠ 0) → K (some (yi (-1))) (N13, T14, R15, I18)))) 0 0 0 [(0, yr (some 91)), (1, yi r11), (2, yi (ysub r9 1))] [] (N13, T14, R15, I12))) 0 0 0 [(0, yr (some 91)), (1, yi r9)] [] (N, T, R, I10))) 0 0 0 [(0, yr (some 91)), (1, yr (some 4)), (2, yr (some 16))] [] (N, T, R, I8))) 0 0 0 [(0, yr (some 91)), (1, yr (some 4)), (2, yr (some 16))] [] (N, T, R, I7))) 0 0 0 [(0, yr (some 91)), (1, yr (some 4)), (2, yr (some 16))] [] (N, T, R, I6)))) ∧ (¬ (r3 ≤ 3) → K (some (yi (-2))) (N, T, R, I2)))) 0 0 0 [(0, yr (some 16)), (1, yi (I 4 5))] [] (N, T, R, I))) :
    yW l zSS D cy zFk z (d + 1) 78 bc bs K nc nl 0 [(0, yr (some 91)), (1, yr (some 4)), (2, yr (some 16))] [] (N, T, R, I) := by
  refine e_12 (f_78 (pc := 0) (e := (0, 12, 1, 0, 0, 0, 0, 1)) rfl) rfl ?_
  refine e_90 zA (f_78 (pc := 1) (e := (1, 90, 1, 0, 0, 40, 965, 4)) rfl) rfl (hT 4 rfl) rfl rfl ?_
  refine e_12 (f_78 (pc := 4) (e := (4, 12, 1, 0, 0, 0, 0, 5)) rfl) rfl ?_
  refine e_90 zA (f_78 (pc := 5) (e := (5, 90, 1, 1, 0, 46, 966, 8)) rfl) rfl (hT 4 rfl) rfl rfl ?_
  refine e_32 (f_78 (pc := 8) (e := (8, 32, 0, 0, 0, 0, 0, 9)) rfl) ?_
  refine e_1 (f_78 (pc := 9) (e := (9, 1, 36, 0, 0, 0, 0, 11)) rfl) (v := 36) rfl ?_
  refine e_74 (f_78 (pc := 11) (e := (11, 74, 26, 0, 0, 0, 0, 14)) rfl) (fun c1 => ?_) (fun c1 => ?_)
  · replace F := F.1 c1
    refine e_1 (f_78 (pc := 26) (e := (26, 1, 4294967294, 0, 0, 0, 0, 28)) rfl) (v := (-2)) rfl ?_
    exact e_120 (f_78 (pc := 28) (e := (28, 120, 0, 0, 0, 0, 0, 29)) rfl) F
  · replace F := F.2 c1
    refine e_12 (f_78 (pc := 14) (e := (14, 12, 2, 0, 0, 0, 0, 15)) rfl) rfl ?_
    refine e_12 (f_78 (pc := 15) (e := (15, 12, 1, 0, 0, 0, 0, 16)) rfl) rfl ?_
    refine e_90 zA (f_78 (pc := 16) (e := (16, 90, 1, 5, 0, 49, 958, 19)) rfl) rfl (hT 4 rfl) rfl rfl ?_
    refine e_130 (f_78 (pc := 19) (e := (19, 130, 60, 0, 5, 51, 967, 22)) rfl) zA (as := [yr (some 16), yi _]) (rest := []) rfl rfl rfl rfl (Nat.le_of_ble_eq_true rfl) (Nat.le_of_ble_eq_true rfl) ⟨_, _, _, rfl, (hT 16 rfl)⟩ (mc := 0) (ms := 0) hnb hsb ?_
    refine e_K ?_ F
    rintro r h' ⟨r3, I2, rfl, rfl, F⟩
    refine e_0 (f_78 (pc := 22) (e := (22, 0, 3, 0, 0, 0, 0, 23)) rfl) (v := 3) rfl ?_
    refine e_75 (f_78 (pc := 23) (e := (23, 75, 29, 0, 0, 0, 0, 26)) rfl) (fun c4 => ?_) (fun c4 => ?_)
    · replace F := F.1 c4
      refine e_12 (f_78 (pc := 29) (e := (29, 12, 0, 0, 0, 0, 0, 30)) rfl) rfl ?_
      refine e_12 (f_78 (pc := 30) (e := (30, 12, 1, 0, 0, 0, 0, 31)) rfl) rfl ?_
      refine e_90 zA (f_78 (pc := 31) (e := (31, 90, 1, 0, 0, 40, 965, 34)) rfl) rfl (hT 4 rfl) rfl rfl ?_
      refine e_91 zA (f_78 (pc := 34) (e := (34, 91, 6, 0, 0, 57, 954, 37)) rfl) rfl (hT 91 rfl) rfl rfl trivial ?_
      replace F := F _ rfl
      refine e_12 (f_78 (pc := 37) (e := (37, 12, 0, 0, 0, 0, 0, 38)) rfl) rfl ?_
      refine e_12 (f_78 (pc := 38) (e := (38, 12, 1, 0, 0, 0, 0, 39)) rfl) rfl ?_
      refine e_90 zA (f_78 (pc := 39) (e := (39, 90, 1, 0, 0, 40, 965, 42)) rfl) rfl (hT 4 rfl) rfl rfl ?_
      refine e_12 (f_78 (pc := 42) (e := (42, 12, 1, 0, 0, 0, 0, 43)) rfl) rfl ?_
      refine e_90 zA (f_78 (pc := 43) (e := (43, 90, 1, 1, 0, 46, 966, 46)) rfl) rfl (hT 4 rfl) rfl rfl ?_
      refine e_32 (f_78 (pc := 46) (e := (46, 32, 0, 0, 0, 0, 0, 47)) rfl) ?_
      refine e_91 zA (f_78 (pc := 47) (e := (47, 91, 6, 1, 0, 58, 950, 50)) rfl) rfl (hT 91 rfl) rfl rfl trivial ?_
      replace F := F _ rfl
      refine e_12 (f_78 (pc := 50) (e := (50, 12, 0, 0, 0, 0, 0, 51)) rfl) rfl ?_
      refine e_12 (f_78 (pc := 51) (e := (51, 12, 1, 0, 0, 0, 0, 52)) rfl) rfl ?_
      refine e_12 (f_78 (pc := 52) (e := (52, 12, 2, 0, 0, 0, 0, 53)) rfl) rfl ?_
      refine e_130 (f_78 (pc := 53) (e := (53, 130, 75, 0, 6, 61, 968, 56)) rfl) zA (as := [yr (some 91), yr (some 4), yr (some 16)]) (rest := []) rfl rfl rfl rfl (Nat.le_of_ble_eq_true rfl) (Nat.le_of_ble_eq_true rfl) ⟨_, _, _, rfl, (hT 91 rfl)⟩ (mc := 0) (ms := 0) hnb hsb ?_
      refine e_K ?_ F
      rintro r h' ⟨I7, rfl, rfl, F⟩
      refine e_12 (f_78 (pc := 56) (e := (56, 12, 0, 0, 0, 0, 0, 57)) rfl) rfl ?_
      refine e_12 (f_78 (pc := 57) (e := (57, 12, 1, 0, 0, 0, 0, 58)) rfl) rfl ?_
      refine e_12 (f_78 (pc := 58) (e := (58, 12, 2, 0, 0, 0, 0, 59)) rfl) rfl ?_
      refine e_130 (f_78 (pc := 59) (e := (59, 130, 73, 0, 6, 65, 969, 62)) rfl) zA (as := [yr (some 91), yr (some 4), yr (some 16)]) (rest := []) rfl rfl rfl rfl (Nat.le_of_ble_eq_true rfl) (Nat.le_of_ble_eq_true rfl) ⟨_, _, _, rfl, (hT 91 rfl)⟩ (mc := 0) (ms := 0) hnb hsb ?_
      refine e_K ?_ F
      rintro r h' ⟨r9, I8, rfl, rfl, F⟩
      refine e_20 (f_78 (pc := 62) (e := (62, 20, 3, 0, 0, 0, 0, 63)) rfl) ?_
      refine e_12 (f_78 (pc := 63) (e := (63, 12, 0, 0, 0, 0, 0, 64)) rfl) rfl ?_
      refine e_12 (f_78 (pc := 64) (e := (64, 12, 1, 0, 0, 0, 0, 65)) rfl) rfl ?_
      refine e_12 (f_78 (pc := 65) (e := (65, 12, 2, 0, 0, 0, 0, 66)) rfl) rfl ?_
      refine e_130 (f_78 (pc := 66) (e := (66, 130, 72, 0, 6, 69, 970, 69)) rfl) zA (as := [yr (some 91), yr (some 4), yr (some 16)]) (rest := []) rfl rfl rfl rfl (Nat.le_of_ble_eq_true rfl) (Nat.le_of_ble_eq_true rfl) ⟨_, _, _, rfl, (hT 91 rfl)⟩ (mc := 0) (ms := 0) hnb hsb ?_
      refine e_K ?_ F
      rintro r h' ⟨r11, I10, rfl, rfl, F⟩
      refine e_21 (f_78 (pc := 69) (e := (69, 21, 4, 0, 0, 0, 0, 71)) rfl) ?_
      refine e_12 (f_78 (pc := 71) (e := (71, 12, 0, 0, 0, 0, 0, 72)) rfl) rfl ?_
      refine e_10 (f_78 (pc := 72) (e := (72, 10, 3, 0, 0, 0, 0, 73)) rfl) rfl ?_
      refine e_130 (f_78 (pc := 73) (e := (73, 130, 74, 0, 6, 72, 971, 76)) rfl) zA (as := [yr (some 91), yi r9]) (rest := []) rfl rfl rfl rfl (Nat.le_of_ble_eq_true rfl) (Nat.le_of_ble_eq_true rfl) ⟨_, _, _, rfl, (hT 91 rfl)⟩ (mc := e1) (ms := f1) (by omega) (by omega) ?_
      refine e_K ?_ F
      rintro r h' ⟨N13, T14, R15, I12, rfl, rfl, hT16, hR17, F⟩
      refine e_12 (f_78 (pc := 76) (e := (76, 12, 0, 0, 0, 0, 0, 77)) rfl) rfl ?_
      refine e_11 (f_78 (pc := 77) (e := (77, 11, 4, 0, 0, 0, 0, 79)) rfl) rfl ?_
      refine e_10 (f_78 (pc := 79) (e := (79, 10, 3, 0, 0, 0, 0, 80)) rfl) rfl ?_
      refine e_0 (f_78 (pc := 80) (e := (80, 0, 1, 0, 0, 0, 0, 81)) rfl) (v := 1) rfl ?_
      refine e_31 (f_78 (pc := 81) (e := (81, 31, 0, 0, 0, 0, 0, 82)) rfl) ?_
      refine e_130 (f_78 (pc := 82) (e := (82, 130, 77, 0, 6, 76, 972, 85)) rfl) zA (as := [yr (some 91), yi r11, yi _]) (rest := []) rfl rfl rfl rfl (Nat.le_of_ble_eq_true rfl) (Nat.le_of_ble_eq_true rfl) ⟨_, _, _, rfl, (hT16 91 rfl)⟩ (mc := 0) (ms := 0) (by omega) (by omega) ?_
      refine e_K ?_ F
      rintro r h' ⟨r19, I18, rfl, rfl, F⟩
      refine e_61 (f_78 (pc := 85) (e := (85, 61, 90, 0, 0, 0, 0, 88)) rfl) (fun c20 => ?_) (fun c20 => ?_)
      · replace F := F.1 c20
        refine e_12 (f_78 (pc := 90) (e := (90, 12, 0, 0, 0, 0, 0, 91)) rfl) rfl ?_
        refine e_11 (f_78 (pc := 91) (e := (91, 11, 4, 0, 0, 0, 0, 93)) rfl) rfl ?_
        refine e_10 (f_78 (pc := 93) (e := (93, 10, 3, 0, 0, 0, 0, 94)) rfl) rfl ?_
        refine e_0 (f_78 (pc := 94) (e := (94, 0, 1, 0, 0, 0, 0, 95)) rfl) (v := 1) rfl ?_
        refine e_31 (f_78 (pc := 95) (e := (95, 31, 0, 0, 0, 0, 0, 96)) rfl) ?_
        refine e_130 (f_78 (pc := 96) (e := (96, 130, 82, 0, 6, 80, 973, 99)) rfl) zA (as := [yr (some 91), yi r11, yi _]) (rest := []) rfl rfl rfl rfl (Nat.le_of_ble_eq_true rfl) (Nat.le_of_ble_eq_true rfl) ⟨_, _, _, rfl, (hT16 91 rfl)⟩ (mc := e2) (ms := f2) (by omega) (by omega) ?_
        refine e_K ?_ F
        rintro r h' ⟨N22, T23, R24, I21, rfl, rfl, hT25, hR26, F⟩
        refine e_12 (f_78 (pc := 99) (e := (99, 12, 0, 0, 0, 0, 0, 100)) rfl) rfl ?_
        refine e_90 zA (f_78 (pc := 100) (e := (100, 90, 6, 13, 0, 84, 974, 103)) rfl) rfl (hT25 91 rfl) rfl rfl ?_
        exact e_120 (f_78 (pc := 103) (e := (103, 120, 0, 0, 0, 0, 0, 0)) rfl) F
      · replace F := F.2 c20
        refine e_0 (f_78 (pc := 88) (e := (88, 0, 4294967295, 0, 0, 0, 0, 89)) rfl) (v := (-1)) rfl ?_
        exact e_120 (f_78 (pc := 89) (e := (89, 120, 0, 0, 0, 0, 0, 90)) rfl) F
    · replace F := F.2 c4
      refine e_1 (f_78 (pc := 26) (e := (26, 1, 4294967294, 0, 0, 0, 0, 28)) rfl) (v := (-2)) rfl ?_
      exact e_120 (f_78 (pc := 28) (e := (28, 120, 0, 0, 0, 0, 0, 29)) rfl) F
/-! ChairAlley.untied()I -/
set_option maxRecDepth 20000 in
theorem Bd_150_0 (hT : yLT T) (hR : yLR R) (hnb : nc ≤ bc) (hsb : nl ≤ bs) {e1 f1 : Nat} (hb1 : nc + e1 ≤ bc) (hb2 : nl + f1 ≤ bs) (F : yW l zSS D cy zFk z d 78 e1 f1 (fun r h' => ∃ N3 T4 R5 r2 I1, r = some (yi r2) ∧ h' = (N3, T4, R5, I1) ∧ yLT T4 ∧ yLR R5 ∧ (K (some (yi r2)) (N3, T4, R5, I1))) 0 0 0 [(0, yr (some 91)), (1, yr (some 4)), (2, yr (some 16))] [] (N, T, R, I)) :
    yW l zSS D cy zFk z (d + 1) 150 bc bs K nc nl 0 [(0, yr (some 0))] [] (N, T, R, I) := by
  refine e_12 (f_150 (pc := 0) (e := (0, 12, 0, 0, 0, 0, 0, 1)) rfl) rfl ?_
  refine e_90r zA (f_150 (pc := 1) (e := (1, 90, 10, 5, 3, 49, 1073, 4)) rfl) rfl (hT 0 rfl) rfl rfl (hR 0 5 rfl) ?_
  refine e_12 (f_150 (pc := 4) (e := (4, 12, 0, 0, 0, 0, 0, 5)) rfl) rfl ?_
  refine e_90r zA (f_150 (pc := 5) (e := (5, 90, 10, 1, 3, 19, 1064, 8)) rfl) rfl (hT 0 rfl) rfl rfl (hR 0 1 rfl) ?_
  refine e_90r zA (f_150 (pc := 8) (e := (8, 90, 9, 0, 3, 28, 1067, 11)) rfl) rfl (hT 3 rfl) rfl rfl (hR 3 0 rfl) ?_
  refine e_12 (f_150 (pc := 11) (e := (11, 12, 0, 0, 0, 0, 0, 12)) rfl) rfl ?_
  refine e_90r zA (f_150 (pc := 12) (e := (12, 90, 10, 1, 3, 19, 1064, 15)) rfl) rfl (hT 0 rfl) rfl rfl (hR 0 1 rfl) ?_
  refine e_90r zA (f_150 (pc := 15) (e := (15, 90, 9, 1, 3, 92, 1084, 18)) rfl) rfl (hT 3 rfl) rfl rfl (hR 3 1 rfl) ?_
  refine e_130 (f_150 (pc := 18) (e := (18, 130, 78, 0, 6, 244, 1155, 21)) rfl) zA (as := [yr (some 91), yr (some 4), yr (some 16)]) (rest := []) rfl rfl rfl rfl (Nat.le_of_ble_eq_true rfl) (Nat.le_of_ble_eq_true rfl) ⟨_, _, _, rfl, (hT 91 rfl)⟩ (mc := e1) (ms := f1) (by omega) (by omega) ?_
  refine e_K ?_ F
  rintro r h' ⟨N3, T4, R5, r2, I1, rfl, rfl, hT6, hR7, F⟩
  exact e_120 (f_150 (pc := 21) (e := (21, 120, 0, 0, 0, 0, 0, 0)) rfl) F
end Sy
