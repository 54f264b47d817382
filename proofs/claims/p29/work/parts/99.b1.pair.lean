/-! THE FRESH PAIR: Walk.<init>, ChairAlley.<init>; the pair lies where it must (template z7.tpl, tpl.py). -/
section Sy
variable {l : Launch} {D : va_G} {cy : Nat → ClassId} {z d bc bs N : Nat} {T : Nat → Nat × Nat} {R : Nat → Nat → Option Nat} {I : Nat → Nat → Int} {K : yKo}
set_option maxRecDepth 20000 in
/-- Walk.<init> -/
theorem w_83 {p q : Nat} (hp : T p = (17, 8)) (hb1 : 21 ≤ bc) (hb2 : 2231 ≤ bs)
    (hk : ∀ T' R' I', yAtState T' R' (p + 1) → T' (p + 14) = (1, 8) → T' (p + 15) = (1, 8) → T' (p + 16) = (2, 8) → T' (p + 17) = (3, 8) → T' (p + 18) = (18, 5) → T' (p + 19) = (1, 800) → T' (p + 20) = (1, 800) → T' (p + 21) = (1, 100) →
      R' p 0 = some q → R' p 1 = some (p + 18) → R' p 2 = some (p + 1) → R' p 3 = some (p + 14) → R' p 4 = some (p + 15) → R' p 5 = some (p + 16) → R' p 6 = some (p + 17) → R' (p + 18) 0 = some q → R' (p + 18) 1 = some (p + 19) → R' (p + 18) 2 = some (p + 20) → R' (p + 18) 3 = some (p + 21) → cMk p T R I T' R' I' → K none (p + 22, T', R', I')) :
    yW l zSS D cy zFk z (d + 2) 83 bc bs K 0 0 0 [(0, yr (some p)), (1, yr (some q))] [] (p + 1, T, R, I) := by
  refine e_12 (f_83 (pc := 0) (e := (0, 12, 0, 0, 0, 0, 0, 1)) rfl) rfl ?_
  refine e_133 (f_83 (pc := 1) (e := (1, 133, 0, 0, 0, 3, 976, 4)) rfl) zA rfl (Nat.succ_pos _) (Nat.le_of_ble_eq_true rfl) ?_
  refine e_12 (f_83 (pc := 4) (e := (4, 12, 0, 0, 0, 0, 0, 5)) rfl) rfl ?_
  refine e_100 zA (f_83 (pc := 5) (e := (5, 100, 5, 14, 0, 9, 977, 8)) rfl) (by omega) (by omega) ?_
  refine ck_new (N' := p + 2) rfl (fun T1 R1 I1 e1 e2 e3 => ?_)
  refine e_50 (f_83 (pc := 8) (e := (8, 50, 0, 0, 0, 0, 0, 9)) rfl) rfl ?_
  refine e_131 (f_83 (pc := 9) (e := (9, 131, 55, 1, 5, 11, 99999, 12)) rfl) zA (as := [yr (some (p + 1))]) (rest := [yr (some (p + 1)), yr (some p)]) rfl rfl rfl rfl (Nat.le_of_ble_eq_true rfl) (Nat.le_of_ble_eq_true rfl) ⟨_, _, rfl⟩ (mc := 12) (ms := 480) (by omega) (by omega) ?_
  refine w_55 (p := p + 1) (by rw [e1]; exact yNT_eq _ _ _ _) (by decide) (by decide) (fun T2 R2 I2 atS m2 => ?_)
  have oT2 : ∀ k, k ≤ p → T2 k = T k := fun k g => by rw [m2.1 k (by omega), e1, yNT_ne _ _ _ (by omega)]
  have oR2 : ∀ k j, k ≤ p → R2 k j = R k j := fun k j g => by rw [m2.2.1 k j (by omega), e2, yNR_ne _ _ (by omega)]
  have oI2 : ∀ k j, k ≤ p → I2 k j = I k j := fun k j g => by rw [m2.2.2 k j (by omega), e3, yNI_ne _ _ (by omega)]
  have p2 : T2 p = (17, 8) := by rw [oT2 p (Nat.le_refl _)]; exact hp
  refine e_91 zA (f_83 (pc := 12) (e := (12, 91, 7, 2, 3, 12, 978, 15)) rfl) rfl p2 rfl rfl trivial ?_
  refine ck_ref (fun R3 h3 => ?_)
  -- its rows
  refine e_12 (f_83 (pc := 15) (e := (15, 12, 0, 0, 0, 0, 0, 16)) rfl) rfl ?_
  refine e_1 (f_83 (pc := 16) (e := (16, 1, 8, 0, 0, 0, 0, 18)) rfl) (v := 8) rfl ?_
  refine e_101 (f_83 (pc := 18) (e := (18, 101, 1, 0, 0, 0, 0, 20)) rfl) zA (n := 8) rfl (by decide) (by omega) (by omega) ?_
  refine e_91 zA (f_83 (pc := 20) (e := (20, 91, 7, 3, 3, 18, 979, 23)) rfl) rfl (show yNT T2 (p + 14) 1 8 p = (17, 8) from (yNT_ne _ _ _ (by omega)).trans p2) rfl rfl trivial ?_
  refine ck_put (N := p + 14) (N' := p + 15) rfl (fun T4 R4 I4 a4 b4 c4 => ?_)
  have p4 : T4 p = (17, 8) := by rw [a4, yNT_ne _ _ _ (by omega)]; exact p2
  refine e_12 (f_83 (pc := 23) (e := (23, 12, 0, 0, 0, 0, 0, 24)) rfl) rfl ?_
  refine e_1 (f_83 (pc := 24) (e := (24, 1, 8, 0, 0, 0, 0, 26)) rfl) (v := 8) rfl ?_
  refine e_101 (f_83 (pc := 26) (e := (26, 101, 1, 0, 0, 0, 0, 28)) rfl) zA (n := 8) rfl (by decide) (by omega) (by omega) ?_
  refine e_91 zA (f_83 (pc := 28) (e := (28, 91, 7, 4, 3, 22, 980, 31)) rfl) rfl (show yNT T4 (p + 15) 1 8 p = (17, 8) from (yNT_ne _ _ _ (by omega)).trans p4) rfl rfl trivial ?_
  refine ck_put (N := p + 15) (N' := p + 16) rfl (fun T5 R5 I5 a5 b5 c5 => ?_)
  have p5 : T5 p = (17, 8) := by rw [a5, yNT_ne _ _ _ (by omega)]; exact p4
  refine e_12 (f_83 (pc := 31) (e := (31, 12, 0, 0, 0, 0, 0, 32)) rfl) rfl ?_
  refine e_1 (f_83 (pc := 32) (e := (32, 1, 8, 0, 0, 0, 0, 34)) rfl) (v := 8) rfl ?_
  refine e_101 (f_83 (pc := 34) (e := (34, 101, 2, 0, 0, 0, 0, 36)) rfl) zA (n := 8) rfl (by decide) (by omega) (by omega) ?_
  refine e_91 zA (f_83 (pc := 36) (e := (36, 91, 7, 5, 3, 25, 981, 39)) rfl) rfl (show yNT T5 (p + 16) 2 8 p = (17, 8) from (yNT_ne _ _ _ (by omega)).trans p5) rfl rfl trivial ?_
  refine ck_put (N := p + 16) (N' := p + 17) rfl (fun T6 R6 I6 a6 b6 c6 => ?_)
  have p6 : T6 p = (17, 8) := by rw [a6, yNT_ne _ _ _ (by omega)]; exact p5
  refine e_12 (f_83 (pc := 39) (e := (39, 12, 0, 0, 0, 0, 0, 40)) rfl) rfl ?_
  refine e_1 (f_83 (pc := 40) (e := (40, 1, 8, 0, 0, 0, 0, 42)) rfl) (v := 8) rfl ?_
  refine e_101 (f_83 (pc := 42) (e := (42, 101, 3, 0, 0, 0, 0, 44)) rfl) zA (n := 8) rfl (by decide) (by omega) (by omega) ?_
  refine e_91 zA (f_83 (pc := 44) (e := (44, 91, 7, 6, 3, 29, 982, 47)) rfl) rfl (show yNT T6 (p + 17) 3 8 p = (17, 8) from (yNT_ne _ _ _ (by omega)).trans p6) rfl rfl trivial ?_
  refine ck_put (N := p + 17) (N' := p + 18) rfl (fun T7 R7 I7 a7 b7 c7 => ?_)
  have p7 : T7 p = (17, 8) := by rw [a7, yNT_ne _ _ _ (by omega)]; exact p6
  refine e_12 (f_83 (pc := 47) (e := (47, 12, 0, 0, 0, 0, 0, 48)) rfl) rfl ?_
  refine e_12 (f_83 (pc := 48) (e := (48, 12, 1, 0, 0, 0, 0, 49)) rfl) rfl ?_
  refine e_91 zA (f_83 (pc := 49) (e := (49, 91, 7, 0, 3, 33, 983, 52)) rfl) rfl p7 rfl rfl trivial ?_
  refine ck_ref (fun R8 h8 => ?_)
  -- ways
  refine e_12 (f_83 (pc := 52) (e := (52, 12, 0, 0, 0, 0, 0, 53)) rfl) rfl ?_
  refine e_100 zA (f_83 (pc := 53) (e := (53, 100, 8, 5, 0, 37, 984, 56)) rfl) (by omega) (by omega) ?_
  refine ck_new (N' := p + 19) rfl (fun T9 R9 I9 a9 b9 c9 => ?_)
  refine e_50 (f_83 (pc := 56) (e := (56, 50, 0, 0, 0, 0, 0, 57)) rfl) rfl ?_
  refine e_12 (f_83 (pc := 57) (e := (57, 12, 1, 0, 0, 0, 0, 58)) rfl) rfl ?_
  refine e_131 (f_83 (pc := 58) (e := (58, 131, 107, 1, 8, 39, 985, 61)) rfl) zA (as := [yr (some (p + 18)), yr (some q)]) (rest := [yr (some (p + 18)), yr (some p)]) rfl rfl rfl rfl (Nat.le_of_ble_eq_true rfl) (Nat.le_of_ble_eq_true rfl) ⟨_, _, rfl⟩ (mc := 3) (ms := 1700) (by omega) (by omega) ?_
  refine w_107 (p := p + 18) (by rw [a9]; exact yNT_eq _ _ _ _) (by decide) (by decide) (fun T10 R10 I10 t1 t2 t3 r1 r2 r3 r0 m10 _ => ?_)
  have tE : ∀ k, k < p + 18 → T10 k = T7 k := fun k g => by rw [m10.1 k (by omega), a9, yNT_ne _ _ _ (by omega)]
  have rE : ∀ k j, k < p + 18 → R10 k j = R8 k j := fun k j g => by rw [m10.2.1 k j (by omega), b9, yNR_ne _ _ (by omega)]
  have iE : ∀ k j, k < p + 18 → I10 k j = I7 k j := fun k j g => by rw [m10.2.2 k j (by omega), c9, yNI_ne _ _ (by omega)]
  refine e_91 zA (f_83 (pc := 61) (e := (61, 91, 7, 1, 3, 42, 986, 64)) rfl) rfl (show T10 p = (17, 8) by rw [tE p (by omega)]; exact p7) rfl rfl trivial ?_
  refine ck_ref (fun R11 h11 => ?_)
  have f11 : ∀ k j, k ≠ p → R11 k j = R10 k j := fun k j g => by rw [h11, yUR_ne _ _ (fun q => g q.1)]
  have g11 : ∀ j, j ≠ 1 → R11 p j = R8 p j := fun j g => by rw [h11, yUR_ne _ _ (fun q => g q.2), rE p j (by omega)]
  have f8 : ∀ k j, k ≠ p → k < p + 14 → R8 k j = R2 k j := fun k j g g2 => by rw [h8, yUR_ne _ _ (fun q => g q.1), b7, yUR_ne _ _ (fun q => g q.1), yNR_ne _ _ (by omega), b6, yUR_ne _ _ (fun q => g q.1), yNR_ne _ _ (by omega), b5, yUR_ne _ _ (fun q => g q.1), yNR_ne _ _ (by omega), b4, yUR_ne _ _ (fun q => g q.1), yNR_ne _ _ (by omega), h3, yUR_ne _ _ (fun q => g q.1)]
  have t7 : ∀ k, k < p + 14 → T7 k = T2 k := fun k g => by rw [a7, yNT_ne _ _ _ (by omega), a6, yNT_ne _ _ _ (by omega), a5, yNT_ne _ _ _ (by omega), a4, yNT_ne _ _ _ (by omega)]
  have i7 : ∀ k j, k < p + 14 → I7 k j = I2 k j := fun k j g => by rw [c7, yNI_ne _ _ (by omega), c6, yNI_ne _ _ (by omega), c5, yNI_ne _ _ (by omega), c4, yNI_ne _ _ (by omega)]
  refine e_122 (f_83 (pc := 64) (e := (64, 122, 0, 0, 0, 0, 0, 0)) rfl) (hk T10 R11 I10 ?_ ?_ ?_ ?_ ?_ ?_ t1 t2 t3 ?_ ?_ ?_ ?_ ?_ ?_ ?_ ?_ ?_ ?_ ?_ ⟨fun k g => by rw [tE k (by omega), t7 k (by omega)]; exact oT2 k g, fun k j g => by rw [f11 k j (by omega), rE k j (by omega), f8 k j (by omega) (by omega)]; exact oR2 k j (by omega), fun k j g => by rw [iE k j (by omega), i7 k j (by omega)]; exact oI2 k j g⟩)
  · exact yAtState_cg atS (fun k _ _ => by rw [tE k (by omega), t7 k (by omega)]) (fun j => by rw [f11 _ j (by omega), rE _ j (by omega), f8 _ j (by omega) (by omega)])
  · rw [tE _ (by omega), a7, yNT_ne _ _ _ (by omega), a6, yNT_ne _ _ _ (by omega), a5, yNT_ne _ _ _ (by omega), a4, yNT_eq]
  · rw [tE _ (by omega), a7, yNT_ne _ _ _ (by omega), a6, yNT_ne _ _ _ (by omega), a5, yNT_eq]
  · rw [tE _ (by omega), a7, yNT_ne _ _ _ (by omega), a6, yNT_eq]
  · rw [tE _ (by omega), a7, yNT_eq]
  · rw [m10.1 _ (Nat.le_refl _), a9, yNT_eq]
  · rw [g11 0 (by decide), h8, yUR_eq]
  · rw [h11, yUR_eq]
  · rw [g11 2 (by decide), h8, yUR_ne _ _ (by omega), b7, yUR_ne _ _ (by omega), yNR_ne _ _ (by omega), b6, yUR_ne _ _ (by omega), yNR_ne _ _ (by omega), b5, yUR_ne _ _ (by omega), yNR_ne _ _ (by omega), b4, yUR_ne _ _ (by omega), yNR_ne _ _ (by omega), h3, yUR_eq]
  · rw [g11 3 (by decide), h8, yUR_ne _ _ (by omega), b7, yUR_ne _ _ (by omega), yNR_ne _ _ (by omega), b6, yUR_ne _ _ (by omega), yNR_ne _ _ (by omega), b5, yUR_ne _ _ (by omega), yNR_ne _ _ (by omega), b4, yUR_eq]
  · rw [g11 4 (by decide), h8, yUR_ne _ _ (by omega), b7, yUR_ne _ _ (by omega), yNR_ne _ _ (by omega), b6, yUR_ne _ _ (by omega), yNR_ne _ _ (by omega), b5, yUR_eq]
  · rw [g11 5 (by decide), h8, yUR_ne _ _ (by omega), b7, yUR_ne _ _ (by omega), yNR_ne _ _ (by omega), b6, yUR_eq]
  · rw [g11 6 (by decide), h8, yUR_ne _ _ (by omega), b7, yUR_eq]
  · rw [f11 _ _ (by omega)]; exact r0
  · rw [f11 _ _ (by omega)]; exact r1
  · rw [f11 _ _ (by omega)]; exact r2
  · rw [f11 _ _ (by omega)]; exact r3
set_option maxRecDepth 40000 in
theorem yS0_57 {k j : Nat} (h : yS0 k j = true) : j < 57 := by
  apply Classical.byContradiction
  intro c
  have e : ∀ l : List (List Bool), (∀ r ∈ l, r.length ≤ 57) → (l.getD k []).getD j false = false := fun l hl => by
    have : (l.getD k []).length ≤ 57 := by
      rw [List.getD]
      cases g : l[k]? with
      | none => exact Nat.zero_le _
      | some r => exact hl r (List.mem_of_getElem? g)
    have e2 : (l.getD k []).getD j false = ((l.getD k [])[j]?).getD false := rfl
    rw [e2, List.getElem?_eq_none (by omega)]; rfl
  unfold yS0 at h
  rw [e _ (by decide)] at h
  cases h
set_option maxRecDepth 40000 in
/-- ChairAlley.<init> -/
theorem w_113 (hp : T 0 = (20, 10)) (hb1 : 101 ≤ bc) (hb2 : 5297 ≤ bs) (hk : ∀ T' R' I', (∀ k, k < 102 → T' k = yT0 k) → (∀ k j, k < 102 → yS0 k j = true → R' k j = yR0 k j) → cLd I' 4 → I' 4 5 = 0 → I' 1 1 = 0 → I' 1 10 = 0 → I' 89 1 = 0 → (∀ j, R' 90 j = none) → (∀ j, R' 101 j = none) → R' 91 9 = some 98 → R' 91 10 = some 99 → R' 91 12 = some 100 → K none (102, T', R', I')) :
    yW l zSS D cy zFk z (d + 4) 113 bc bs K 0 0 0 [(0, yr (some 0))] [] (1, T, R, I) := by
  refine e_12 (f_113 (pc := 0) (e := (0, 12, 0, 0, 0, 0, 0, 1)) rfl) rfl ?_
  refine e_133 (f_113 (pc := 1) (e := (1, 133, 0, 0, 0, 3, 1059, 4)) rfl) zA rfl (Nat.succ_pos _) (Nat.le_of_ble_eq_true rfl) ?_
  refine e_12 (f_113 (pc := 4) (e := (4, 12, 0, 0, 0, 0, 0, 5)) rfl) rfl ?_
  refine e_100 zA (f_113 (pc := 5) (e := (5, 100, 3, 12, 0, 9, 1060, 8)) rfl) (by omega) (by omega) ?_
  refine ck_new (N' := 2) rfl (fun A1 B1 C1 x1 y1 z1 => ?_)
  refine e_50 (f_113 (pc := 8) (e := (8, 50, 0, 0, 0, 0, 0, 9)) rfl) rfl ?_
  refine e_131 (f_113 (pc := 9) (e := (9, 131, 30, 1, 0, 11, 99999, 12)) rfl) zA (as := [yr (some 1)]) (rest := [yr (some 1), yr (some 0)]) rfl rfl rfl rfl (Nat.le_of_ble_eq_true rfl) (Nat.le_of_ble_eq_true rfl) ⟨_, _, rfl⟩ (mc := 1) (ms := 940) (by omega) (by omega) ?_
  refine w_30 (p := 1) (by rw [x1]; exact yNT_eq _ _ _ _) (by decide) (by decide) (fun T1 R1 I1 u1a u1b m1 _ => ?_)
  have kT1 : ∀ k, k < 1 → T1 k = T k := fun k g => by rw [m1.1 k (by omega), x1, yNT_ne _ _ _ (by omega)]
  have kR1 : ∀ k j, k < 1 → R1 k j = R k j := fun k j g => by rw [m1.2.1 k j (by omega), y1, yNR_ne _ _ (by omega)]
  have kI1 : ∀ k j, k < 1 → I1 k j = I k j := fun k j g => by rw [m1.2.2 k j (by omega), z1, yNI_ne _ _ (by omega)]
  have t0_1 : T1 0 = (20, 10) := by rw [kT1 0 (by omega)]; exact hp
  refine e_91 zA (f_113 (pc := 12) (e := (12, 91, 10, 0, 3, 12, 1061, 15)) rfl) rfl t0_1 rfl rfl trivial ?_
  refine ck_ref (fun R1' q1 => ?_)
  refine e_12 (f_113 (pc := 15) (e := (15, 12, 0, 0, 0, 0, 0, 16)) rfl) rfl ?_
  refine e_100 zA (f_113 (pc := 16) (e := (16, 100, 9, 4, 0, 16, 1062, 19)) rfl) (by omega) (by omega) ?_
  refine ck_new (N' := 4) rfl (fun A2 B2 C2 x2 y2 z2 => ?_)
  refine e_50 (f_113 (pc := 19) (e := (19, 50, 0, 0, 0, 0, 0, 20)) rfl) rfl ?_
  refine e_131 (f_113 (pc := 20) (e := (20, 131, 111, 1, 9, 18, 1063, 23)) rfl) zA (as := [yr (some 3)]) (rest := [yr (some 3), yr (some 0)]) rfl rfl rfl rfl (Nat.le_of_ble_eq_true rfl) (Nat.le_of_ble_eq_true rfl) ⟨_, _, rfl⟩ (mc := 31) (ms := 940) (by omega) (by omega) ?_
  refine w_111n (p := 3) (by decide) (by rw [x2]; exact yNT_eq _ _ _ _) (by decide) (by decide) (fun T2 R2 I2 w2 mT2 mR2 mI2 l2 c2 => ?_)
  have kT2 : ∀ k, k < 3 → T2 k = T1 k := fun k g => by rw [mT2 k (by omega), x2, yNT_ne _ _ _ (by omega)]
  have kR2 : ∀ k j, k < 3 → R2 k j = R1' k j := fun k j g => by rw [mR2 k j (by omega), y2, yNR_ne _ _ (by omega)]
  have kI2 : ∀ k j, k < 3 → I2 k j = I1 k j := fun k j g => by rw [mI2 k j (by omega), z2, yNI_ne _ _ (by omega)]
  have t0_2 : T2 0 = (20, 10) := by rw [kT2 0 (by omega)]; exact t0_1
  refine e_91 zA (f_113 (pc := 23) (e := (23, 91, 10, 1, 3, 19, 1064, 26)) rfl) rfl t0_2 rfl rfl trivial ?_
  refine ck_ref (fun R2' q2 => ?_)
  refine e_12 (f_113 (pc := 26) (e := (26, 12, 0, 0, 0, 0, 0, 27)) rfl) rfl ?_
  refine e_100 zA (f_113 (pc := 27) (e := (27, 100, 9, 4, 0, 16, 1062, 30)) rfl) (by omega) (by omega) ?_
  refine ck_new (N' := 36) rfl (fun A3 B3 C3 x3 y3 z3 => ?_)
  refine e_50 (f_113 (pc := 30) (e := (30, 50, 0, 0, 0, 0, 0, 31)) rfl) rfl ?_
  refine e_131 (f_113 (pc := 31) (e := (31, 131, 111, 1, 9, 18, 1063, 34)) rfl) zA (as := [yr (some 35)]) (rest := [yr (some 35), yr (some 0)]) rfl rfl rfl rfl (Nat.le_of_ble_eq_true rfl) (Nat.le_of_ble_eq_true rfl) ⟨_, _, rfl⟩ (mc := 31) (ms := 940) (by omega) (by omega) ?_
  refine w_111n (p := 35) (by decide) (by rw [x3]; exact yNT_eq _ _ _ _) (by decide) (by decide) (fun T3 R3 I3 w3 mT3 mR3 mI3 l3 _ => ?_)
  have kT3 : ∀ k, k < 35 → T3 k = T2 k := fun k g => by rw [mT3 k (by omega), x3, yNT_ne _ _ _ (by omega)]
  have kR3 : ∀ k j, k < 35 → R3 k j = R2' k j := fun k j g => by rw [mR3 k j (by omega), y3, yNR_ne _ _ (by omega)]
  have kI3 : ∀ k j, k < 35 → I3 k j = I2 k j := fun k j g => by rw [mI3 k j (by omega), z3, yNI_ne _ _ (by omega)]
  have t0_3 : T3 0 = (20, 10) := by rw [kT3 0 (by omega)]; exact t0_2
  refine e_91 zA (f_113 (pc := 34) (e := (34, 91, 10, 2, 3, 23, 1065, 37)) rfl) rfl t0_3 rfl rfl trivial ?_
  refine ck_ref (fun R3' q3 => ?_)
  refine e_12 (f_113 (pc := 37) (e := (37, 12, 0, 0, 0, 0, 0, 38)) rfl) rfl ?_
  refine e_100 zA (f_113 (pc := 38) (e := (38, 100, 7, 8, 0, 26, 1066, 41)) rfl) (by omega) (by omega) ?_
  refine ck_new (N' := 68) rfl (fun A4 B4 C4 x4 y4 z4 => ?_)
  refine e_50 (f_113 (pc := 41) (e := (41, 50, 0, 0, 0, 0, 0, 42)) rfl) rfl ?_
  refine e_12 (f_113 (pc := 42) (e := (42, 12, 0, 0, 0, 0, 0, 43)) rfl) rfl ?_
  refine e_90r zA (f_113 (pc := 43) (e := (43, 90, 10, 1, 3, 19, 1064, 46)) rfl) rfl (show A4 0 = (20, 10) by rw [x4, yNT_ne _ _ _ (by omega)]; exact t0_3) rfl rfl (show B4 0 1 = some 3 by rw [y4, yNR_ne _ _ (by omega), q3, yUR_ne _ _ (by omega), kR3 0 1 (by omega), q2, yUR_eq]) ?_
  refine e_90r zA (f_113 (pc := 46) (e := (46, 90, 9, 0, 3, 28, 1067, 49)) rfl) rfl (show A4 3 = (19, 4) by rw [x4, yNT_ne _ _ _ (by omega), kT3 3 (by omega)]; exact w2.1.1 0 rfl) rfl rfl (show B4 3 0 = some 4 by rw [y4, yNR_ne _ _ (by omega), q3, yUR_ne _ _ (by omega), kR3 3 0 (by omega), q2, yUR_ne _ _ (by omega)]; exact w2.1.2 0 rfl) ?_
  refine e_131 (f_113 (pc := 49) (e := (49, 131, 83, 1, 7, 32, 1068, 52)) rfl) zA (as := [yr (some 67), yr (some 4)]) (rest := [yr (some 67), yr (some 0)]) rfl rfl rfl rfl (Nat.le_of_ble_eq_true rfl) (Nat.le_of_ble_eq_true rfl) ⟨_, _, rfl⟩ (mc := 21) (ms := 2231) (by omega) (by omega) ?_
  refine w_83 (p := 67) (by rw [x4]; exact yNT_eq _ _ _ _) (by decide) (by decide) (fun T4 R4 I4 a4 b4a b4b b4c b4d b4e b4f b4g b4h c4a c4b c4c c4d c4e c4f c4g c4h c4i c4j c4k m4 => ?_)
  have kT4 : ∀ k, k < 67 → T4 k = T3 k := fun k g => by rw [m4.1 k (by omega), x4, yNT_ne _ _ _ (by omega)]
  have kR4 : ∀ k j, k < 67 → R4 k j = R3' k j := fun k j g => by rw [m4.2.1 k j (by omega), y4, yNR_ne _ _ (by omega)]
  have kI4 : ∀ k j, k < 67 → I4 k j = I3 k j := fun k j g => by rw [m4.2.2 k j (by omega), z4, yNI_ne _ _ (by omega)]
  have t0_4 : T4 0 = (20, 10) := by rw [kT4 0 (by omega)]; exact t0_3
  refine e_91 zA (f_113 (pc := 52) (e := (52, 91, 10, 3, 3, 35, 1069, 55)) rfl) rfl t0_4 rfl rfl trivial ?_
  refine ck_ref (fun R4' q4 => ?_)
  refine e_12 (f_113 (pc := 55) (e := (55, 12, 0, 0, 0, 0, 0, 56)) rfl) rfl ?_
  refine e_100 zA (f_113 (pc := 56) (e := (56, 100, 0, 2, 0, 39, 1070, 59)) rfl) (by omega) (by omega) ?_
  refine ck_new (N' := 90) rfl (fun A5 B5 C5 x5 y5 z5 => ?_)
  refine e_50 (f_113 (pc := 59) (e := (59, 50, 0, 0, 0, 0, 0, 60)) rfl) rfl ?_
  refine e_131 (f_113 (pc := 60) (e := (60, 131, 0, 1, 6, 41, 99999, 63)) rfl) zA (as := [yr (some 89)]) (rest := [yr (some 89), yr (some 0)]) rfl rfl rfl rfl (Nat.le_of_ble_eq_true rfl) (Nat.le_of_ble_eq_true rfl) ⟨_, _, rfl⟩ (mc := 1) (ms := 8) (by omega) (by omega) ?_
  refine w_0 (p := 89) (by rw [x5]; exact yNT_eq _ _ _ _) (by decide) (by decide) (fun T5 R5 I5 u5a u5b u5n m5 _ => ?_)
  have kT5 : ∀ k, k < 89 → T5 k = T4 k := fun k g => by rw [m5.1 k (by omega), x5, yNT_ne _ _ _ (by omega)]
  have kR5 : ∀ k j, k < 89 → R5 k j = R4' k j := fun k j g => by rw [m5.2.1 k j (by omega), y5, yNR_ne _ _ (by omega)]
  have kI5 : ∀ k j, k < 89 → I5 k j = I4 k j := fun k j g => by rw [m5.2.2 k j (by omega), z5, yNI_ne _ _ (by omega)]
  have t0_5 : T5 0 = (20, 10) := by rw [kT5 0 (by omega)]; exact t0_4
  refine e_91 zA (f_113 (pc := 63) (e := (63, 91, 10, 4, 3, 42, 1071, 66)) rfl) rfl t0_5 rfl rfl trivial ?_
  refine ck_ref (fun R5' q5 => ?_)
  refine e_12 (f_113 (pc := 66) (e := (66, 12, 0, 0, 0, 0, 0, 67)) rfl) rfl ?_
  refine e_100 zA (f_113 (pc := 67) (e := (67, 100, 6, 14, 0, 46, 1072, 70)) rfl) (by omega) (by omega) ?_
  refine ck_new (N' := 92) rfl (fun A6 B6 C6 x6 y6 z6 => ?_)
  refine e_50 (f_113 (pc := 70) (e := (70, 50, 0, 0, 0, 0, 0, 71)) rfl) rfl ?_
  refine e_131 (f_113 (pc := 71) (e := (71, 131, 69, 1, 7, 48, 99999, 74)) rfl) zA (as := [yr (some 91)]) (rest := [yr (some 91), yr (some 0)]) rfl rfl rfl rfl (Nat.le_of_ble_eq_true rfl) (Nat.le_of_ble_eq_true rfl) ⟨_, _, rfl⟩ (mc := 9) (ms := 192) (by omega) (by omega) ?_
  refine w_69 (p := 91) (by rw [x6]; exact yNT_eq _ _ _ _) (by decide) (by decide) (fun T6 R6 I6 u6a u6b u6c u6d u6e u6f u6g u6h u6i v6a v6b v6c v6d v6e v6f v6g v6h v6i m6 _ => ?_)
  have kT6 : ∀ k, k < 91 → T6 k = T5 k := fun k g => by rw [m6.1 k (by omega), x6, yNT_ne _ _ _ (by omega)]
  have kR6 : ∀ k j, k < 91 → R6 k j = R5' k j := fun k j g => by rw [m6.2.1 k j (by omega), y6, yNR_ne _ _ (by omega)]
  have kI6 : ∀ k j, k < 91 → I6 k j = I5 k j := fun k j g => by rw [m6.2.2 k j (by omega), z6, yNI_ne _ _ (by omega)]
  have t0_6 : T6 0 = (20, 10) := by rw [kT6 0 (by omega)]; exact t0_5
  refine e_91 zA (f_113 (pc := 74) (e := (74, 91, 10, 5, 3, 49, 1073, 77)) rfl) rfl t0_6 rfl rfl trivial ?_
  refine ck_ref (fun R6' q6 => ?_)
  refine e_12 (f_113 (pc := 77) (e := (77, 12, 0, 0, 0, 0, 0, 78)) rfl) rfl ?_
  refine e_0 (f_113 (pc := 78) (e := (78, 0, 2, 0, 0, 0, 0, 79)) rfl) (v := 2) rfl ?_
  refine e_102 (f_113 (pc := 79) (e := (79, 102, 5, 0, 0, 16, 1062, 82)) rfl) (n := 2) rfl (by decide) (by omega) (by omega) ?_
  refine e_91 zA (f_113 (pc := 82) (e := (82, 91, 10, 6, 3, 53, 1074, 85)) rfl) rfl (show yNT T6 101 5 2 0 = (20, 10) from (yNT_ne _ _ _ (by omega)).trans t0_6) rfl rfl trivial ?_
  refine ck_put (N := 101) (N' := 102) rfl (fun T7 R7 I7 x7 y7 z7 => ?_)
  have t0_7 : T7 0 = (20, 10) := by rw [x7, yNT_ne _ _ _ (by omega)]; exact t0_6
  refine e_12 (f_113 (pc := 85) (e := (85, 12, 0, 0, 0, 0, 0, 86)) rfl) rfl ?_
  refine e_0 (f_113 (pc := 86) (e := (86, 0, 4294967295, 0, 0, 0, 0, 87)) rfl) (v := -1) rfl ?_
  refine e_91 zA (f_113 (pc := 87) (e := (87, 91, 10, 7, 0, 57, 1075, 90)) rfl) rfl t0_7 rfl rfl trivial ?_
  refine e_12 (f_113 (pc := 90) (e := (90, 12, 0, 0, 0, 0, 0, 91)) rfl) rfl ?_
  refine e_0 (f_113 (pc := 91) (e := (91, 0, 4294967295, 0, 0, 0, 0, 92)) rfl) (v := -1) rfl ?_
  refine e_91 zA (f_113 (pc := 92) (e := (92, 91, 10, 8, 0, 61, 1076, 95)) rfl) rfl t0_7 rfl rfl trivial ?_
  refine e_12 (f_113 (pc := 95) (e := (95, 12, 0, 0, 0, 0, 0, 96)) rfl) rfl ?_
  refine e_0 (f_113 (pc := 96) (e := (96, 0, 4294967295, 0, 0, 0, 0, 97)) rfl) (v := -1) rfl ?_
  refine e_91 zA (f_113 (pc := 97) (e := (97, 91, 10, 9, 0, 64, 1077, 100)) rfl) rfl t0_7 rfl rfl trivial ?_
  show yW l zSS D cy zFk z _ 113 bc bs K _ _ _ _ _ (_, _, _, yU (yU (yU I7 0 7 (-1)) 0 8 (-1)) 0 9 (-1))
  have w2' : cWd T7 R7 3 := cWd_cg w2 (fun k _ _ => by rw [x7, yNT_ne _ _ _ (by omega), kT6 _ (by omega), kT5 _ (by omega), kT4 _ (by omega), kT3 _ (by omega)]) (fun k j _ _ => by rw [y7, yUR_ne _ _ (by omega), yNR_ne _ _ (by omega), q6, yUR_ne _ _ (by omega), kR6 _ _ (by omega), q5, yUR_ne _ _ (by omega), kR5 _ _ (by omega), q4, yUR_ne _ _ (by omega), kR4 _ _ (by omega), q3, yUR_ne _ _ (by omega), kR3 _ _ (by omega), q2, yUR_ne _ _ (by omega)])
  have w3' : cWd T7 R7 35 := cWd_cg w3 (fun k _ _ => by rw [x7, yNT_ne _ _ _ (by omega), kT6 _ (by omega), kT5 _ (by omega), kT4 _ (by omega)]) (fun k j _ _ => by rw [y7, yUR_ne _ _ (by omega), yNR_ne _ _ (by omega), q6, yUR_ne _ _ (by omega), kR6 _ _ (by omega), q5, yUR_ne _ _ (by omega), kR5 _ _ (by omega), q4, yUR_ne _ _ (by omega), kR4 _ _ (by omega), q3, yUR_ne _ _ (by omega)])
  have s4' : yAtState T7 R7 68 := yAtState_cg a4 (fun k _ _ => by rw [x7, yNT_ne _ _ _ (by omega), kT6 _ (by omega), kT5 _ (by omega)]) (fun j => by rw [y7, yUR_ne _ _ (by omega), yNR_ne _ _ (by omega), q6, yUR_ne _ _ (by omega), kR6 _ _ (by omega), q5, yUR_ne _ _ (by omega), kR5 _ _ (by omega), q4, yUR_ne _ _ (by omega)])
  have hT7 : ∀ k, k < 102 → T7 k = yT0 k := by
    intro k hk
    by_cases c3 : k < 3
    · rcases (show k = 0 ∨ k = 1 ∨ k = 2 by omega) with rfl | rfl | rfl
      · exact t0_7
      · rw [x7, yNT_ne _ _ _ (by omega), kT6 _ (by omega), kT5 _ (by omega), kT4 _ (by omega), kT3 _ (by omega), kT2 _ (by omega), m1.1 1 (Nat.le_refl _), x1, yNT_eq]; rfl
      · rw [x7, yNT_ne _ _ _ (by omega), kT6 _ (by omega), kT5 _ (by omega), kT4 _ (by omega), kT3 _ (by omega), kT2 _ (by omega)]; exact u1a
    by_cases c35 : k < 35
    · have := w2'.1.1 (k - 3) (Nat.ble_eq.mpr (by omega))
      rw [show 3 + (k - 3) = k by omega] at this
      rw [this]
      exact (by decide : ∀ j : Fin 32, yTWorld j.1 = yT0 (3 + j.1)) ⟨k - 3, by omega⟩ |>.trans (by rw [show 3 + (k - 3) = k by omega])
    by_cases c67 : k < 67
    · have := w3'.1.1 (k - 35) (Nat.ble_eq.mpr (by omega))
      rw [show 35 + (k - 35) = k by omega] at this
      rw [this]
      exact (by decide : ∀ j : Fin 32, yTWorld j.1 = yT0 (35 + j.1)) ⟨k - 35, by omega⟩ |>.trans (by rw [show 35 + (k - 35) = k by omega])
    by_cases c68 : k < 68
    · rw [show k = 67 by omega, x7, yNT_ne _ _ _ (by omega), kT6 _ (by omega), kT5 _ (by omega), m4.1 67 (Nat.le_refl _), x4, yNT_eq]; rfl
    by_cases c81 : k < 81
    · have := s4'.1 (k - 68) (Nat.ble_eq.mpr (by omega))
      rw [show 68 + (k - 68) = k by omega] at this
      rw [this]
      exact (by decide : ∀ j : Fin 13, yTState j.1 = yT0 (68 + j.1)) ⟨k - 68, by omega⟩ |>.trans (by rw [show 68 + (k - 68) = k by omega])
    rcases (show k = 81 ∨ k = 82 ∨ k = 83 ∨ k = 84 ∨ k = 85 ∨ k = 86 ∨ k = 87 ∨ k = 88 ∨ k = 89 ∨ k = 90 ∨ k = 91 ∨ k = 92 ∨ k = 93 ∨ k = 94 ∨ k = 95 ∨ k = 96 ∨ k = 97 ∨ k = 98 ∨ k = 99 ∨ k = 100 ∨ k = 101 by omega) with rfl | rfl | rfl | rfl | rfl | rfl | rfl | rfl | rfl | rfl | rfl | rfl | rfl | rfl | rfl | rfl | rfl | rfl | rfl | rfl | rfl
    · rw [x7, yNT_ne _ _ _ (by omega), kT6 _ (by omega), kT5 _ (by omega)]; exact b4a
    · rw [x7, yNT_ne _ _ _ (by omega), kT6 _ (by omega), kT5 _ (by omega)]; exact b4b
    · rw [x7, yNT_ne _ _ _ (by omega), kT6 _ (by omega), kT5 _ (by omega)]; exact b4c
    · rw [x7, yNT_ne _ _ _ (by omega), kT6 _ (by omega), kT5 _ (by omega)]; exact b4d
    · rw [x7, yNT_ne _ _ _ (by omega), kT6 _ (by omega), kT5 _ (by omega)]; exact b4e
    · rw [x7, yNT_ne _ _ _ (by omega), kT6 _ (by omega), kT5 _ (by omega)]; exact b4f
    · rw [x7, yNT_ne _ _ _ (by omega), kT6 _ (by omega), kT5 _ (by omega)]; exact b4g
    · rw [x7, yNT_ne _ _ _ (by omega), kT6 _ (by omega), kT5 _ (by omega)]; exact b4h
    · rw [x7, yNT_ne _ _ _ (by omega), kT6 _ (by omega), m5.1 89 (Nat.le_refl _), x5, yNT_eq]; rfl
    · rw [x7, yNT_ne _ _ _ (by omega), kT6 _ (by omega)]; exact u5a
    · rw [x7, yNT_ne _ _ _ (by omega), m6.1 91 (Nat.le_refl _), x6, yNT_eq]; rfl
    · rw [x7, yNT_ne _ _ _ (by omega)]; exact u6a
    · rw [x7, yNT_ne _ _ _ (by omega)]; exact u6b
    · rw [x7, yNT_ne _ _ _ (by omega)]; exact u6c
    · rw [x7, yNT_ne _ _ _ (by omega)]; exact u6d
    · rw [x7, yNT_ne _ _ _ (by omega)]; exact u6e
    · rw [x7, yNT_ne _ _ _ (by omega)]; exact u6f
    · rw [x7, yNT_ne _ _ _ (by omega)]; exact u6g
    · rw [x7, yNT_ne _ _ _ (by omega)]; exact u6h
    · rw [x7, yNT_ne _ _ _ (by omega)]; exact u6i
    · rw [x7, yNT_eq]; rfl
  have hR7 : ∀ k j, k < 102 → yS0 k j = true → R7 k j = yR0 k j := by
    intro k j hk hs
    have j15 := yS0_57 hs
    have ob : k = 0 ∨ k = 1 ∨ k = 3 ∨ k = 4 ∨ k = 16 ∨ k = 29 ∨ k = 31 ∨ k = 35 ∨ k = 36 ∨ k = 48 ∨ k = 61 ∨ k = 63 ∨ k = 67 ∨ k = 68 ∨ k = 85 ∨ k = 89 ∨ k = 91 := by
      have := (by decide +kernel : ∀ k : Fin 102, ∀ j : Fin 57, yS0 k.1 j.1 = true → k.1 ∈ [0, 1, 3, 4, 16, 29, 31, 35, 36, 48, 61, 63, 67, 68, 85, 89, 91]) ⟨k, hk⟩ ⟨j, j15⟩ hs
      simpa using this
    rcases ob with rfl | rfl | rfl | rfl | rfl | rfl | rfl | rfl | rfl | rfl | rfl | rfl | rfl | rfl | rfl | rfl | rfl
    · have jj := (by decide +kernel : ∀ j : Fin 57, yS0 0 j.1 = true → j.1 ∈ [0, 1, 2, 3, 4, 5, 6]) ⟨j, j15⟩ hs
      have jj : j = 0 ∨ j = 1 ∨ j = 2 ∨ j = 3 ∨ j = 4 ∨ j = 5 ∨ j = 6 := by simpa using jj
      rcases jj with rfl | rfl | rfl | rfl | rfl | rfl | rfl
      · rw [y7, yUR_ne _ _ (by omega), yNR_ne _ _ (by omega), q6, yUR_ne _ _ (by omega), kR6 _ _ (by omega), q5, yUR_ne _ _ (by omega), kR5 _ _ (by omega), q4, yUR_ne _ _ (by omega), kR4 _ _ (by omega), q3, yUR_ne _ _ (by omega), kR3 _ _ (by omega), q2, yUR_ne _ _ (by omega), kR2 _ _ (by omega), q1, yUR_eq]; rfl
      · rw [y7, yUR_ne _ _ (by omega), yNR_ne _ _ (by omega), q6, yUR_ne _ _ (by omega), kR6 _ _ (by omega), q5, yUR_ne _ _ (by omega), kR5 _ _ (by omega), q4, yUR_ne _ _ (by omega), kR4 _ _ (by omega), q3, yUR_ne _ _ (by omega), kR3 _ _ (by omega), q2, yUR_eq]; rfl
      · rw [y7, yUR_ne _ _ (by omega), yNR_ne _ _ (by omega), q6, yUR_ne _ _ (by omega), kR6 _ _ (by omega), q5, yUR_ne _ _ (by omega), kR5 _ _ (by omega), q4, yUR_ne _ _ (by omega), kR4 _ _ (by omega), q3, yUR_eq]; rfl
      · rw [y7, yUR_ne _ _ (by omega), yNR_ne _ _ (by omega), q6, yUR_ne _ _ (by omega), kR6 _ _ (by omega), q5, yUR_ne _ _ (by omega), kR5 _ _ (by omega), q4, yUR_eq]; rfl
      · rw [y7, yUR_ne _ _ (by omega), yNR_ne _ _ (by omega), q6, yUR_ne _ _ (by omega), kR6 _ _ (by omega), q5, yUR_eq]; rfl
      · rw [y7, yUR_ne _ _ (by omega), yNR_ne _ _ (by omega), q6, yUR_eq]; rfl
      · rw [y7, yUR_eq]; rfl
    · have jj := (by decide +kernel : ∀ j : Fin 57, yS0 1 j.1 = true → j.1 ∈ [0]) ⟨j, j15⟩ hs
      have jj : j = 0 := by simpa using jj
      subst jj
      rw [y7, yUR_ne _ _ (by omega), yNR_ne _ _ (by omega), q6, yUR_ne _ _ (by omega), kR6 _ _ (by omega), q5, yUR_ne _ _ (by omega), kR5 _ _ (by omega), q4, yUR_ne _ _ (by omega), kR4 _ _ (by omega), q3, yUR_ne _ _ (by omega), kR3 _ _ (by omega), q2, yUR_ne _ _ (by omega), kR2 _ _ (by omega), q1, yUR_ne _ _ (by omega)]; exact u1b
    · have g := (by decide +kernel : ∀ j : Fin 57, yS0 3 j.1 = true → ySWorld j.1 = true ∧ yR0 3 j.1 = some (3 + yOWorld j.1)) ⟨j, j15⟩ hs
      rw [w2'.1.2 j g.1]; exact g.2.symm
    · have g := (by decide +kernel : ∀ j : Fin 57, yS0 4 j.1 = true → ySLand j.1 = true ∧ yR0 4 j.1 = some (4 + yOLand j.1)) ⟨j, j15⟩ hs
      rw [w2'.2.1.2 j g.1]; exact g.2.symm
    · have g := (by decide +kernel : ∀ j : Fin 57, yS0 16 j.1 = true → ySState j.1 = true ∧ yR0 16 j.1 = some (16 + yOState j.1)) ⟨j, j15⟩ hs
      rw [w2'.2.2.1.2 j g.1]; exact g.2.symm
    · have g := (by decide +kernel : ∀ j : Fin 57, yS0 29 j.1 = true → ySPlan j.1 = true ∧ yR0 29 j.1 = some (29 + yOPlan j.1)) ⟨j, j15⟩ hs
      rw [w2'.2.2.2.1.2 j g.1]; exact g.2.symm
    · have g := (by decide +kernel : ∀ j : Fin 57, yS0 31 j.1 = true → ySSentence j.1 = true ∧ yR0 31 j.1 = some (31 + yOSentence j.1)) ⟨j, j15⟩ hs
      rw [w2'.2.2.2.2.2 j g.1]; exact g.2.symm
    · have g := (by decide +kernel : ∀ j : Fin 57, yS0 35 j.1 = true → ySWorld j.1 = true ∧ yR0 35 j.1 = some (35 + yOWorld j.1)) ⟨j, j15⟩ hs
      rw [w3'.1.2 j g.1]; exact g.2.symm
    · have g := (by decide +kernel : ∀ j : Fin 57, yS0 36 j.1 = true → ySLand j.1 = true ∧ yR0 36 j.1 = some (36 + yOLand j.1)) ⟨j, j15⟩ hs
      rw [w3'.2.1.2 j g.1]; exact g.2.symm
    · have g := (by decide +kernel : ∀ j : Fin 57, yS0 48 j.1 = true → ySState j.1 = true ∧ yR0 48 j.1 = some (48 + yOState j.1)) ⟨j, j15⟩ hs
      rw [w3'.2.2.1.2 j g.1]; exact g.2.symm
    · have g := (by decide +kernel : ∀ j : Fin 57, yS0 61 j.1 = true → ySPlan j.1 = true ∧ yR0 61 j.1 = some (61 + yOPlan j.1)) ⟨j, j15⟩ hs
      rw [w3'.2.2.2.1.2 j g.1]; exact g.2.symm
    · have g := (by decide +kernel : ∀ j : Fin 57, yS0 63 j.1 = true → ySSentence j.1 = true ∧ yR0 63 j.1 = some (63 + yOSentence j.1)) ⟨j, j15⟩ hs
      rw [w3'.2.2.2.2.2 j g.1]; exact g.2.symm
    · have jj := (by decide +kernel : ∀ j : Fin 57, yS0 67 j.1 = true → j.1 ∈ [0, 1, 2, 3, 4, 5, 6]) ⟨j, j15⟩ hs
      have jj : j = 0 ∨ j = 1 ∨ j = 2 ∨ j = 3 ∨ j = 4 ∨ j = 5 ∨ j = 6 := by simpa using jj
      rcases jj with rfl | rfl | rfl | rfl | rfl | rfl | rfl
      · rw [y7, yUR_ne _ _ (by omega), yNR_ne _ _ (by omega), q6, yUR_ne _ _ (by omega), kR6 _ _ (by omega), q5, yUR_ne _ _ (by omega), kR5 _ _ (by omega), q4, yUR_ne _ _ (by omega)]; exact c4a
      · rw [y7, yUR_ne _ _ (by omega), yNR_ne _ _ (by omega), q6, yUR_ne _ _ (by omega), kR6 _ _ (by omega), q5, yUR_ne _ _ (by omega), kR5 _ _ (by omega), q4, yUR_ne _ _ (by omega)]; exact c4b
      · rw [y7, yUR_ne _ _ (by omega), yNR_ne _ _ (by omega), q6, yUR_ne _ _ (by omega), kR6 _ _ (by omega), q5, yUR_ne _ _ (by omega), kR5 _ _ (by omega), q4, yUR_ne _ _ (by omega)]; exact c4c
      · rw [y7, yUR_ne _ _ (by omega), yNR_ne _ _ (by omega), q6, yUR_ne _ _ (by omega), kR6 _ _ (by omega), q5, yUR_ne _ _ (by omega), kR5 _ _ (by omega), q4, yUR_ne _ _ (by omega)]; exact c4d
      · rw [y7, yUR_ne _ _ (by omega), yNR_ne _ _ (by omega), q6, yUR_ne _ _ (by omega), kR6 _ _ (by omega), q5, yUR_ne _ _ (by omega), kR5 _ _ (by omega), q4, yUR_ne _ _ (by omega)]; exact c4e
      · rw [y7, yUR_ne _ _ (by omega), yNR_ne _ _ (by omega), q6, yUR_ne _ _ (by omega), kR6 _ _ (by omega), q5, yUR_ne _ _ (by omega), kR5 _ _ (by omega), q4, yUR_ne _ _ (by omega)]; exact c4f
      · rw [y7, yUR_ne _ _ (by omega), yNR_ne _ _ (by omega), q6, yUR_ne _ _ (by omega), kR6 _ _ (by omega), q5, yUR_ne _ _ (by omega), kR5 _ _ (by omega), q4, yUR_ne _ _ (by omega)]; exact c4g
    · have g := (by decide +kernel : ∀ j : Fin 57, yS0 68 j.1 = true → ySState j.1 = true ∧ yR0 68 j.1 = some (68 + yOState j.1)) ⟨j, j15⟩ hs
      rw [s4'.2 j g.1]; exact g.2.symm
    · have jj := (by decide +kernel : ∀ j : Fin 57, yS0 85 j.1 = true → j.1 ∈ [0, 1, 2, 3]) ⟨j, j15⟩ hs
      have jj : j = 0 ∨ j = 1 ∨ j = 2 ∨ j = 3 := by simpa using jj
      rcases jj with rfl | rfl | rfl | rfl
      · rw [y7, yUR_ne _ _ (by omega), yNR_ne _ _ (by omega), q6, yUR_ne _ _ (by omega), kR6 _ _ (by omega), q5, yUR_ne _ _ (by omega), kR5 _ _ (by omega), q4, yUR_ne _ _ (by omega)]; exact c4h
      · rw [y7, yUR_ne _ _ (by omega), yNR_ne _ _ (by omega), q6, yUR_ne _ _ (by omega), kR6 _ _ (by omega), q5, yUR_ne _ _ (by omega), kR5 _ _ (by omega), q4, yUR_ne _ _ (by omega)]; exact c4i
      · rw [y7, yUR_ne _ _ (by omega), yNR_ne _ _ (by omega), q6, yUR_ne _ _ (by omega), kR6 _ _ (by omega), q5, yUR_ne _ _ (by omega), kR5 _ _ (by omega), q4, yUR_ne _ _ (by omega)]; exact c4j
      · rw [y7, yUR_ne _ _ (by omega), yNR_ne _ _ (by omega), q6, yUR_ne _ _ (by omega), kR6 _ _ (by omega), q5, yUR_ne _ _ (by omega), kR5 _ _ (by omega), q4, yUR_ne _ _ (by omega)]; exact c4k
    · have jj := (by decide +kernel : ∀ j : Fin 57, yS0 89 j.1 = true → j.1 ∈ [0]) ⟨j, j15⟩ hs
      have jj : j = 0 := by simpa using jj
      subst jj
      rw [y7, yUR_ne _ _ (by omega), yNR_ne _ _ (by omega), q6, yUR_ne _ _ (by omega), kR6 _ _ (by omega), q5, yUR_ne _ _ (by omega)]; exact u5b
    · have jj := (by decide +kernel : ∀ j : Fin 57, yS0 91 j.1 = true → j.1 ∈ [3, 4, 5, 6, 7, 8]) ⟨j, j15⟩ hs
      have jj : j = 3 ∨ j = 4 ∨ j = 5 ∨ j = 6 ∨ j = 7 ∨ j = 8 := by simpa using jj
      rcases jj with rfl | rfl | rfl | rfl | rfl | rfl
      · rw [y7, yUR_ne _ _ (by omega), yNR_ne _ _ (by omega), q6, yUR_ne _ _ (by omega)]; exact v6a
      · rw [y7, yUR_ne _ _ (by omega), yNR_ne _ _ (by omega), q6, yUR_ne _ _ (by omega)]; exact v6b
      · rw [y7, yUR_ne _ _ (by omega), yNR_ne _ _ (by omega), q6, yUR_ne _ _ (by omega)]; exact v6c
      · rw [y7, yUR_ne _ _ (by omega), yNR_ne _ _ (by omega), q6, yUR_ne _ _ (by omega)]; exact v6d
      · rw [y7, yUR_ne _ _ (by omega), yNR_ne _ _ (by omega), q6, yUR_ne _ _ (by omega)]; exact v6e
      · rw [y7, yUR_ne _ _ (by omega), yNR_ne _ _ (by omega), q6, yUR_ne _ _ (by omega)]; exact v6f
  refine e_122 (f_113 (pc := 100) (e := (100, 122, 0, 0, 0, 0, 0, 0)) rfl) (hk T7 R7 _ hT7 hR7 ?_ ?_ ?_ ?_ ?_ (fun j => ?_) (fun j => ?_) ?_ ?_ ?_)
  · unfold cLd
    rw [yU_ne _ _ (by omega), yU_ne _ _ (by omega), yU_ne _ _ (by omega), yU_ne _ _ (by omega), yU_ne _ _ (by omega), yU_ne _ _ (by omega)]
    have e : ∀ j, I7 4 j = I2 4 j := fun j => by rw [z7, yNI_ne _ _ (by omega), kI6 _ _ (by omega), kI5 _ _ (by omega), kI4 _ _ (by omega), kI3 _ _ (by omega)]
    rw [e, e]; exact l2
  · rw [yU_ne _ _ (by omega), yU_ne _ _ (by omega), yU_ne _ _ (by omega), z7, yNI_ne _ _ (by omega), kI6 _ _ (by omega), kI5 _ _ (by omega), kI4 _ _ (by omega), kI3 _ _ (by omega)]; exact c2
  · rw [yU_ne _ _ (by omega), yU_ne _ _ (by omega), yU_ne _ _ (by omega), z7, yNI_ne _ _ (by omega), kI6 _ _ (by omega), kI5 _ _ (by omega), kI4 _ _ (by omega), kI3 _ _ (by omega), kI2 _ _ (by omega), m1.2.2 1 1 (Nat.le_refl _), z1, yNI_eq]
  · rw [yU_ne _ _ (by omega), yU_ne _ _ (by omega), yU_ne _ _ (by omega), z7, yNI_ne _ _ (by omega), kI6 _ _ (by omega), kI5 _ _ (by omega), kI4 _ _ (by omega), kI3 _ _ (by omega), kI2 _ _ (by omega), m1.2.2 1 10 (Nat.le_refl _), z1, yNI_eq]
  · rw [yU_ne _ _ (by omega), yU_ne _ _ (by omega), yU_ne _ _ (by omega), z7, yNI_ne _ _ (by omega), kI6 _ _ (by omega), m5.2.2 89 1 (Nat.le_refl _), z5, yNI_eq]
  · rw [y7, yUR_ne _ _ (by omega), yNR_ne _ _ (by omega), q6, yUR_ne _ _ (by omega), kR6 _ _ (by omega), q5, yUR_ne _ _ (by omega)]; exact u5n j
  · rw [y7, yUR_ne _ _ (by omega), yNR_eq]
  · rw [y7, yUR_ne _ _ (by omega), yNR_ne _ _ (by omega), q6, yUR_ne _ _ (by omega)]; exact v6g
  · rw [y7, yUR_ne _ _ (by omega), yNR_ne _ _ (by omega), q6, yUR_ne _ _ (by omega)]; exact v6h
  · rw [y7, yUR_ne _ _ (by omega), yNR_ne _ _ (by omega), q6, yUR_ne _ _ (by omega)]; exact v6i
end Sy
