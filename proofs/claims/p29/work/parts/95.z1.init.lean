/-! CONTRACTS of the class: constructors, printed by wip/whole/y/gen96.py -/
/-- what lies ahead of p stays -/
def cMk (p : Nat) (T : Nat → Nat × Nat) (R : Nat → Nat → Option Nat) (I : Nat → Nat → Int) (T' : Nat → Nat × Nat) (R' : Nat → Nat → Option Nat) (I' : Nat → Nat → Int) : Prop := (∀ k, k ≤ p → T' k = T k) ∧ (∀ k j, k < p → R' k j = R k j) ∧ ∀ k j, k ≤ p → I' k j = I k j
theorem cMk_0 {p : Nat} {T : Nat → Nat × Nat} {R : Nat → Nat → Option Nat} {I : Nat → Nat → Int} : cMk p T R I T R I := ⟨fun _ _ => rfl, fun _ _ _ => rfl, fun _ _ _ => rfl⟩
theorem cMk_s {p N c n f : Nat} {r : Option Nat} {T T1 T2 : Nat → Nat × Nat} {R R1 R2 : Nat → Nat → Option Nat} {I I1 I2 : Nat → Nat → Int} (h : cMk p T R I T1 R1 I1) (hN : p < N) (eT : T2 = yNT T1 N c n) (eR : R2 = yUR (yNR R1 N) p f r) (eI : I2 = yNI I1 N) : cMk p T R I T2 R2 I2 := by
  refine ⟨fun k hk => ?_, fun k j hk => ?_, fun k j hk => ?_⟩
  · rw [eT, yNT_ne _ _ _ (by omega)]; exact h.1 k hk
  · rw [eR, yUR_ne _ _ (by omega), yNR_ne _ _ (by omega)]; exact h.2.1 k j hk
  · rw [eI, yNI_ne _ _ (by omega)]; exact h.2.2 k j hk
theorem cT_s {p i c n N : Nat} {T T' : Nat → Nat × Nat} {tab : Nat → Nat × Nat} (h : ∀ j, j < i → T (p + j) = tab j) (eT : T' = yNT T N c n) (hN : N = p + i) (ht : tab i = (c, n)) : ∀ j, j < i + 1 → T' (p + j) = tab j := by
  intro j hj
  subst hN
  rw [eT]
  by_cases e : j = i
  · subst e; rw [yNT_eq, ht]
  · rw [yNT_ne _ _ _ (by omega)]; exact h j (by omega)
theorem cR_s {p f N : Nat} {R R' : Nat → Nat → Option Nat} {off : Nat → Nat} {L : List Nat} (h : ∀ j, j ∈ L → R p j = some (p + off j)) (eR : R' = yUR (yNR R N) p f (some N)) (hp : p < N) (hN : N = p + off f) : ∀ j, j ∈ f :: L → R' p j = some (p + off j) := by
  intro j hj
  rw [eR]
  by_cases e : j = f
  · subst e; rw [yUR_eq, ← hN]
  · rw [yUR_ne _ _ (fun q => e q.2), yNR_ne _ _ (by omega)]
    rcases List.mem_cons.mp hj with q | q
    · exact absurd q e
    · exact h j q
section Cc
variable {l : Launch} {D : va_G} {cy : Nat → ClassId} {z d bc bs nc nl N : Nat} {T : Nat → Nat × Nat} {R : Nat → Nat → Option Nat} {I : Nat → Nat → Int} {K : yKo} {mi pc : Nat} {lo : yL} {st : List yV}
theorem ck_put {N N' c n p f : Nat} (hN : N' = N + 1) (hk : ∀ T' R' I', T' = yNT T N c n → R' = yUR (yNR R N) p f (some N) → I' = yNI I N → yW l zSS D cy zFk z d mi bc bs K nc nl pc lo st (N', T', R', I')) : yW l zSS D cy zFk z d mi bc bs K nc nl pc lo st (yPut (yNw (N, T, R, I) c n) p f (yr (some N))) := by
  subst hN
  exact hk _ _ _ rfl rfl rfl
set_option maxRecDepth 20000 in
/-- ChairAlley$State.<init> -/
theorem w_55 {p : Nat} (hp : T p = (15, 14)) (hb1 : 12 ≤ bc) (hb2 : 480 ≤ bs) (hk : ∀ T' R' I', yAtState T' R' p → cMk p T R I T' R' I' → K none (p + 13, T', R', I')) :
    yW l zSS D cy zFk z (d + 1) 55 bc bs K 0 0 0 [(0, yr (some p))] [] (p + 1, T, R, I) := by
  have m0 : cMk p T R I T R I := cMk_0
  have p0 : T p = (15, 14) := hp
  have a0 : ∀ j, j < 1 → T (p + j) = yTState j := fun j hj => by rw [show j = 0 by omega]; exact hp
  have s0 : ∀ j, j ∈ ([] : List Nat) → R p j = some (p + yOState j) := fun j hj => absurd hj List.not_mem_nil
  refine e_12 (f_55 (pc := 0) (e := (0, 12, 0, 0, 0, 0, 0, 1)) rfl) rfl ?_
  refine e_133 (f_55 (pc := 1) (e := (1, 133, 0, 0, 0, 3, 908, 4)) rfl) zA rfl (Nat.succ_pos _) (Nat.le_of_ble_eq_true rfl) ?_
  refine e_12 (f_55 (pc := 4) (e := (4, 12, 0, 0, 0, 0, 0, 5)) rfl) rfl ?_
  refine e_1 (f_55 (pc := 5) (e := (5, 1, 100, 0, 0, 0, 0, 7)) rfl) (v := 100) rfl ?_
  refine e_101 (f_55 (pc := 7) (e := (7, 101, 1, 0, 0, 0, 0, 9)) rfl) zA (n := 100) rfl (by decide) (by omega) (by omega) ?_
  refine e_91 zA (f_55 (pc := 9) (e := (9, 91, 5, 1, 3, 9, 909, 12)) rfl) rfl (show yNT T (p + 1) 1 100 p = (15, 14) from (yNT_ne _ _ _ (by omega)).trans p0) rfl rfl trivial ?_
  refine ck_put (N := p + 1) (N' := p + 2) rfl (fun T1 R1 I1 eT eR eI => ?_)
  have m1 := cMk_s m0 (by omega) eT eR eI
  have p1 : T1 p = (15, 14) := by rw [eT, yNT_ne _ _ _ (by omega)]; exact p0
  have a1 := cT_s a0 eT (show p + 1 = p + 1 from rfl) (show yTState 1 = (1, 100) from rfl)
  have s1 := cR_s s0 eR (by omega) (show p + 1 = p + yOState 1 from rfl)
  clear eT eR eI
  refine e_12 (f_55 (pc := 12) (e := (12, 12, 0, 0, 0, 0, 0, 13)) rfl) rfl ?_
  refine e_1 (f_55 (pc := 13) (e := (13, 1, 8, 0, 0, 0, 0, 15)) rfl) (v := 8) rfl ?_
  refine e_101 (f_55 (pc := 15) (e := (15, 101, 1, 0, 0, 0, 0, 17)) rfl) zA (n := 8) rfl (by decide) (by omega) (by omega) ?_
  refine e_91 zA (f_55 (pc := 17) (e := (17, 91, 5, 2, 3, 15, 910, 20)) rfl) rfl (show yNT T1 (p + 2) 1 8 p = (15, 14) from (yNT_ne _ _ _ (by omega)).trans p1) rfl rfl trivial ?_
  refine ck_put (N := p + 2) (N' := p + 3) rfl (fun T2 R2 I2 eT eR eI => ?_)
  have m2 := cMk_s m1 (by omega) eT eR eI
  have p2 : T2 p = (15, 14) := by rw [eT, yNT_ne _ _ _ (by omega)]; exact p1
  have a2 := cT_s a1 eT (show p + 2 = p + 2 from rfl) (show yTState 2 = (1, 8) from rfl)
  have s2 := cR_s s1 eR (by omega) (show p + 2 = p + yOState 2 from rfl)
  clear eT eR eI
  refine e_12 (f_55 (pc := 20) (e := (20, 12, 0, 0, 0, 0, 0, 21)) rfl) rfl ?_
  refine e_1 (f_55 (pc := 21) (e := (21, 1, 8, 0, 0, 0, 0, 23)) rfl) (v := 8) rfl ?_
  refine e_101 (f_55 (pc := 23) (e := (23, 101, 1, 0, 0, 0, 0, 25)) rfl) zA (n := 8) rfl (by decide) (by omega) (by omega) ?_
  refine e_91 zA (f_55 (pc := 25) (e := (25, 91, 5, 3, 3, 18, 911, 28)) rfl) rfl (show yNT T2 (p + 3) 1 8 p = (15, 14) from (yNT_ne _ _ _ (by omega)).trans p2) rfl rfl trivial ?_
  refine ck_put (N := p + 3) (N' := p + 4) rfl (fun T3 R3 I3 eT eR eI => ?_)
  have m3 := cMk_s m2 (by omega) eT eR eI
  have p3 : T3 p = (15, 14) := by rw [eT, yNT_ne _ _ _ (by omega)]; exact p2
  have a3 := cT_s a2 eT (show p + 3 = p + 3 from rfl) (show yTState 3 = (1, 8) from rfl)
  have s3 := cR_s s2 eR (by omega) (show p + 3 = p + yOState 3 from rfl)
  clear eT eR eI
  refine e_12 (f_55 (pc := 28) (e := (28, 12, 0, 0, 0, 0, 0, 29)) rfl) rfl ?_
  refine e_1 (f_55 (pc := 29) (e := (29, 1, 8, 0, 0, 0, 0, 31)) rfl) (v := 8) rfl ?_
  refine e_101 (f_55 (pc := 31) (e := (31, 101, 1, 0, 0, 0, 0, 33)) rfl) zA (n := 8) rfl (by decide) (by omega) (by omega) ?_
  refine e_91 zA (f_55 (pc := 33) (e := (33, 91, 5, 4, 3, 21, 912, 36)) rfl) rfl (show yNT T3 (p + 4) 1 8 p = (15, 14) from (yNT_ne _ _ _ (by omega)).trans p3) rfl rfl trivial ?_
  refine ck_put (N := p + 4) (N' := p + 5) rfl (fun T4 R4 I4 eT eR eI => ?_)
  have m4 := cMk_s m3 (by omega) eT eR eI
  have p4 : T4 p = (15, 14) := by rw [eT, yNT_ne _ _ _ (by omega)]; exact p3
  have a4 := cT_s a3 eT (show p + 4 = p + 4 from rfl) (show yTState 4 = (1, 8) from rfl)
  have s4 := cR_s s3 eR (by omega) (show p + 4 = p + yOState 4 from rfl)
  clear eT eR eI
  refine e_12 (f_55 (pc := 36) (e := (36, 12, 0, 0, 0, 0, 0, 37)) rfl) rfl ?_
  refine e_1 (f_55 (pc := 37) (e := (37, 1, 8, 0, 0, 0, 0, 39)) rfl) (v := 8) rfl ?_
  refine e_101 (f_55 (pc := 39) (e := (39, 101, 1, 0, 0, 0, 0, 41)) rfl) zA (n := 8) rfl (by decide) (by omega) (by omega) ?_
  refine e_91 zA (f_55 (pc := 41) (e := (41, 91, 5, 5, 3, 24, 913, 44)) rfl) rfl (show yNT T4 (p + 5) 1 8 p = (15, 14) from (yNT_ne _ _ _ (by omega)).trans p4) rfl rfl trivial ?_
  refine ck_put (N := p + 5) (N' := p + 6) rfl (fun T5 R5 I5 eT eR eI => ?_)
  have m5 := cMk_s m4 (by omega) eT eR eI
  have p5 : T5 p = (15, 14) := by rw [eT, yNT_ne _ _ _ (by omega)]; exact p4
  have a5 := cT_s a4 eT (show p + 5 = p + 5 from rfl) (show yTState 5 = (1, 8) from rfl)
  have s5 := cR_s s4 eR (by omega) (show p + 5 = p + yOState 5 from rfl)
  clear eT eR eI
  refine e_12 (f_55 (pc := 44) (e := (44, 12, 0, 0, 0, 0, 0, 45)) rfl) rfl ?_
  refine e_1 (f_55 (pc := 45) (e := (45, 1, 8, 0, 0, 0, 0, 47)) rfl) (v := 8) rfl ?_
  refine e_101 (f_55 (pc := 47) (e := (47, 101, 1, 0, 0, 0, 0, 49)) rfl) zA (n := 8) rfl (by decide) (by omega) (by omega) ?_
  refine e_91 zA (f_55 (pc := 49) (e := (49, 91, 5, 6, 3, 27, 914, 52)) rfl) rfl (show yNT T5 (p + 6) 1 8 p = (15, 14) from (yNT_ne _ _ _ (by omega)).trans p5) rfl rfl trivial ?_
  refine ck_put (N := p + 6) (N' := p + 7) rfl (fun T6 R6 I6 eT eR eI => ?_)
  have m6 := cMk_s m5 (by omega) eT eR eI
  have p6 : T6 p = (15, 14) := by rw [eT, yNT_ne _ _ _ (by omega)]; exact p5
  have a6 := cT_s a5 eT (show p + 6 = p + 6 from rfl) (show yTState 6 = (1, 8) from rfl)
  have s6 := cR_s s5 eR (by omega) (show p + 6 = p + yOState 6 from rfl)
  clear eT eR eI
  refine e_12 (f_55 (pc := 52) (e := (52, 12, 0, 0, 0, 0, 0, 53)) rfl) rfl ?_
  refine e_1 (f_55 (pc := 53) (e := (53, 1, 8, 0, 0, 0, 0, 55)) rfl) (v := 8) rfl ?_
  refine e_101 (f_55 (pc := 55) (e := (55, 101, 1, 0, 0, 0, 0, 57)) rfl) zA (n := 8) rfl (by decide) (by omega) (by omega) ?_
  refine e_91 zA (f_55 (pc := 57) (e := (57, 91, 5, 7, 3, 30, 915, 60)) rfl) rfl (show yNT T6 (p + 7) 1 8 p = (15, 14) from (yNT_ne _ _ _ (by omega)).trans p6) rfl rfl trivial ?_
  refine ck_put (N := p + 7) (N' := p + 8) rfl (fun T7 R7 I7 eT eR eI => ?_)
  have m7 := cMk_s m6 (by omega) eT eR eI
  have p7 : T7 p = (15, 14) := by rw [eT, yNT_ne _ _ _ (by omega)]; exact p6
  have a7 := cT_s a6 eT (show p + 7 = p + 7 from rfl) (show yTState 7 = (1, 8) from rfl)
  have s7 := cR_s s6 eR (by omega) (show p + 7 = p + yOState 7 from rfl)
  clear eT eR eI
  refine e_12 (f_55 (pc := 60) (e := (60, 12, 0, 0, 0, 0, 0, 61)) rfl) rfl ?_
  refine e_1 (f_55 (pc := 61) (e := (61, 1, 8, 0, 0, 0, 0, 63)) rfl) (v := 8) rfl ?_
  refine e_101 (f_55 (pc := 63) (e := (63, 101, 1, 0, 0, 0, 0, 65)) rfl) zA (n := 8) rfl (by decide) (by omega) (by omega) ?_
  refine e_91 zA (f_55 (pc := 65) (e := (65, 91, 5, 8, 3, 33, 916, 68)) rfl) rfl (show yNT T7 (p + 8) 1 8 p = (15, 14) from (yNT_ne _ _ _ (by omega)).trans p7) rfl rfl trivial ?_
  refine ck_put (N := p + 8) (N' := p + 9) rfl (fun T8 R8 I8 eT eR eI => ?_)
  have m8 := cMk_s m7 (by omega) eT eR eI
  have p8 : T8 p = (15, 14) := by rw [eT, yNT_ne _ _ _ (by omega)]; exact p7
  have a8 := cT_s a7 eT (show p + 8 = p + 8 from rfl) (show yTState 8 = (1, 8) from rfl)
  have s8 := cR_s s7 eR (by omega) (show p + 8 = p + yOState 8 from rfl)
  clear eT eR eI
  refine e_12 (f_55 (pc := 68) (e := (68, 12, 0, 0, 0, 0, 0, 69)) rfl) rfl ?_
  refine e_1 (f_55 (pc := 69) (e := (69, 1, 8, 0, 0, 0, 0, 71)) rfl) (v := 8) rfl ?_
  refine e_101 (f_55 (pc := 71) (e := (71, 101, 1, 0, 0, 0, 0, 73)) rfl) zA (n := 8) rfl (by decide) (by omega) (by omega) ?_
  refine e_91 zA (f_55 (pc := 73) (e := (73, 91, 5, 9, 3, 36, 917, 76)) rfl) rfl (show yNT T8 (p + 9) 1 8 p = (15, 14) from (yNT_ne _ _ _ (by omega)).trans p8) rfl rfl trivial ?_
  refine ck_put (N := p + 9) (N' := p + 10) rfl (fun T9 R9 I9 eT eR eI => ?_)
  have m9 := cMk_s m8 (by omega) eT eR eI
  have p9 : T9 p = (15, 14) := by rw [eT, yNT_ne _ _ _ (by omega)]; exact p8
  have a9 := cT_s a8 eT (show p + 9 = p + 9 from rfl) (show yTState 9 = (1, 8) from rfl)
  have s9 := cR_s s8 eR (by omega) (show p + 9 = p + yOState 9 from rfl)
  clear eT eR eI
  refine e_12 (f_55 (pc := 76) (e := (76, 12, 0, 0, 0, 0, 0, 77)) rfl) rfl ?_
  refine e_1 (f_55 (pc := 77) (e := (77, 1, 8, 0, 0, 0, 0, 79)) rfl) (v := 8) rfl ?_
  refine e_101 (f_55 (pc := 79) (e := (79, 101, 1, 0, 0, 0, 0, 81)) rfl) zA (n := 8) rfl (by decide) (by omega) (by omega) ?_
  refine e_91 zA (f_55 (pc := 81) (e := (81, 91, 5, 10, 3, 39, 918, 84)) rfl) rfl (show yNT T9 (p + 10) 1 8 p = (15, 14) from (yNT_ne _ _ _ (by omega)).trans p9) rfl rfl trivial ?_
  refine ck_put (N := p + 10) (N' := p + 11) rfl (fun T10 R10 I10 eT eR eI => ?_)
  have m10 := cMk_s m9 (by omega) eT eR eI
  have p10 : T10 p = (15, 14) := by rw [eT, yNT_ne _ _ _ (by omega)]; exact p9
  have a10 := cT_s a9 eT (show p + 10 = p + 10 from rfl) (show yTState 10 = (1, 8) from rfl)
  have s10 := cR_s s9 eR (by omega) (show p + 10 = p + yOState 10 from rfl)
  clear eT eR eI
  refine e_12 (f_55 (pc := 84) (e := (84, 12, 0, 0, 0, 0, 0, 85)) rfl) rfl ?_
  refine e_1 (f_55 (pc := 85) (e := (85, 1, 8, 0, 0, 0, 0, 87)) rfl) (v := 8) rfl ?_
  refine e_101 (f_55 (pc := 87) (e := (87, 101, 1, 0, 0, 0, 0, 89)) rfl) zA (n := 8) rfl (by decide) (by omega) (by omega) ?_
  refine e_91 zA (f_55 (pc := 89) (e := (89, 91, 5, 11, 3, 42, 919, 92)) rfl) rfl (show yNT T10 (p + 11) 1 8 p = (15, 14) from (yNT_ne _ _ _ (by omega)).trans p10) rfl rfl trivial ?_
  refine ck_put (N := p + 11) (N' := p + 12) rfl (fun T11 R11 I11 eT eR eI => ?_)
  have m11 := cMk_s m10 (by omega) eT eR eI
  have p11 : T11 p = (15, 14) := by rw [eT, yNT_ne _ _ _ (by omega)]; exact p10
  have a11 := cT_s a10 eT (show p + 11 = p + 11 from rfl) (show yTState 11 = (1, 8) from rfl)
  have s11 := cR_s s10 eR (by omega) (show p + 11 = p + yOState 11 from rfl)
  clear eT eR eI
  refine e_12 (f_55 (pc := 92) (e := (92, 12, 0, 0, 0, 0, 0, 93)) rfl) rfl ?_
  refine e_2 (f_55 (pc := 93) (e := (93, 2, 300, 0, 0, 0, 0, 96)) rfl) (v := 300) rfl ?_
  refine e_101 (f_55 (pc := 96) (e := (96, 101, 1, 0, 0, 0, 0, 98)) rfl) zA (n := 300) rfl (by decide) (by omega) (by omega) ?_
  refine e_91 zA (f_55 (pc := 98) (e := (98, 91, 5, 13, 3, 45, 920, 101)) rfl) rfl (show yNT T11 (p + 12) 1 300 p = (15, 14) from (yNT_ne _ _ _ (by omega)).trans p11) rfl rfl trivial ?_
  refine ck_put (N := p + 12) (N' := p + 13) rfl (fun T12 R12 I12 eT eR eI => ?_)
  have m12 := cMk_s m11 (by omega) eT eR eI
  have p12 : T12 p = (15, 14) := by rw [eT, yNT_ne _ _ _ (by omega)]; exact p11
  have a12 := cT_s a11 eT (show p + 12 = p + 12 from rfl) (show yTState 12 = (1, 300) from rfl)
  have s12 := cR_s s11 eR (by omega) (show p + 12 = p + yOState 13 from rfl)
  clear eT eR eI
  refine e_122 (f_55 (pc := 101) (e := (101, 122, 0, 0, 0, 0, 0, 0)) rfl) (hk _ _ _ ⟨fun j hj => a12 j (Nat.le_of_ble_eq_true hj), fun j hj => s12 j ?_⟩ m12)
  by_cases g : j < 14
  · exact (by decide : ∀ j : Fin 14, ySState j.1 = true → j.1 ∈ [13, 11, 10, 9, 8, 7, 6, 5, 4, 3, 2, 1]) ⟨j, g⟩ hj
  · exfalso
    unfold ySState at hj
    rw [List.getD, List.getElem?_eq_none (by simp; omega)] at hj
    exact absurd hj (by decide)
set_option maxRecDepth 20000 in
/-- ChairAlley$Land.<init> -/
theorem w_4 {p : Nat} (hp : T p = (11, 15)) (hb1 : 11 ≤ bc) (hb2 : 264 ≤ bs) (hk : ∀ T' R' I', yAtLand T' R' p → cMk p T R I T' R' I' → K none (p + 12, T', R', I')) :
    yW l zSS D cy zFk z (d + 1) 4 bc bs K 0 0 0 [(0, yr (some p))] [] (p + 1, T, R, I) := by
  have m0 : cMk p T R I T R I := cMk_0
  have p0 : T p = (11, 15) := hp
  have a0 : ∀ j, j < 1 → T (p + j) = yTLand j := fun j hj => by rw [show j = 0 by omega]; exact hp
  have s0 : ∀ j, j ∈ ([] : List Nat) → R p j = some (p + yOLand j) := fun j hj => absurd hj List.not_mem_nil
  refine e_12 (f_4 (pc := 0) (e := (0, 12, 0, 0, 0, 0, 0, 1)) rfl) rfl ?_
  refine e_133 (f_4 (pc := 1) (e := (1, 133, 0, 0, 0, 3, 797, 4)) rfl) zA rfl (Nat.succ_pos _) (Nat.le_of_ble_eq_true rfl) ?_
  refine e_12 (f_4 (pc := 4) (e := (4, 12, 0, 0, 0, 0, 0, 5)) rfl) rfl ?_
  refine e_1 (f_4 (pc := 5) (e := (5, 1, 100, 0, 0, 0, 0, 7)) rfl) (v := 100) rfl ?_
  refine e_101 (f_4 (pc := 7) (e := (7, 101, 1, 0, 0, 0, 0, 9)) rfl) zA (n := 100) rfl (by decide) (by omega) (by omega) ?_
  refine e_91 zA (f_4 (pc := 9) (e := (9, 91, 1, 2, 3, 9, 798, 12)) rfl) rfl (show yNT T (p + 1) 1 100 p = (11, 15) from (yNT_ne _ _ _ (by omega)).trans p0) rfl rfl trivial ?_
  refine ck_put (N := p + 1) (N' := p + 2) rfl (fun T1 R1 I1 eT eR eI => ?_)
  have m1 := cMk_s m0 (by omega) eT eR eI
  have p1 : T1 p = (11, 15) := by rw [eT, yNT_ne _ _ _ (by omega)]; exact p0
  have a1 := cT_s a0 eT (show p + 1 = p + 1 from rfl) (show yTLand 1 = (1, 100) from rfl)
  have s1 := cR_s s0 eR (by omega) (show p + 1 = p + yOLand 2 from rfl)
  clear eT eR eI
  refine e_12 (f_4 (pc := 12) (e := (12, 12, 0, 0, 0, 0, 0, 13)) rfl) rfl ?_
  refine e_1 (f_4 (pc := 13) (e := (13, 1, 100, 0, 0, 0, 0, 15)) rfl) (v := 100) rfl ?_
  refine e_101 (f_4 (pc := 15) (e := (15, 101, 1, 0, 0, 0, 0, 17)) rfl) zA (n := 100) rfl (by decide) (by omega) (by omega) ?_
  refine e_91 zA (f_4 (pc := 17) (e := (17, 91, 1, 3, 3, 15, 799, 20)) rfl) rfl (show yNT T1 (p + 2) 1 100 p = (11, 15) from (yNT_ne _ _ _ (by omega)).trans p1) rfl rfl trivial ?_
  refine ck_put (N := p + 2) (N' := p + 3) rfl (fun T2 R2 I2 eT eR eI => ?_)
  have m2 := cMk_s m1 (by omega) eT eR eI
  have p2 : T2 p = (11, 15) := by rw [eT, yNT_ne _ _ _ (by omega)]; exact p1
  have a2 := cT_s a1 eT (show p + 2 = p + 2 from rfl) (show yTLand 2 = (1, 100) from rfl)
  have s2 := cR_s s1 eR (by omega) (show p + 2 = p + yOLand 3 from rfl)
  clear eT eR eI
  refine e_12 (f_4 (pc := 20) (e := (20, 12, 0, 0, 0, 0, 0, 21)) rfl) rfl ?_
  refine e_0 (f_4 (pc := 21) (e := (21, 0, 5, 0, 0, 0, 0, 22)) rfl) (v := 5) rfl ?_
  refine e_101 (f_4 (pc := 22) (e := (22, 101, 1, 0, 0, 0, 0, 24)) rfl) zA (n := 5) rfl (by decide) (by omega) (by omega) ?_
  refine e_91 zA (f_4 (pc := 24) (e := (24, 91, 1, 4, 3, 18, 800, 27)) rfl) rfl (show yNT T2 (p + 3) 1 5 p = (11, 15) from (yNT_ne _ _ _ (by omega)).trans p2) rfl rfl trivial ?_
  refine ck_put (N := p + 3) (N' := p + 4) rfl (fun T3 R3 I3 eT eR eI => ?_)
  have m3 := cMk_s m2 (by omega) eT eR eI
  have p3 : T3 p = (11, 15) := by rw [eT, yNT_ne _ _ _ (by omega)]; exact p2
  have a3 := cT_s a2 eT (show p + 3 = p + 3 from rfl) (show yTLand 3 = (1, 5) from rfl)
  have s3 := cR_s s2 eR (by omega) (show p + 3 = p + yOLand 4 from rfl)
  clear eT eR eI
  refine e_12 (f_4 (pc := 27) (e := (27, 12, 0, 0, 0, 0, 0, 28)) rfl) rfl ?_
  refine e_1 (f_4 (pc := 28) (e := (28, 1, 8, 0, 0, 0, 0, 30)) rfl) (v := 8) rfl ?_
  refine e_101 (f_4 (pc := 30) (e := (30, 101, 2, 0, 0, 0, 0, 32)) rfl) zA (n := 8) rfl (by decide) (by omega) (by omega) ?_
  refine e_91 zA (f_4 (pc := 32) (e := (32, 91, 1, 6, 3, 21, 801, 35)) rfl) rfl (show yNT T3 (p + 4) 2 8 p = (11, 15) from (yNT_ne _ _ _ (by omega)).trans p3) rfl rfl trivial ?_
  refine ck_put (N := p + 4) (N' := p + 5) rfl (fun T4 R4 I4 eT eR eI => ?_)
  have m4 := cMk_s m3 (by omega) eT eR eI
  have p4 : T4 p = (11, 15) := by rw [eT, yNT_ne _ _ _ (by omega)]; exact p3
  have a4 := cT_s a3 eT (show p + 4 = p + 4 from rfl) (show yTLand 4 = (2, 8) from rfl)
  have s4 := cR_s s3 eR (by omega) (show p + 4 = p + yOLand 6 from rfl)
  clear eT eR eI
  refine e_12 (f_4 (pc := 35) (e := (35, 12, 0, 0, 0, 0, 0, 36)) rfl) rfl ?_
  refine e_1 (f_4 (pc := 36) (e := (36, 1, 8, 0, 0, 0, 0, 38)) rfl) (v := 8) rfl ?_
  refine e_101 (f_4 (pc := 38) (e := (38, 101, 1, 0, 0, 0, 0, 40)) rfl) zA (n := 8) rfl (by decide) (by omega) (by omega) ?_
  refine e_91 zA (f_4 (pc := 40) (e := (40, 91, 1, 7, 3, 25, 802, 43)) rfl) rfl (show yNT T4 (p + 5) 1 8 p = (11, 15) from (yNT_ne _ _ _ (by omega)).trans p4) rfl rfl trivial ?_
  refine ck_put (N := p + 5) (N' := p + 6) rfl (fun T5 R5 I5 eT eR eI => ?_)
  have m5 := cMk_s m4 (by omega) eT eR eI
  have p5 : T5 p = (11, 15) := by rw [eT, yNT_ne _ _ _ (by omega)]; exact p4
  have a5 := cT_s a4 eT (show p + 5 = p + 5 from rfl) (show yTLand 5 = (1, 8) from rfl)
  have s5 := cR_s s4 eR (by omega) (show p + 5 = p + yOLand 7 from rfl)
  clear eT eR eI
  refine e_12 (f_4 (pc := 43) (e := (43, 12, 0, 0, 0, 0, 0, 44)) rfl) rfl ?_
  refine e_1 (f_4 (pc := 44) (e := (44, 1, 8, 0, 0, 0, 0, 46)) rfl) (v := 8) rfl ?_
  refine e_101 (f_4 (pc := 46) (e := (46, 101, 1, 0, 0, 0, 0, 48)) rfl) zA (n := 8) rfl (by decide) (by omega) (by omega) ?_
  refine e_91 zA (f_4 (pc := 48) (e := (48, 91, 1, 8, 3, 28, 803, 51)) rfl) rfl (show yNT T5 (p + 6) 1 8 p = (11, 15) from (yNT_ne _ _ _ (by omega)).trans p5) rfl rfl trivial ?_
  refine ck_put (N := p + 6) (N' := p + 7) rfl (fun T6 R6 I6 eT eR eI => ?_)
  have m6 := cMk_s m5 (by omega) eT eR eI
  have p6 : T6 p = (11, 15) := by rw [eT, yNT_ne _ _ _ (by omega)]; exact p5
  have a6 := cT_s a5 eT (show p + 6 = p + 6 from rfl) (show yTLand 6 = (1, 8) from rfl)
  have s6 := cR_s s5 eR (by omega) (show p + 6 = p + yOLand 8 from rfl)
  clear eT eR eI
  refine e_12 (f_4 (pc := 51) (e := (51, 12, 0, 0, 0, 0, 0, 52)) rfl) rfl ?_
  refine e_1 (f_4 (pc := 52) (e := (52, 1, 8, 0, 0, 0, 0, 54)) rfl) (v := 8) rfl ?_
  refine e_101 (f_4 (pc := 54) (e := (54, 101, 1, 0, 0, 0, 0, 56)) rfl) zA (n := 8) rfl (by decide) (by omega) (by omega) ?_
  refine e_91 zA (f_4 (pc := 56) (e := (56, 91, 1, 9, 3, 31, 804, 59)) rfl) rfl (show yNT T6 (p + 7) 1 8 p = (11, 15) from (yNT_ne _ _ _ (by omega)).trans p6) rfl rfl trivial ?_
  refine ck_put (N := p + 7) (N' := p + 8) rfl (fun T7 R7 I7 eT eR eI => ?_)
  have m7 := cMk_s m6 (by omega) eT eR eI
  have p7 : T7 p = (11, 15) := by rw [eT, yNT_ne _ _ _ (by omega)]; exact p6
  have a7 := cT_s a6 eT (show p + 7 = p + 7 from rfl) (show yTLand 7 = (1, 8) from rfl)
  have s7 := cR_s s6 eR (by omega) (show p + 7 = p + yOLand 9 from rfl)
  clear eT eR eI
  refine e_12 (f_4 (pc := 59) (e := (59, 12, 0, 0, 0, 0, 0, 60)) rfl) rfl ?_
  refine e_1 (f_4 (pc := 60) (e := (60, 1, 8, 0, 0, 0, 0, 62)) rfl) (v := 8) rfl ?_
  refine e_101 (f_4 (pc := 62) (e := (62, 101, 1, 0, 0, 0, 0, 64)) rfl) zA (n := 8) rfl (by decide) (by omega) (by omega) ?_
  refine e_91 zA (f_4 (pc := 64) (e := (64, 91, 1, 10, 3, 34, 805, 67)) rfl) rfl (show yNT T7 (p + 8) 1 8 p = (11, 15) from (yNT_ne _ _ _ (by omega)).trans p7) rfl rfl trivial ?_
  refine ck_put (N := p + 8) (N' := p + 9) rfl (fun T8 R8 I8 eT eR eI => ?_)
  have m8 := cMk_s m7 (by omega) eT eR eI
  have p8 : T8 p = (11, 15) := by rw [eT, yNT_ne _ _ _ (by omega)]; exact p7
  have a8 := cT_s a7 eT (show p + 8 = p + 8 from rfl) (show yTLand 8 = (1, 8) from rfl)
  have s8 := cR_s s7 eR (by omega) (show p + 8 = p + yOLand 10 from rfl)
  clear eT eR eI
  refine e_12 (f_4 (pc := 67) (e := (67, 12, 0, 0, 0, 0, 0, 68)) rfl) rfl ?_
  refine e_1 (f_4 (pc := 68) (e := (68, 1, 8, 0, 0, 0, 0, 70)) rfl) (v := 8) rfl ?_
  refine e_101 (f_4 (pc := 70) (e := (70, 101, 1, 0, 0, 0, 0, 72)) rfl) zA (n := 8) rfl (by decide) (by omega) (by omega) ?_
  refine e_91 zA (f_4 (pc := 72) (e := (72, 91, 1, 11, 3, 37, 806, 75)) rfl) rfl (show yNT T8 (p + 9) 1 8 p = (11, 15) from (yNT_ne _ _ _ (by omega)).trans p8) rfl rfl trivial ?_
  refine ck_put (N := p + 9) (N' := p + 10) rfl (fun T9 R9 I9 eT eR eI => ?_)
  have m9 := cMk_s m8 (by omega) eT eR eI
  have p9 : T9 p = (11, 15) := by rw [eT, yNT_ne _ _ _ (by omega)]; exact p8
  have a9 := cT_s a8 eT (show p + 9 = p + 9 from rfl) (show yTLand 9 = (1, 8) from rfl)
  have s9 := cR_s s8 eR (by omega) (show p + 9 = p + yOLand 11 from rfl)
  clear eT eR eI
  refine e_12 (f_4 (pc := 75) (e := (75, 12, 0, 0, 0, 0, 0, 76)) rfl) rfl ?_
  refine e_1 (f_4 (pc := 76) (e := (76, 1, 8, 0, 0, 0, 0, 78)) rfl) (v := 8) rfl ?_
  refine e_101 (f_4 (pc := 78) (e := (78, 101, 3, 0, 0, 0, 0, 80)) rfl) zA (n := 8) rfl (by decide) (by omega) (by omega) ?_
  refine e_91 zA (f_4 (pc := 80) (e := (80, 91, 1, 12, 3, 40, 807, 83)) rfl) rfl (show yNT T9 (p + 10) 3 8 p = (11, 15) from (yNT_ne _ _ _ (by omega)).trans p9) rfl rfl trivial ?_
  refine ck_put (N := p + 10) (N' := p + 11) rfl (fun T10 R10 I10 eT eR eI => ?_)
  have m10 := cMk_s m9 (by omega) eT eR eI
  have p10 : T10 p = (11, 15) := by rw [eT, yNT_ne _ _ _ (by omega)]; exact p9
  have a10 := cT_s a9 eT (show p + 10 = p + 10 from rfl) (show yTLand 10 = (3, 8) from rfl)
  have s10 := cR_s s9 eR (by omega) (show p + 10 = p + yOLand 12 from rfl)
  clear eT eR eI
  refine e_12 (f_4 (pc := 83) (e := (83, 12, 0, 0, 0, 0, 0, 84)) rfl) rfl ?_
  refine e_0 (f_4 (pc := 84) (e := (84, 0, 3, 0, 0, 0, 0, 85)) rfl) (v := 3) rfl ?_
  refine e_101 (f_4 (pc := 85) (e := (85, 101, 1, 0, 0, 0, 0, 87)) rfl) zA (n := 3) rfl (by decide) (by omega) (by omega) ?_
  refine e_91 zA (f_4 (pc := 87) (e := (87, 91, 1, 13, 3, 44, 808, 90)) rfl) rfl (show yNT T10 (p + 11) 1 3 p = (11, 15) from (yNT_ne _ _ _ (by omega)).trans p10) rfl rfl trivial ?_
  refine ck_put (N := p + 11) (N' := p + 12) rfl (fun T11 R11 I11 eT eR eI => ?_)
  have m11 := cMk_s m10 (by omega) eT eR eI
  have p11 : T11 p = (11, 15) := by rw [eT, yNT_ne _ _ _ (by omega)]; exact p10
  have a11 := cT_s a10 eT (show p + 11 = p + 11 from rfl) (show yTLand 11 = (1, 3) from rfl)
  have s11 := cR_s s10 eR (by omega) (show p + 11 = p + yOLand 13 from rfl)
  clear eT eR eI
  refine e_122 (f_4 (pc := 90) (e := (90, 122, 0, 0, 0, 0, 0, 0)) rfl) (hk _ _ _ ⟨fun j hj => a11 j (Nat.le_of_ble_eq_true hj), fun j hj => s11 j ?_⟩ m11)
  by_cases g : j < 15
  · exact (by decide : ∀ j : Fin 15, ySLand j.1 = true → j.1 ∈ [13, 12, 11, 10, 9, 8, 7, 6, 4, 3, 2]) ⟨j, g⟩ hj
  · exfalso
    unfold ySLand at hj
    rw [List.getD, List.getElem?_eq_none (by simp; omega)] at hj
    exact absurd hj (by decide)
set_option maxRecDepth 20000 in
/-- ChairAlley$Plan.<init> -/
theorem w_26 {p : Nat} (hp : T p = (12, 2)) (hb1 : 1 ≤ bc) (hb2 : 40 ≤ bs) (hk : ∀ T' R' I', yAtPlan T' R' p → cMk p T R I T' R' I' → K none (p + 2, T', R', I')) :
    yW l zSS D cy zFk z (d + 1) 26 bc bs K 0 0 0 [(0, yr (some p))] [] (p + 1, T, R, I) := by
  have m0 : cMk p T R I T R I := cMk_0
  have p0 : T p = (12, 2) := hp
  have a0 : ∀ j, j < 1 → T (p + j) = yTPlan j := fun j hj => by rw [show j = 0 by omega]; exact hp
  have s0 : ∀ j, j ∈ ([] : List Nat) → R p j = some (p + yOPlan j) := fun j hj => absurd hj List.not_mem_nil
  refine e_12 (f_26 (pc := 0) (e := (0, 12, 0, 0, 0, 0, 0, 1)) rfl) rfl ?_
  refine e_133 (f_26 (pc := 1) (e := (1, 133, 0, 0, 0, 3, 846, 4)) rfl) zA rfl (Nat.succ_pos _) (Nat.le_of_ble_eq_true rfl) ?_
  refine e_12 (f_26 (pc := 4) (e := (4, 12, 0, 0, 0, 0, 0, 5)) rfl) rfl ?_
  refine e_1 (f_26 (pc := 5) (e := (5, 1, 40, 0, 0, 0, 0, 7)) rfl) (v := 40) rfl ?_
  refine e_101 (f_26 (pc := 7) (e := (7, 101, 1, 0, 0, 0, 0, 9)) rfl) zA (n := 40) rfl (by decide) (by omega) (by omega) ?_
  refine e_91 zA (f_26 (pc := 9) (e := (9, 91, 2, 1, 3, 11, 847, 12)) rfl) rfl (show yNT T (p + 1) 1 40 p = (12, 2) from (yNT_ne _ _ _ (by omega)).trans p0) rfl rfl trivial ?_
  refine ck_put (N := p + 1) (N' := p + 2) rfl (fun T1 R1 I1 eT eR eI => ?_)
  have m1 := cMk_s m0 (by omega) eT eR eI
  have p1 : T1 p = (12, 2) := by rw [eT, yNT_ne _ _ _ (by omega)]; exact p0
  have a1 := cT_s a0 eT (show p + 1 = p + 1 from rfl) (show yTPlan 1 = (1, 40) from rfl)
  have s1 := cR_s s0 eR (by omega) (show p + 1 = p + yOPlan 1 from rfl)
  clear eT eR eI
  refine e_122 (f_26 (pc := 12) (e := (12, 122, 0, 0, 0, 0, 0, 0)) rfl) (hk _ _ _ ⟨fun j hj => a1 j (Nat.le_of_ble_eq_true hj), fun j hj => s1 j ?_⟩ m1)
  by_cases g : j < 2
  · exact (by decide : ∀ j : Fin 2, ySPlan j.1 = true → j.1 ∈ [1]) ⟨j, g⟩ hj
  · exfalso
    unfold ySPlan at hj
    rw [List.getD, List.getElem?_eq_none (by simp; omega)] at hj
    exact absurd hj (by decide)
set_option maxRecDepth 20000 in
/-- ChairAlley$Sentence.<init> -/
theorem w_45 {p : Nat} (hp : T p = (14, 5)) (hb1 : 3 ≤ bc) (hb2 : 120 ≤ bs) (hk : ∀ T' R' I', yAtSentence T' R' p → cMk p T R I T' R' I' → K none (p + 4, T', R', I')) :
    yW l zSS D cy zFk z (d + 1) 45 bc bs K 0 0 0 [(0, yr (some p))] [] (p + 1, T, R, I) := by
  have m0 : cMk p T R I T R I := cMk_0
  have p0 : T p = (14, 5) := hp
  have a0 : ∀ j, j < 1 → T (p + j) = yTSentence j := fun j hj => by rw [show j = 0 by omega]; exact hp
  have s0 : ∀ j, j ∈ ([] : List Nat) → R p j = some (p + yOSentence j) := fun j hj => absurd hj List.not_mem_nil
  refine e_12 (f_45 (pc := 0) (e := (0, 12, 0, 0, 0, 0, 0, 1)) rfl) rfl ?_
  refine e_133 (f_45 (pc := 1) (e := (1, 133, 0, 0, 0, 5, 880, 4)) rfl) zA rfl (Nat.succ_pos _) (Nat.le_of_ble_eq_true rfl) ?_
  refine e_12 (f_45 (pc := 4) (e := (4, 12, 0, 0, 0, 0, 0, 5)) rfl) rfl ?_
  refine e_1 (f_45 (pc := 5) (e := (5, 1, 40, 0, 0, 0, 0, 7)) rfl) (v := 40) rfl ?_
  refine e_101 (f_45 (pc := 7) (e := (7, 101, 1, 0, 0, 0, 0, 9)) rfl) zA (n := 40) rfl (by decide) (by omega) (by omega) ?_
  refine e_91 zA (f_45 (pc := 9) (e := (9, 91, 4, 1, 3, 11, 881, 12)) rfl) rfl (show yNT T (p + 1) 1 40 p = (14, 5) from (yNT_ne _ _ _ (by omega)).trans p0) rfl rfl trivial ?_
  refine ck_put (N := p + 1) (N' := p + 2) rfl (fun T1 R1 I1 eT eR eI => ?_)
  have m1 := cMk_s m0 (by omega) eT eR eI
  have p1 : T1 p = (14, 5) := by rw [eT, yNT_ne _ _ _ (by omega)]; exact p0
  have a1 := cT_s a0 eT (show p + 1 = p + 1 from rfl) (show yTSentence 1 = (1, 40) from rfl)
  have s1 := cR_s s0 eR (by omega) (show p + 1 = p + yOSentence 1 from rfl)
  clear eT eR eI
  refine e_12 (f_45 (pc := 12) (e := (12, 12, 0, 0, 0, 0, 0, 13)) rfl) rfl ?_
  refine e_1 (f_45 (pc := 13) (e := (13, 1, 40, 0, 0, 0, 0, 15)) rfl) (v := 40) rfl ?_
  refine e_101 (f_45 (pc := 15) (e := (15, 101, 1, 0, 0, 0, 0, 17)) rfl) zA (n := 40) rfl (by decide) (by omega) (by omega) ?_
  refine e_91 zA (f_45 (pc := 17) (e := (17, 91, 4, 2, 3, 15, 882, 20)) rfl) rfl (show yNT T1 (p + 2) 1 40 p = (14, 5) from (yNT_ne _ _ _ (by omega)).trans p1) rfl rfl trivial ?_
  refine ck_put (N := p + 2) (N' := p + 3) rfl (fun T2 R2 I2 eT eR eI => ?_)
  have m2 := cMk_s m1 (by omega) eT eR eI
  have p2 : T2 p = (14, 5) := by rw [eT, yNT_ne _ _ _ (by omega)]; exact p1
  have a2 := cT_s a1 eT (show p + 2 = p + 2 from rfl) (show yTSentence 2 = (1, 40) from rfl)
  have s2 := cR_s s1 eR (by omega) (show p + 2 = p + yOSentence 2 from rfl)
  clear eT eR eI
  refine e_12 (f_45 (pc := 20) (e := (20, 12, 0, 0, 0, 0, 0, 21)) rfl) rfl ?_
  refine e_1 (f_45 (pc := 21) (e := (21, 1, 40, 0, 0, 0, 0, 23)) rfl) (v := 40) rfl ?_
  refine e_101 (f_45 (pc := 23) (e := (23, 101, 1, 0, 0, 0, 0, 25)) rfl) zA (n := 40) rfl (by decide) (by omega) (by omega) ?_
  refine e_91 zA (f_45 (pc := 25) (e := (25, 91, 4, 3, 3, 18, 883, 28)) rfl) rfl (show yNT T2 (p + 3) 1 40 p = (14, 5) from (yNT_ne _ _ _ (by omega)).trans p2) rfl rfl trivial ?_
  refine ck_put (N := p + 3) (N' := p + 4) rfl (fun T3 R3 I3 eT eR eI => ?_)
  have m3 := cMk_s m2 (by omega) eT eR eI
  have p3 : T3 p = (14, 5) := by rw [eT, yNT_ne _ _ _ (by omega)]; exact p2
  have a3 := cT_s a2 eT (show p + 3 = p + 3 from rfl) (show yTSentence 3 = (1, 40) from rfl)
  have s3 := cR_s s2 eR (by omega) (show p + 3 = p + yOSentence 3 from rfl)
  clear eT eR eI
  refine e_122 (f_45 (pc := 28) (e := (28, 122, 0, 0, 0, 0, 0, 0)) rfl) (hk _ _ _ ⟨fun j hj => a3 j (Nat.le_of_ble_eq_true hj), fun j hj => s3 j ?_⟩ m3)
  by_cases g : j < 5
  · exact (by decide : ∀ j : Fin 5, ySSentence j.1 = true → j.1 ∈ [3, 2, 1]) ⟨j, g⟩ hj
  · exfalso
    unfold ySSentence at hj
    rw [List.getD, List.getElem?_eq_none (by simp; omega)] at hj
    exact absurd hj (by decide)
end Cc
