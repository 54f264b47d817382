/-! CONTRACTS of the class: keep, takeBack, and who calls them (template z3.tpl, tpl.py). -/
abbrev cHo (k _j : Nat) : Prop := k = 90
theorem yTState_ty {j : Nat} (h : j < 13) : (yTState j).1 = 15 ∨ (yTState j).1 = 1 := (by decide : ∀ j : Fin 13, (yTState j.1).1 = 15 ∨ (yTState j.1).1 = 1) ⟨j, h⟩
/-- nothing of a State lies here -/
def cNs (T : Nat → Nat × Nat) (k : Nat) : Prop := k < 126 ∨ ((T k).1 ≠ 1 ∧ (T k).1 ≠ 15)
theorem cNs_no {N : Nat} {T : Nat → Nat × Nat} {R : Nat → Nat → Option Nat} {p k : Nat} (h : cHp N T R p) (hk : cNs T k) : ¬ (p ≤ k ∧ k < p + 13) := by
  rintro ⟨a, b⟩
  have h126 := h.1
  have e := h.2.2.1 (k - p) (Nat.ble_eq.mpr (by omega))
  rw [show p + (k - p) = k by omega] at e
  rcases hk with g | ⟨g1, g2⟩
  · omega
  · rw [e] at g1 g2
    rcases yTState_ty (show k - p < 13 by omega) with q | q
    · exact g2 q
    · exact g1 q
theorem yLR_90 {R R' : Nat → Nat → Option Nat} (hR : yLR R) (h : ∀ k j, k ≠ 90 → R' k j = R k j) : yLR R' := fun k j hk => by
  have : k ≠ 90 := fun e => by
    subst e
    have d : ∀ j : Fin 8, yS0 90 j.1 = false := by decide
    by_cases g : j < 8
    · rw [d ⟨j, g⟩] at hk; cases hk
    · have e : ∀ l : List Bool, l.length ≤ 8 → l.getD j false = false := fun l hl => by rw [List.getD, List.getElem?_eq_none (by omega)]; rfl
      unfold yS0 at hk
      rw [e _ (by decide)] at hk
      cases hk
  rw [h k j this]; exact hR k j hk
section Cf
variable {l : Launch} {D : va_G} {cy : Nat → ClassId} {z d bc bs nc nl N : Nat} {T : Nat → Nat × Nat} {R : Nat → Nat → Option Nat} {I : Nat → Nat → Int} {K : yKo}
theorem e_90i {mi pc : Nat} {lo : yL} {st : List yV} {a b c x y nx : Nat} {h : yHp} (hr : yRowB zSS zGG zPl mi (pc, 90, a, b, c, x, y, nx) = true) {q n : Nat} {r : Option Nat} {v : Int} (hr' : r = some q) (ht : yTy h q = (10 + a, n)) (hn : ((sCl zSS)[a]?).map (fun t => t.2.2) = some n) (hs : zFk a b = 0) (hv : yI h q b = v) (hk : yW l zSS D cy zFk z d mi bc bs K nc nl nx lo (yi v :: st) h) : yW l zSS D cy zFk z d mi bc bs K nc nl pc lo (yr r :: st) h := by
  refine e_90 zA hr hr' ht hn hs ?_
  show yW l zSS D cy zFk z d mi bc bs K nc nl nx lo (yi (yI h q b) :: st) h
  rw [hv]
  exact hk
/-- keep, from where rows[kept] is there -/
theorem w_2b (hT : yLT T) (hR : yLR R) (hnb : nc ≤ bc) (hsb : nl ≤ bs) {c : Nat} (hc : c < 8) (e1 : I 89 1 = (c : Int)) (hs : cHs N T R) (hn : ∀ i : Nat, i ≤ c → R 90 i ≠ none) (hk : ∀ I' : Nat → Nat → Int, cHk R I' → (∀ k j, ¬ (k = 89 ∧ j = 1) → cNs T k → I' k j = I k j) → K none (N, T, R, I')) :
    yW l zSS D cy zFk z (d + 2) 2 bc bs K nc nl 58 [(0, yr (some 89)), (1, yr (some 16))] [] (N, T, R, I) := by
  obtain ⟨p, ep, hp⟩ : ∃ p, R 90 c = some p ∧ cHp N T R p := by
    rcases hs c hc with e | e
    · exact absurd e (hn c (Nat.le_refl _))
    · exact e
  refine e_12 (f_2 (pc := 58) (e := (58, 12, 0, 0, 0, 0, 0, 59)) rfl) rfl ?_
  refine e_90r zA (f_2 (pc := 59) (e := (59, 90, 0, 0, 3, 13, 793, 62)) rfl) rfl (hT 89 rfl) rfl rfl (hR 89 0 rfl) ?_
  refine e_12 (f_2 (pc := 62) (e := (62, 12, 0, 0, 0, 0, 0, 63)) rfl) rfl ?_
  refine e_90i (f_2 (pc := 63) (e := (63, 90, 0, 1, 0, 17, 794, 66)) rfl) (v := (c : Int)) rfl (hT 89 rfl) rfl rfl e1 ?_
  refine e_116e (f_2 (pc := 66) (e := (66, 116, 0, 0, 0, 0, 0, 67)) rfl) (r2 := some p) rfl (hT 90 rfl) (by omega) (by omega) (.inl rfl) (show R 90 ((c : Int)).toNat = some p by rw [show ((c : Int)).toNat = c by omega]; exact ep) ?_
  refine e_12 (f_2 (pc := 67) (e := (67, 12, 1, 0, 0, 0, 0, 68)) rfl) rfl ?_
  refine e_130 (f_2 (pc := 68) (e := (68, 130, 62, 0, 5, 25, 796, 71)) rfl) zA (as := [yr (some p), yr (some 16)]) (rest := []) rfl rfl rfl rfl (Nat.le_of_ble_eq_true rfl) (Nat.le_of_ble_eq_true rfl) ⟨_, _, _, rfl, show T p = (10 + 5, 14) from hp.2.2.1 0 rfl⟩ (mc := 0) (ms := 0) hnb hsb ?_
  refine w_62 hT hR hp.2.2 (.inr hp.1) (a_State16 hT hR) (.inl (by decide)) (fun X fX _ => ?_)
  have no : ∀ k j, cNs T k → X k j = I k j := fun k j g => fX k j (cNs_no hp g)
  have q1 : X 89 1 = (c : Int) := by rw [no 89 1 (.inl (by decide))]; exact e1
  refine e_12 (f_2 (pc := 71) (e := (71, 12, 0, 0, 0, 0, 0, 72)) rfl) rfl ?_
  refine e_50 (f_2 (pc := 72) (e := (72, 50, 0, 0, 0, 0, 0, 73)) rfl) rfl ?_
  refine e_90i (f_2 (pc := 73) (e := (73, 90, 0, 1, 0, 17, 794, 76)) rfl) (v := (c : Int)) rfl (hT 89 rfl) rfl rfl q1 ?_
  refine e_0 (f_2 (pc := 76) (e := (76, 0, 1, 0, 0, 0, 0, 77)) rfl) (v := 1) rfl ?_
  refine e_30 (f_2 (pc := 77) (e := (77, 30, 0, 0, 0, 0, 0, 78)) rfl) ?_
  rw [yadd_eq (by omega) (by omega)]
  refine e_91 zA (f_2 (pc := 78) (e := (78, 91, 0, 1, 0, 17, 794, 81)) rfl) rfl (hT 89 rfl) rfl rfl trivial ?_
  refine e_122 (f_2 (pc := 81) (e := (81, 122, 0, 0, 0, 0, 0, 0)) rfl) (hk (yU X 89 1 ((c : Int) + 1)) (fun i hi hlt => hn i ?_) (fun k j g g2 => ?_))
  · rw [yU_eq] at hlt; omega
  · rw [yU_ne _ _ g]; exact no k j g2
/-- keep -/
theorem w_2 (hT : yLT T) (hR : yLR R) (h126 : 126 ≤ N) (hs : cHs N T R) (hh : cHk R I) (hb1 : 13 ≤ bc) (hb2 : 494 ≤ bs) (hk : ∀ (N' : Nat) (T' : Nat → Nat × Nat) (R' : Nat → Nat → Option Nat) (I' : Nat → Nat → Int), yLT T' → yLR R' → cGr cHo N T R N' T' R' → cHs N' T' R' → cHk R' I' → (∀ k j, k < N → ¬ (k = 89 ∧ j = 1) → cNs T k → I' k j = I k j) → K none (N', T', R', I')) :
    yW l zSS D cy zFk z (d + 2) 2 bc bs K 0 0 0 [(0, yr (some 89)), (1, yr (some 16))] [] (N, T, R, I) := by
  -- behind forgetFirst
  have rest : ∀ (X : Nat → Nat → Option Nat) (J : Nat → Nat → Int), yLR X → (∀ k j, k ≠ 90 → X k j = R k j) → cHs N T X → cHk X J → (∀ k j, ¬ (k = 89 ∧ j = 1) → J k j = I k j) → yW l zSS D cy zFk z (d + 2) 2 bc bs K 0 0 13 [(0, yr (some 89)), (1, yr (some 16))] [] (N, T, X, J) := by
    intro X J hX fX hs hh fJ
    have gr : cGr cHo N T R N T X := ⟨Nat.le_refl _, fun _ _ => rfl, fun k j _ g => fX k j g⟩
    have ret : yW l zSS D cy zFk z (d + 2) 2 bc bs K 0 0 29 [(0, yr (some 89)), (1, yr (some 16))] [] (N, T, X, J) :=
      e_122 (f_2 (pc := 29) (e := (29, 122, 0, 0, 0, 0, 0, 30)) rfl) (hk N T X J hT hX gr hs hh (fun k j _ g _ => fJ k j g))
    refine e_12 (f_2 (pc := 13) (e := (13, 12, 0, 0, 0, 0, 0, 14)) rfl) rfl ?_
    refine e_90 zA (f_2 (pc := 14) (e := (14, 90, 0, 1, 0, 17, 794, 17)) rfl) rfl (hT 89 rfl) rfl rfl ?_
    refine e_62 (f_2 (pc := 17) (e := (17, 62, 29, 0, 0, 0, 0, 20)) rfl) (fun _ => ret) (fun c0 => ?_)
    refine e_12 (f_2 (pc := 20) (e := (20, 12, 0, 0, 0, 0, 0, 21)) rfl) rfl ?_
    refine e_90 zA (f_2 (pc := 21) (e := (21, 90, 0, 1, 0, 17, 794, 24)) rfl) rfl (hT 89 rfl) rfl rfl ?_
    refine e_1 (f_2 (pc := 24) (e := (24, 1, 8, 0, 0, 0, 0, 26)) rfl) (v := 8) rfl ?_
    refine e_72 (f_2 (pc := 26) (e := (26, 72, 30, 0, 0, 0, 0, 29)) rfl) (fun c8 => ?_) (fun _ => ret)
    obtain ⟨c, ec⟩ : ∃ c : Nat, J 89 1 = (c : Int) := ⟨(J 89 1).toNat, by have : ¬ (J 89 1 < 0) := c0; omega⟩
    have c8 : c < 8 := by have : J 89 1 < 8 := c8; omega
    have tc : ((c : Int)).toNat = c := by omega
    refine e_12 (f_2 (pc := 30) (e := (30, 12, 0, 0, 0, 0, 0, 31)) rfl) rfl ?_
    refine e_90r zA (f_2 (pc := 31) (e := (31, 90, 0, 0, 3, 13, 793, 34)) rfl) rfl (hT 89 rfl) rfl rfl (hX 89 0 rfl) ?_
    refine e_12 (f_2 (pc := 34) (e := (34, 12, 0, 0, 0, 0, 0, 35)) rfl) rfl ?_
    refine e_90i (f_2 (pc := 35) (e := (35, 90, 0, 1, 0, 17, 794, 38)) rfl) (v := (c : Int)) rfl (hT 89 rfl) rfl rfl ec ?_
    refine e_116e (f_2 (pc := 38) (e := (38, 116, 0, 0, 0, 0, 0, 39)) rfl) (r2 := X 90 c) rfl (hT 90 rfl) (by omega) (by omega) (.inl rfl) (show X 90 ((c : Int)).toNat = X 90 c by rw [tc]) ?_
    refine e_82 (f_2 (pc := 39) (e := (39, 82, 58, 0, 0, 0, 0, 42)) rfl) (fun q hq => ?_) (fun hq => ?_)
    · refine w_2b hT hX (Nat.zero_le _) (Nat.zero_le _) c8 ec hs (fun i hi => ?_) (fun I' h1 h2 => hk N T X I' hT hX gr hs h1 (fun k j _ g g2 => by rw [h2 k j g g2]; exact fJ k j g))
      by_cases e : i = c
      · subst e; rw [hq]; intro g; cases g
      · exact hh i (by omega) (by omega)
    · refine e_12 (f_2 (pc := 42) (e := (42, 12, 0, 0, 0, 0, 0, 43)) rfl) rfl ?_
      refine e_90r zA (f_2 (pc := 43) (e := (43, 90, 0, 0, 3, 13, 793, 46)) rfl) rfl (hT 89 rfl) rfl rfl (hX 89 0 rfl) ?_
      refine e_12 (f_2 (pc := 46) (e := (46, 12, 0, 0, 0, 0, 0, 47)) rfl) rfl ?_
      refine e_90i (f_2 (pc := 47) (e := (47, 90, 0, 1, 0, 17, 794, 50)) rfl) (v := (c : Int)) rfl (hT 89 rfl) rfl rfl ec ?_
      refine e_100 zA (f_2 (pc := 50) (e := (50, 100, 5, 14, 0, 11, 792, 53)) rfl) (by omega) (by omega) ?_
      refine ck_new (N' := N + 1) rfl (fun T1 R1 I1 e1 e2 e3 => ?_)
      refine e_50 (f_2 (pc := 53) (e := (53, 50, 0, 0, 0, 0, 0, 54)) rfl) rfl ?_
      have t1 : T1 N = (15, 14) := by rw [e1]; exact yNT_eq _ _ _ _
      refine e_131 (f_2 (pc := 54) (e := (54, 131, 55, 1, 8, 24, 99999, 57)) rfl) zA (as := [yr (some N)]) (rest := [yr (some N), yi (c : Int), yr (some 90)]) rfl rfl rfl rfl (Nat.le_of_ble_eq_true rfl) (Nat.le_of_ble_eq_true rfl) ⟨_, _, rfl⟩ (mc := 12) (ms := 480) (by omega) (by omega) ?_
      refine w_55 t1 (by decide) (by decide) (fun T2 R2 I2 at2 mk => ?_)
      have eT : ∀ k, k < N → T2 k = T k := fun k g => by rw [mk.1 k (by omega), e1, yNT_ne _ _ _ (by omega)]
      have eR : ∀ k j, k < N → R2 k j = X k j := fun k j g => by rw [mk.2.1 k j g, e2, yNR_ne _ _ (by omega)]
      have eI : ∀ k j, k < N → I2 k j = J k j := fun k j g => by rw [mk.2.2 k j (by omega), e3, yNI_ne _ _ (by omega)]
      have hT2 : yLT T2 := fun k g => by have := Nat.le_of_ble_eq_true g; rw [eT k (by omega)]; exact hT k g
      have hR2 : yLR R2 := fun k j g => by have := yS0_lt g; rw [eR k j (by omega)]; exact hX k j g
      have t2 : T2 N = (15, 14) := at2.1 0 rfl
      refine e_117 (f_2 (pc := 57) (e := (57, 117, 0, 0, 0, 0, 0, 58)) rfl) zA rfl (hT2 90 rfl) (by omega) (by omega) rfl t2 (.inl ⟨rfl, rfl⟩) ?_
      refine ck_row (fun R3 h3 => ?_)
      rw [tc] at h3
      have hR3 : yLR R3 := yLR_90 hR2 (fun k j g => by rw [h3, yUR_ne _ _ (fun q => g q.1)])
      have f3 : ∀ k j, k ≠ 90 → R3 k j = R2 k j := fun k j g => by rw [h3, yUR_ne _ _ (fun q => g q.1)]
      have at3 : yAtState T2 R3 N := yAtState_cg at2 (fun _ _ _ => rfl) (fun j => f3 N j (by omega))
      have hs3 : cHs (N + 13) T2 R3 := fun i hi => by
        by_cases e : i = c
        · subst e
          exact .inr ⟨N, by rw [h3]; exact yUR_eq _ _ _ _, h126, Nat.le_refl _, at3⟩
        · have e90 : R3 90 i = X 90 i := by rw [h3, yUR_ne _ _ (fun q => e q.2), eR 90 i (by omega)]
          rw [e90]
          rcases hs i hi with g | ⟨p, g1, g2⟩
          · exact .inl g
          · exact .inr ⟨p, g1, cHp_cg g2 (by omega) eT (fun k j a b => by rw [f3 k j (by omega)]; exact eR k j b)⟩
      have gr3 : cGr cHo N T R (N + 13) T2 R3 := ⟨by omega, eT, fun k j g ho => by rw [f3 k j ho, eR k j g]; exact gr.2.2 k j g ho⟩
      refine w_2b hT2 hR3 (by omega) (by omega) c8 (by rw [eI 89 1 (by omega)]; exact ec) hs3 (fun i hi => ?_) (fun I' h1 h2 => hk _ T2 R3 I' hT2 hR3 gr3 hs3 h1 (fun k j g g2 g3 => ?_))
      · by_cases e : i = c
        · subst e; rw [h3, yUR_eq]; intro g; cases g
        · rw [h3, yUR_ne _ _ (fun q => e q.2), eR 90 i (by omega)]
          exact hh i (by omega) (by omega)
      · have n2 : cNs T2 k := by unfold cNs at g3 ⊢; rw [eT k g]; exact g3
        rw [h2 k j g2 n2, eI k j g]; exact fJ k j g2
  refine e_12 (f_2 (pc := 0) (e := (0, 12, 0, 0, 0, 0, 0, 1)) rfl) rfl ?_
  refine e_90 zA (f_2 (pc := 1) (e := (1, 90, 0, 1, 0, 17, 794, 4)) rfl) rfl (hT 89 rfl) rfl rfl ?_
  refine e_1 (f_2 (pc := 4) (e := (4, 1, 8, 0, 0, 0, 0, 6)) rfl) (v := 8) rfl ?_
  refine e_72 (f_2 (pc := 6) (e := (6, 72, 13, 0, 0, 0, 0, 9)) rfl) (fun _ => rest R I hR (fun _ _ _ => rfl) hs hh (fun _ _ _ => rfl)) (fun c8 => ?_)
  have c8 : ¬ (I 89 1 < 8) := c8
  refine e_12 (f_2 (pc := 9) (e := (9, 12, 0, 0, 0, 0, 0, 10)) rfl) rfl ?_
  refine e_130 (f_2 (pc := 10) (e := (10, 130, 1, 0, 0, 21, 795, 13)) rfl) zA (as := [yr (some 89)]) (rest := []) rfl rfl rfl rfl (Nat.le_of_ble_eq_true rfl) (Nat.le_of_ble_eq_true rfl) ⟨_, _, _, rfl, hT 89 rfl⟩ (mc := 0) (ms := 0) (Nat.zero_le _) (Nat.zero_le _) ?_
  refine w_1 hT hR (fun i hi => ?_) (fun X J hX fX hX8 j7 fJ => ?_)
  · rcases hs i hi with g | g
    · exact absurd g (hh i hi (by omega))
    · exact g
  · refine rest X J hX fX (fun i hi => ?_) (fun i hi _ => ?_) fJ
    · obtain ⟨p, a, b⟩ := hX8 i hi
      exact .inr ⟨p, a, cHp_cg b (Nat.le_refl _) (fun _ _ => rfl) (fun k j g _ => fX k j (by omega))⟩
    · obtain ⟨p, a, b⟩ := hX8 i hi
      rw [a]; intro g; cases g
/-- takeBack, into the world's state -/
theorem w_3 (hT : yLT T) (hR : yLR R) (hs : cHs N T R) (hh : cHk R I) (hk : ∀ r (I' : Nat → Nat → Int), cHk R I' → (∀ k j, ¬ (k = 89 ∧ j = 1) → ¬ (16 ≤ k ∧ k < 29) → I' k j = I k j) → K (some (yi r)) (N, T, R, I')) :
    yW l zSS D cy zFk z (d + 2) 3 bc bs K 0 0 0 [(0, yr (some 89)), (1, yr (some 16))] [] (N, T, R, I) := by
  have no : yW l zSS D cy zFk z (d + 2) 3 bc bs K 0 0 31 [(0, yr (some 89)), (1, yr (some 16))] [] (N, T, R, I) :=
    e_0 (f_3 (pc := 31) (e := (31, 0, 4294967295, 0, 0, 0, 0, 32)) rfl) (v := -1) rfl (e_120 (f_3 (pc := 32) (e := (32, 120, 0, 0, 0, 0, 0, 33)) rfl) (hk _ I hh (fun _ _ _ _ => rfl)))
  refine e_12 (f_3 (pc := 0) (e := (0, 12, 0, 0, 0, 0, 0, 1)) rfl) rfl ?_
  refine e_90 zA (f_3 (pc := 1) (e := (1, 90, 0, 1, 0, 17, 794, 4)) rfl) rfl (hT 89 rfl) rfl rfl ?_
  refine e_0 (f_3 (pc := 4) (e := (4, 0, 1, 0, 0, 0, 0, 5)) rfl) (v := 1) rfl ?_
  refine e_72 (f_3 (pc := 5) (e := (5, 72, 31, 0, 0, 0, 0, 8)) rfl) (fun _ => no) (fun c1 => ?_)
  refine e_12 (f_3 (pc := 8) (e := (8, 12, 0, 0, 0, 0, 0, 9)) rfl) rfl ?_
  refine e_90 zA (f_3 (pc := 9) (e := (9, 90, 0, 1, 0, 17, 794, 12)) rfl) rfl (hT 89 rfl) rfl rfl ?_
  refine e_1 (f_3 (pc := 12) (e := (12, 1, 8, 0, 0, 0, 0, 14)) rfl) (v := 8) rfl ?_
  refine e_74 (f_3 (pc := 14) (e := (14, 74, 31, 0, 0, 0, 0, 17)) rfl) (fun _ => no) (fun c8 => ?_)
  have c1 : ¬ (I 89 1 < 1) := c1
  have c8 : ¬ (8 < I 89 1) := c8
  obtain ⟨c, ec⟩ : ∃ c : Nat, I 89 1 = (c : Int) + 1 := ⟨(I 89 1 - 1).toNat, by omega⟩
  have tc : ((c : Int)).toNat = c := by omega
  refine e_12 (f_3 (pc := 17) (e := (17, 12, 0, 0, 0, 0, 0, 18)) rfl) rfl ?_
  refine e_90r zA (f_3 (pc := 18) (e := (18, 90, 0, 0, 3, 13, 793, 21)) rfl) rfl (hT 89 rfl) rfl rfl (hR 89 0 rfl) ?_
  refine e_12 (f_3 (pc := 21) (e := (21, 12, 0, 0, 0, 0, 0, 22)) rfl) rfl ?_
  refine e_90i (f_3 (pc := 22) (e := (22, 90, 0, 1, 0, 17, 794, 25)) rfl) (v := (c : Int) + 1) rfl (hT 89 rfl) rfl rfl ec ?_
  refine e_0 (f_3 (pc := 25) (e := (25, 0, 1, 0, 0, 0, 0, 26)) rfl) (v := 1) rfl ?_
  refine e_31 (f_3 (pc := 26) (e := (26, 31, 0, 0, 0, 0, 0, 27)) rfl) ?_
  rw [ysub_eq (by omega) (by omega), show (c : Int) + 1 - 1 = (c : Int) by omega]
  refine e_116e (f_3 (pc := 27) (e := (27, 116, 0, 0, 0, 0, 0, 28)) rfl) (r2 := R 90 c) rfl (hT 90 rfl) (by omega) (by omega) (.inl rfl) (show R 90 ((c : Int)).toNat = R 90 c by rw [tc]) ?_
  refine e_82 (f_3 (pc := 28) (e := (28, 82, 33, 0, 0, 0, 0, 31)) rfl) (fun p ep => ?_) (fun _ => no)
  obtain hp : cHp N T R p := by
    rcases hs c (by omega) with g | ⟨p', g1, g2⟩
    · rw [g] at ep; cases ep
    · rw [ep] at g1; cases g1; exact g2
  refine e_12 (f_3 (pc := 33) (e := (33, 12, 0, 0, 0, 0, 0, 34)) rfl) rfl ?_
  refine e_50 (f_3 (pc := 34) (e := (34, 50, 0, 0, 0, 0, 0, 35)) rfl) rfl ?_
  refine e_90i (f_3 (pc := 35) (e := (35, 90, 0, 1, 0, 17, 794, 38)) rfl) (v := (c : Int) + 1) rfl (hT 89 rfl) rfl rfl ec ?_
  refine e_0 (f_3 (pc := 38) (e := (38, 0, 1, 0, 0, 0, 0, 39)) rfl) (v := 1) rfl ?_
  refine e_31 (f_3 (pc := 39) (e := (39, 31, 0, 0, 0, 0, 0, 40)) rfl) ?_
  rw [ysub_eq (by omega) (by omega), show (c : Int) + 1 - 1 = (c : Int) by omega]
  refine e_91 zA (f_3 (pc := 40) (e := (40, 91, 0, 1, 0, 17, 794, 43)) rfl) rfl (hT 89 rfl) rfl rfl trivial ?_
  show yW l zSS D cy zFk z _ 3 bc bs K _ _ _ _ _ (N, T, R, yU I 89 1 (c : Int))
  generalize hY : yU I 89 1 (c : Int) = Y
  have q1 : Y 89 1 = (c : Int) := by rw [← hY, yU_eq]
  refine e_12 (f_3 (pc := 43) (e := (43, 12, 1, 0, 0, 0, 0, 44)) rfl) rfl ?_
  refine e_12 (f_3 (pc := 44) (e := (44, 12, 0, 0, 0, 0, 0, 45)) rfl) rfl ?_
  refine e_90r zA (f_3 (pc := 45) (e := (45, 90, 0, 0, 3, 13, 793, 48)) rfl) rfl (hT 89 rfl) rfl rfl (hR 89 0 rfl) ?_
  refine e_12 (f_3 (pc := 48) (e := (48, 12, 0, 0, 0, 0, 0, 49)) rfl) rfl ?_
  refine e_90i (f_3 (pc := 49) (e := (49, 90, 0, 1, 0, 17, 794, 52)) rfl) (v := (c : Int)) rfl (hT 89 rfl) rfl rfl q1 ?_
  refine e_116e (f_3 (pc := 52) (e := (52, 116, 0, 0, 0, 0, 0, 53)) rfl) (r2 := some p) rfl (hT 90 rfl) (by omega) (by omega) (.inl rfl) (show R 90 ((c : Int)).toNat = some p by rw [tc]; exact ep) ?_
  refine e_130 (f_3 (pc := 53) (e := (53, 130, 62, 0, 5, 25, 796, 56)) rfl) zA (as := [yr (some 16), yr (some p)]) (rest := []) rfl rfl rfl rfl (Nat.le_of_ble_eq_true rfl) (Nat.le_of_ble_eq_true rfl) ⟨_, _, _, rfl, hT 16 rfl⟩ (mc := 0) (ms := 0) (Nat.zero_le _) (Nat.zero_le _) ?_
  refine w_62 hT hR (a_State16 hT hR) (.inl (by decide)) hp.2.2 (.inr hp.1) (fun X fX _ => ?_)
  refine e_12 (f_3 (pc := 56) (e := (56, 12, 0, 0, 0, 0, 0, 57)) rfl) rfl ?_
  refine e_90 zA (f_3 (pc := 57) (e := (57, 90, 0, 1, 0, 17, 794, 60)) rfl) rfl (hT 89 rfl) rfl rfl ?_
  refine e_120 (f_3 (pc := 60) (e := (60, 120, 0, 0, 0, 0, 0, 0)) rfl) (hk _ X (fun i hi hlt => hh i hi ?_) (fun k j g g2 => ?_))
  · rw [fX 89 1 (by omega), q1] at hlt; omega
  · rw [fX k j g2, ← hY, yU_ne _ _ g]
theorem w_149 (hT : yLT T) (hR : yLR R) (hs : cHs N T R) (hh : cHk R I) (hk : ∀ r (I' : Nat → Nat → Int), cHk R I' → (∀ k j, ¬ (k = 89 ∧ j = 1) → ¬ (16 ≤ k ∧ k < 29) → I' k j = I k j) → K (some (yi r)) (N, T, R, I')) :
    yW l zSS D cy zFk z (d + 3) 149 bc bs K 0 0 0 [(0, yr (some 0))] [] (N, T, R, I) :=
  B_149_0 hT hR (w_3 hT hR hs hh (fun r I' h1 h2 => ⟨_, _, rfl, rfl, hk r I' h1 h2⟩))
end Cf
