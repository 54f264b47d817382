/-! image and restore of the class, with what becomes of the NAMES (printed by wip/whole/y/gen204.py) -/
/-- two images are two -/
def cDs (R : Nat → Nat → Option Nat) : Prop := ∀ p, R 101 0 = some p → R 101 1 ≠ some p
theorem yTWorld_2 {j : Nat} (h : j < 32) (h2 : (yTWorld j).1 = 2) : j = 5 := by
  have d : ∀ j : Fin 32, (yTWorld j.1).1 = 2 → j.1 = 5 := by decide
  exact d ⟨j, h⟩ h2
theorem cCy_cg {I X V : Nat → Nat → Int} {p q : Nat} (c : cCy I X p q) (e : ∀ k j, p ≤ k → k < p + 12 → V k j = X k j) : cCy I V p q := by
  obtain ⟨x0, x1, x3, x11, xc⟩ := c
  refine ⟨?_, fun a ha => ?_, fun s hs => ?_, fun i hi => ?_, fun i hi => ?_⟩
  · rw [e p 0 (by omega) (by omega), e p 1 (by omega) (by omega), e p 5 (by omega) (by omega), e p 14 (by omega) (by omega)]; exact x0
  · rw [e (p + 1) a (by omega) (by omega), e (p + 2) a (by omega) (by omega)]; exact x1 a ha
  · rw [e (p + 3) s (by omega) (by omega)]; exact x3 s hs
  · rw [e (p + 11) i (by omega) (by omega)]; exact x11 i hi
  · rw [e (p + 4) i (by omega) (by omega), e (p + 5) i (by omega) (by omega), e (p + 6) i (by omega) (by omega), e (p + 7) i (by omega) (by omega), e (p + 8) i (by omega) (by omega), e (p + 9) i (by omega) (by omega), e (p + 10) i (by omega) (by omega)]; exact xc i hi
section Xg
variable {l : Launch} {D : va_G} {cy : Nat → ClassId} {z d bc bs nc nl N : Nat} {T : Nat → Nat × Nat} {R : Nat → Nat → Option Nat} {I : Nat → Nat → Int} {K : yKo}
theorem x_112 (hT : yLT T) (hR : yLR R) {p q : Nat} (hp : cWd T R p) (hq : cWd T R q) (gp : p = 3 ∨ 126 ≤ p) (gq : q = 3 ∨ 126 ≤ q) (hpq : (p = 3 ∧ 126 ≤ q) ∨ (q = 3 ∧ 126 ≤ p)) (hqN : q + 32 ≤ N) (hk : ∀ I' : Nat → Nat → Int, (∀ k j, ¬ (p ≤ k ∧ k < p + 32) → I' k j = I k j) → cCy I I' (p + 1) (q + 1) → K none (N, T, R, I')) :
    yW l zSS D cy zFk z (d + 2) 112 bc bs K 0 0 0 [(0, yr (some p)), (1, yr (some q))] [] (N, T, R, I) := by
  refine B_112_0 hT hR hp.1 hq.1 (x_8 hT hR hp.2.1 hq.2.1 (by omega) (by omega) (fun X fX cX => ⟨_, rfl, rfl, w_62 hT hR hp.2.2.1 (by omega) hq.2.2.1 (by omega) (fun Y fY _ => ⟨_, rfl, rfl, w_27 hT hR hp.2.2.2.1 (by omega) hq.2.2.2.1 (by omega) (fun Z fZ _ => ⟨_, rfl, rfl, w_47 hT hR hp.2.2.2.2 (by omega) hq.2.2.2.2 (by omega) (fun V fV _ => ⟨_, rfl, rfl, hk V (fun k j g => ?_) (cCy_cg cX (fun k j a b => ?_))⟩)⟩)⟩)⟩))
  · rw [fV k j (by omega), fZ k j (by omega), fY k j (by omega), fX k j (by omega)]
  · rw [fV k j (by omega), fZ k j (by omega), fY k j (by omega)]
theorem x_123 (hT : yLT T) (hR : yLR R) (h126 : 126 ≤ N) (hi : cIm N T R) (hil : cIl R I) (hl4 : cLd I 4) (hd : cDs R) (hb1 : 32 ≤ bc) (hb2 : 944 ≤ bs) {x1 : Int} (hk : ∀ r N' T' R' I', yLT T' → yLR R' → cGr cHi N T R N' T' R' → cIm N' T' R' → cIl R' I' → (∀ k j, k < 126 → I' k j = I k j) → ((r = 1 ∧ 0 ≤ x1 ∧ x1 < 2 ∧ R' 101 x1.toNat ≠ none ∧ ∀ i, i < 2 → i ≠ x1.toNat → R' 101 i = R 101 i) ∨ (r = 0 ∧ ¬ (0 ≤ x1 ∧ x1 < 2) ∧ ∀ i, R' 101 i = R 101 i)) → cDs R' → (∀ i p, i < 2 → R' 101 i = some p → (r = 1 ∧ (i : Int) = x1 ∧ I' (p + 1) 5 = I 4 5 ∧ ∀ j, j < 8 → I' (p + 5) j = I 8 j) ∨ (¬ (r = 1 ∧ (i : Int) = x1) ∧ R 101 i = some p ∧ I' (p + 1) 5 = I (p + 1) 5 ∧ ∀ j, I' (p + 5) j = I (p + 5) j)) → K (some (yi r)) (N', T', R', I')) :
    yW l zSS D cy zFk z (d + 3) 123 bc bs K 0 0 0 [(0, yr (some 0)), (1, yi x1)] [] (N, T, R, I) := by
  have no : ¬ (0 ≤ x1 ∧ x1 < 2) → yW l zSS D cy zFk z (d + 3) 123 bc bs K 0 0 9 [(0, yr (some 0)), (1, yi x1)] [] (N, T, R, I) := fun hn =>
    e_0 (f_123 (pc := 9) (e := (9, 0, 0, 0, 0, 0, 0, 10)) rfl) (v := 0) rfl (e_121 (f_123 (pc := 10) (e := (10, 121, 0, 0, 0, 0, 0, 11)) rfl) (.inl rfl) (hk _ N T R I hT hR cGr_rfl hi hil (fun _ _ _ => rfl) (.inr ⟨rfl, hn, fun _ => rfl⟩) hd (fun i p _ ep => .inr ⟨fun q => absurd q.1 (by decide), ep, rfl, fun _ => rfl⟩)))
  refine e_10 (f_123 (pc := 0) (e := (0, 10, 1, 0, 0, 0, 0, 1)) rfl) rfl ?_
  refine e_62 (f_123 (pc := 1) (e := (1, 62, 9, 0, 0, 0, 0, 4)) rfl) (fun c => no (by omega)) (fun c0 => ?_)
  refine e_10 (f_123 (pc := 4) (e := (4, 10, 1, 0, 0, 0, 0, 5)) rfl) rfl ?_
  refine e_0 (f_123 (pc := 5) (e := (5, 0, 2, 0, 0, 0, 0, 6)) rfl) (v := 2) rfl ?_
  refine e_72 (f_123 (pc := 6) (e := (6, 72, 11, 0, 0, 0, 0, 9)) rfl) (fun c2 => ?_) (fun c => no (by omega))
  obtain ⟨c, rfl⟩ : ∃ c : Nat, x1 = (c : Int) := ⟨x1.toNat, by omega⟩
  have tc : ((c : Int)).toNat = c := by omega
  -- the copy
  have cpy : ∀ (nc nl N' : Nat) (T' : Nat → Nat × Nat) (R' : Nat → Nat → Option Nat) (I' : Nat → Nat → Int) (p : Nat), nc ≤ bc → nl ≤ bs → yLT T' → yLR R' → cGr cHi N T R N' T' R' → cIm N' T' R' → (∀ i p', i < 2 → i ≠ c → R' 101 i = some p' → cLd I' (p' + 1)) → R' 101 c = some p → (∀ i, i < 2 → i ≠ c → R' 101 i = R 101 i) → 126 ≤ p → p + 32 ≤ N' → cWd T' R' p → (∀ k j, k < 126 → I' k j = I k j) → cDs R' → (∀ i p', i < 2 → i ≠ c → R' 101 i = some p' → R 101 i = some p' ∧ I' (p' + 1) 5 = I (p' + 1) 5 ∧ ∀ j, I' (p' + 5) j = I (p' + 5) j) →
      yW l zSS D cy zFk z (d + 3) 123 bc bs K nc nl 33 [(0, yr (some 0)), (1, yi (c : Int))] [] (N', T', R', I') := by
    intro nc nl N' T' R' I' p hnb hsb hT hR gr hi hil ep e101 hp hpN hw fI ds oth
    refine e_12 (f_123 (pc := 33) (e := (33, 12, 0, 0, 0, 0, 0, 34)) rfl) rfl ?_
    refine e_90r zA (f_123 (pc := 34) (e := (34, 90, 10, 6, 3, 53, 1074, 37)) rfl) rfl (hT 0 rfl) rfl rfl (hR 0 6 rfl) ?_
    refine e_10 (f_123 (pc := 37) (e := (37, 10, 1, 0, 0, 0, 0, 38)) rfl) rfl ?_
    refine e_116e (f_123 (pc := 38) (e := (38, 116, 0, 0, 0, 0, 0, 39)) rfl) (r2 := some p) rfl (hT 101 rfl) (by omega) (by omega) (.inr rfl) (show R' 101 ((c : Int)).toNat = some p by rw [tc]; exact ep) ?_
    refine e_12 (f_123 (pc := 39) (e := (39, 12, 0, 0, 0, 0, 0, 40)) rfl) rfl ?_
    refine e_90r zA (f_123 (pc := 40) (e := (40, 90, 10, 1, 3, 19, 1064, 43)) rfl) rfl (hT 0 rfl) rfl rfl (hR 0 1 rfl) ?_
    refine e_130 (f_123 (pc := 43) (e := (43, 130, 112, 0, 9, 315, 1120, 46)) rfl) zA (as := [yr (some p), yr (some 3)]) (rest := []) rfl rfl rfl rfl (Nat.le_of_ble_eq_true rfl) (Nat.le_of_ble_eq_true rfl) ⟨_, _, _, rfl, show T' p = (10 + 9, 4) from hw.1.1 0 rfl⟩ (mc := 0) (ms := 0) hnb hsb ?_
    refine x_112 hT hR hw (a_Wd3 hT hR) (.inr hp) (.inl rfl) (.inr ⟨rfl, hp⟩) (by omega) (fun X fX cX => ?_)
    have lX : cLd X (p + 1) := by
      unfold cLd
      rw [cX.1.1, cX.1.2.1, fI 4 0 (by decide), fI 4 1 (by decide)]
      exact hl4
    refine e_0 (f_123 (pc := 46) (e := (46, 0, 1, 0, 0, 0, 0, 47)) rfl) (v := 1) rfl ?_
    refine e_121 (f_123 (pc := 47) (e := (47, 121, 0, 0, 0, 0, 0, 0)) rfl) (.inr rfl) (hk _ N' T' R' X hT hR gr hi (fun i p' hi2 ep' => ?_) (fun k j g => by rw [fX k j (by omega)]; exact fI k j g) (.inl ⟨rfl, by omega, c2, (fun q => by rw [tc, ep] at q; cases q), fun i h1 h2 => e101 i h1 (by rw [tc] at h2; exact h2)⟩) ds (fun i p' hi2 ep' => ?_))
    rotate_left
    · by_cases e : i = c
      · subst e
        rw [ep] at ep'
        cases ep'
        exact .inl ⟨rfl, rfl, by rw [cX.1.2.2.1, fI 4 5 (by decide)], fun j hj => by rw [(cX.2.2.2.2 j hj).1.1, fI 8 j (by decide)]⟩
      · obtain ⟨o1, o2, o3⟩ := oth i p' hi2 e ep'
        have w' : cWd T' R' p' := by
          rcases hi i hi2 with g | ⟨p2, g1, g2, g3, g4⟩
          · rw [g] at ep'; cases ep'
          · rw [ep'] at g1; cases g1; exact g4
        have pn : p' ≠ p := fun q => by
          subst q
          rcases (show (i = 0 ∧ c = 1) ∨ (i = 1 ∧ c = 0) by omega) with ⟨rfl, rfl⟩ | ⟨rfl, rfl⟩
          · exact ds _ ep' ep
          · exact ds _ ep ep'
        have n1 : ¬ (p ≤ p' + 1 ∧ p' + 1 < p + 32) := fun ov => by
          have t2 := hw.1.1 (p' + 1 - p) (Nat.ble_eq.mpr (by omega))
          rw [show p + (p' + 1 - p) = p' + 1 by omega, show T' (p' + 1) = (11, 15) from w'.2.1.1 0 rfl] at t2
          have := yTWorld_ty (show p' + 1 - p < 32 by omega) (by rw [← t2])
          omega
        have n5 : ¬ (p ≤ p' + 5 ∧ p' + 5 < p + 32) := fun ov => by
          have t2 := hw.1.1 (p' + 5 - p) (Nat.ble_eq.mpr (by omega))
          rw [show p + (p' + 5 - p) = p' + 5 by omega, show T' (p' + 5) = (2, 8) from w'.2.1.1 4 rfl] at t2
          have := yTWorld_2 (show p' + 5 - p < 32 by omega) (by rw [← t2])
          omega
        exact .inr ⟨fun q => e (by omega), o1, by rw [fX (p' + 1) 5 n1]; exact o2, fun j => by rw [fX (p' + 5) j n5]; exact o3 j⟩
    by_cases e : i = c
    · subst e
      rw [ep] at ep'
      cases ep'
      exact lX
    · have old := hil i p' hi2 e ep'
      by_cases ov : p ≤ p' + 1 ∧ p' + 1 < p + 32
      · have t1 : T' (p' + 1) = (11, 15) := by
          rcases hi i hi2 with g | ⟨p2, g1, g2, g3, g4⟩
          · rw [g] at ep'; cases ep'
          · rw [ep'] at g1; cases g1; exact g4.2.1.1 0 rfl
        have t2 := hw.1.1 (p' + 1 - p) (Nat.ble_eq.mpr (by omega))
        rw [show p + (p' + 1 - p) = p' + 1 by omega, t1] at t2
        have := yTWorld_ty (show p' + 1 - p < 32 by omega) (by rw [← t2])
        rw [show p' = p by omega]; exact lX
      · unfold cLd
        rw [fX (p' + 1) 0 ov, fX (p' + 1) 1 ov]; exact old
  refine e_12 (f_123 (pc := 11) (e := (11, 12, 0, 0, 0, 0, 0, 12)) rfl) rfl ?_
  refine e_90r zA (f_123 (pc := 12) (e := (12, 90, 10, 6, 3, 53, 1074, 15)) rfl) rfl (hT 0 rfl) rfl rfl (hR 0 6 rfl) ?_
  refine e_10 (f_123 (pc := 15) (e := (15, 10, 1, 0, 0, 0, 0, 16)) rfl) rfl ?_
  refine e_116e (f_123 (pc := 16) (e := (16, 116, 0, 0, 0, 0, 0, 17)) rfl) (r2 := R 101 c) rfl (hT 101 rfl) (by omega) (by omega) (.inr rfl) (show R 101 ((c : Int)).toNat = R 101 c by rw [tc]) ?_
  refine e_82 (f_123 (pc := 17) (e := (17, 82, 33, 0, 0, 0, 0, 20)) rfl) (fun p ep => ?_) (fun en => ?_)
  · obtain ⟨g2, g3, g4⟩ : 126 ≤ p ∧ p + 32 ≤ N ∧ cWd T R p := by
      rcases hi c (by omega) with g | ⟨p2, g1, g2, g3, g4⟩
      · rw [g] at ep; cases ep
      · rw [ep] at g1; cases g1; exact ⟨g2, g3, g4⟩
    exact cpy 0 0 N T R I p (Nat.zero_le _) (Nat.zero_le _) hT hR cGr_rfl hi (fun i p' h1 _ h3 => hil i p' h1 h3) ep (fun _ _ _ => rfl) g2 g3 g4 (fun _ _ _ => rfl) hd (fun i p' _ _ h3 => ⟨h3, rfl, fun _ => rfl⟩)
  · refine e_12 (f_123 (pc := 20) (e := (20, 12, 0, 0, 0, 0, 0, 21)) rfl) rfl ?_
    refine e_90r zA (f_123 (pc := 21) (e := (21, 90, 10, 6, 3, 53, 1074, 24)) rfl) rfl (hT 0 rfl) rfl rfl (hR 0 6 rfl) ?_
    refine e_10 (f_123 (pc := 24) (e := (24, 10, 1, 0, 0, 0, 0, 25)) rfl) rfl ?_
    refine e_100 zA (f_123 (pc := 25) (e := (25, 100, 9, 4, 0, 16, 1062, 28)) rfl) (by omega) (by omega) ?_
    refine ck_new (N' := N + 1) rfl (fun T1 R1 I1 e1 e2 e3 => ?_)
    refine e_50 (f_123 (pc := 28) (e := (28, 50, 0, 0, 0, 0, 0, 29)) rfl) rfl ?_
    refine e_131 (f_123 (pc := 29) (e := (29, 131, 111, 1, 9, 18, 1063, 32)) rfl) zA (as := [yr (some N)]) (rest := [yr (some N), yi (c : Int), yr (some 101)]) rfl rfl rfl rfl (Nat.le_of_ble_eq_true rfl) (Nat.le_of_ble_eq_true rfl) ⟨_, _, rfl⟩ (mc := 31) (ms := 940) (by omega) (by omega) ?_
    have hT1 : yLT T1 := by rw [e1]; exact yLT_nw h126 hT
    have hR1 : yLR R1 := by rw [e2]; exact yLR_nw h126 hR
    refine w_111 hT1 hR1 h126 (by rw [e1]; exact yNT_eq _ _ _ _) (by decide) (by decide) (fun T2 R2 I2 w2 oT oR oI l2 => ?_)
    have eT : ∀ k, k < N → T2 k = T k := fun k g => by rw [oT k (by omega), e1, yNT_ne _ _ _ (by omega)]
    have eR : ∀ k j, k < N → R2 k j = R k j := fun k j g => by rw [oR k j g, e2, yNR_ne _ _ (by omega)]
    have eI : ∀ k j, k < N → I2 k j = I k j := fun k j g => by rw [oI k j (by omega), e3, yNI_ne _ _ (by omega)]
    have hT2 : yLT T2 := fun k g => by have := Nat.le_of_ble_eq_true g; rw [eT k (by omega)]; exact hT k g
    have hR2 : yLR R2 := fun k j g => by have := yS0_lt g; rw [eR k j (by omega)]; exact hR k j g
    refine e_117 (f_123 (pc := 32) (e := (32, 117, 0, 0, 0, 0, 0, 33)) rfl) zA rfl (hT2 101 rfl) (by omega) (by omega) rfl (show T2 N = (10 + 9, 4) from w2.1.1 0 rfl) (.inr ⟨rfl, rfl⟩) ?_
    refine ck_row (fun R3 h3 => ?_)
    rw [tc] at h3
    have f3 : ∀ k j, k ≠ 101 → R3 k j = R2 k j := fun k j g => by rw [h3, yUR_ne _ _ (fun q => g q.1)]
    have hR3 : yLR R3 := yLR_101 hR2 f3
    have w3 : cWd T2 R3 N := cWd_cg w2 (fun _ _ _ => rfl) (fun k j a b => f3 k j (by omega))
    refine cpy _ _ (N + 32) T2 R3 I2 N (by omega) (by omega) hT2 hR3 ⟨by omega, eT, fun k j g ho => by rw [f3 k j ho]; exact eR k j g⟩ (fun i hi2 => ?_) (fun i p' hi2 hne ep' => ?_) (by rw [h3]; exact yUR_eq _ _ _ _) (fun i h1 h2 => by rw [h3, yUR_ne _ _ (fun q => h2 q.2), eR 101 i (by omega)]) h126 (Nat.le_refl _) w3 (fun k j g => eI k j (by omega)) ?_ (fun i p' hi2 hne ep' => ?_)
    · by_cases e : i = c
      · subst e; exact .inr ⟨N, by rw [h3]; exact yUR_eq _ _ _ _, h126, Nat.le_refl _, w3⟩
      · have e101 : R3 101 i = R 101 i := by rw [h3, yUR_ne _ _ (fun q => e q.2), eR 101 i (by omega)]
        rw [e101]
        rcases hi i hi2 with g | ⟨p, g1, g2, g3, g4⟩
        · exact .inl g
        · exact .inr ⟨p, g1, g2, by omega, cWd_cg g4 (fun k a b => eT k (by omega)) (fun k j a b => by rw [f3 k j (by omega)]; exact eR k j (by omega))⟩
    · have e101 : R3 101 i = R 101 i := by rw [h3, yUR_ne _ _ (fun q => hne q.2), eR 101 i (by omega)]
      rw [e101] at ep'
      have old := hil i p' hi2 ep'
      rcases hi i hi2 with g | ⟨p, g1, g2, g3, g4⟩
      · rw [g] at ep'; cases ep'
      · rw [ep'] at g1
        cases g1
        unfold cLd
        rw [eI (p' + 1) 0 (by omega), eI (p' + 1) 1 (by omega)]; exact old
    · intro p' q0 q1
      rcases (show c = 0 ∨ c = 1 by omega) with rfl | rfl
      · rw [h3, yUR_eq] at q0
        cases q0
        rw [h3, yUR_ne _ _ (fun q => absurd q.2 (by decide)), eR 101 1 (by omega)] at q1
        rcases hi 1 (by decide) with g | ⟨p2, g1, g2, g3, g4⟩
        · rw [g] at q1; cases q1
        · rw [q1] at g1; cases g1; omega
      · rw [h3, yUR_eq] at q1
        cases q1
        rw [h3, yUR_ne _ _ (fun q => absurd q.2 (by decide)), eR 101 0 (by omega)] at q0
        rcases hi 0 (by decide) with g | ⟨p2, g1, g2, g3, g4⟩
        · rw [g] at q0; cases q0
        · rw [q0] at g1; cases g1; omega
    · have e101 : R3 101 i = R 101 i := by rw [h3, yUR_ne _ _ (fun q => hne q.2), eR 101 i (by omega)]
      rw [e101] at ep'
      rcases hi i hi2 with g | ⟨p, g1, g2, g3, g4⟩
      · rw [g] at ep'; cases ep'
      · rw [ep'] at g1
        cases g1
        exact ⟨ep', eI (p' + 1) 5 (by omega), fun j => eI (p' + 5) j (by omega)⟩
theorem x_144 (hT : yLT T) (hR : yLR R) (hi : cIm N T R) (hil : cIl R I) {x1 : Int} (hk : ∀ r (I' : Nat → Nat → Int), ((r = 0 ∧ ¬ (0 ≤ x1 ∧ x1 < 2 ∧ R 101 x1.toNat ≠ none) ∧ ∀ k j, I' k j = I k j) ∨ (r = 1 ∧ (0 ≤ x1 ∧ x1 < 2 ∧ R 101 x1.toNat ≠ none) ∧ (∀ k j, ¬ (3 ≤ k ∧ k < 35) → ¬ (k = 89 ∧ j = 1) → I' k j = I k j) ∧ cLd I' 4 ∧ I' 89 1 = 0 ∧ ∃ p, R 101 x1.toNat = some p ∧ I' 4 5 = I (p + 1) 5 ∧ ∀ j, j < 8 → I' 8 j = I (p + 5) j)) → K (some (yi r)) (N, T, R, I')) :
    yW l zSS D cy zFk z (d + 3) 144 bc bs K 0 0 0 [(0, yr (some 0)), (1, yi x1)] [] (N, T, R, I) := by
  have no : ¬ (0 ≤ x1 ∧ x1 < 2 ∧ R 101 x1.toNat ≠ none) → yW l zSS D cy zFk z (d + 3) 144 bc bs K 0 0 18 [(0, yr (some 0)), (1, yi x1)] [] (N, T, R, I) := fun hn =>
    e_0 (f_144 (pc := 18) (e := (18, 0, 0, 0, 0, 0, 0, 19)) rfl) (v := 0) rfl (e_121 (f_144 (pc := 19) (e := (19, 121, 0, 0, 0, 0, 0, 20)) rfl) (.inl rfl) (hk _ I (.inl ⟨rfl, hn, fun _ _ => rfl⟩)))
  refine e_10 (f_144 (pc := 0) (e := (0, 10, 1, 0, 0, 0, 0, 1)) rfl) rfl ?_
  refine e_62 (f_144 (pc := 1) (e := (1, 62, 18, 0, 0, 0, 0, 4)) rfl) (fun c => no (fun q => by omega)) (fun c0 => ?_)
  refine e_10 (f_144 (pc := 4) (e := (4, 10, 1, 0, 0, 0, 0, 5)) rfl) rfl ?_
  refine e_0 (f_144 (pc := 5) (e := (5, 0, 2, 0, 0, 0, 0, 6)) rfl) (v := 2) rfl ?_
  refine e_73 (f_144 (pc := 6) (e := (6, 73, 18, 0, 0, 0, 0, 9)) rfl) (fun c => no (fun q => by omega)) (fun c2 => ?_)
  obtain ⟨c, rfl⟩ : ∃ c : Nat, x1 = (c : Int) := ⟨x1.toNat, by omega⟩
  have tc : ((c : Int)).toNat = c := by omega
  refine e_12 (f_144 (pc := 9) (e := (9, 12, 0, 0, 0, 0, 0, 10)) rfl) rfl ?_
  refine e_90r zA (f_144 (pc := 10) (e := (10, 90, 10, 6, 3, 53, 1074, 13)) rfl) rfl (hT 0 rfl) rfl rfl (hR 0 6 rfl) ?_
  refine e_10 (f_144 (pc := 13) (e := (13, 10, 1, 0, 0, 0, 0, 14)) rfl) rfl ?_
  refine e_116e (f_144 (pc := 14) (e := (14, 116, 0, 0, 0, 0, 0, 15)) rfl) (r2 := R 101 c) rfl (hT 101 rfl) (by omega) (by omega) (.inr rfl) (show R 101 ((c : Int)).toNat = R 101 c by rw [tc]) ?_
  refine e_82 (f_144 (pc := 15) (e := (15, 82, 20, 0, 0, 0, 0, 18)) rfl) (fun p ep => ?_) (fun en => no (fun q => q.2.2 (by rw [tc]; exact en)))
  obtain ⟨g2, g3, g4⟩ : 126 ≤ p ∧ p + 32 ≤ N ∧ cWd T R p := by
    rcases hi c (by omega) with g | ⟨p2, g1, g2, g3, g4⟩
    · rw [g] at ep; cases ep
    · rw [ep] at g1; cases g1; exact ⟨g2, g3, g4⟩
  refine e_12 (f_144 (pc := 20) (e := (20, 12, 0, 0, 0, 0, 0, 21)) rfl) rfl ?_
  refine e_90r zA (f_144 (pc := 21) (e := (21, 90, 10, 1, 3, 19, 1064, 24)) rfl) rfl (hT 0 rfl) rfl rfl (hR 0 1 rfl) ?_
  refine e_12 (f_144 (pc := 24) (e := (24, 12, 0, 0, 0, 0, 0, 25)) rfl) rfl ?_
  refine e_90r zA (f_144 (pc := 25) (e := (25, 90, 10, 6, 3, 53, 1074, 28)) rfl) rfl (hT 0 rfl) rfl rfl (hR 0 6 rfl) ?_
  refine e_10 (f_144 (pc := 28) (e := (28, 10, 1, 0, 0, 0, 0, 29)) rfl) rfl ?_
  refine e_116e (f_144 (pc := 29) (e := (29, 116, 0, 0, 0, 0, 0, 30)) rfl) (r2 := some p) rfl (hT 101 rfl) (by omega) (by omega) (.inr rfl) (show R 101 ((c : Int)).toNat = some p by rw [tc]; exact ep) ?_
  refine e_130 (f_144 (pc := 30) (e := (30, 130, 112, 0, 9, 315, 1120, 33)) rfl) zA (as := [yr (some 3), yr (some p)]) (rest := []) rfl rfl rfl rfl (Nat.le_of_ble_eq_true rfl) (Nat.le_of_ble_eq_true rfl) ⟨_, _, _, rfl, hT 3 rfl⟩ (mc := 0) (ms := 0) (Nat.zero_le _) (Nat.zero_le _) ?_
  refine x_112 hT hR (a_Wd3 hT hR) g4 (.inl rfl) (.inr g2) (.inl ⟨rfl, g2⟩) g3 (fun X fX cX => ?_)
  have lX : cLd X 4 := by
    have hl := hil c p (by omega) ep
    unfold cLd at hl ⊢
    rw [cX.1.1, cX.1.2.1]
    exact hl
  refine e_12 (f_144 (pc := 33) (e := (33, 12, 0, 0, 0, 0, 0, 34)) rfl) rfl ?_
  refine e_90r zA (f_144 (pc := 34) (e := (34, 90, 10, 4, 3, 42, 1071, 37)) rfl) rfl (hT 0 rfl) rfl rfl (hR 0 4 rfl) ?_
  refine e_0 (f_144 (pc := 37) (e := (37, 0, 0, 0, 0, 0, 0, 38)) rfl) (v := 0) rfl ?_
  refine e_91 zA (f_144 (pc := 38) (e := (38, 91, 0, 1, 0, 117, 1090, 41)) rfl) rfl (hT 89 rfl) rfl rfl trivial ?_
  refine e_0 (f_144 (pc := 41) (e := (41, 0, 1, 0, 0, 0, 0, 42)) rfl) (v := 1) rfl ?_
  refine e_121 (f_144 (pc := 42) (e := (42, 121, 0, 0, 0, 0, 0, 0)) rfl) (.inr rfl) (hk _ (yU X 89 1 0) (.inr ⟨rfl, ⟨by omega, by omega, (fun q => by rw [tc, ep] at q; cases q)⟩, fun k j a b => ?_, ?_, yU_eq _ _ _ _, p, by rw [tc]; exact ep, by rw [yU_ne _ _ (by omega)]; exact cX.1.2.2.1, fun j hj => by rw [yU_ne _ _ (by omega)]; exact (cX.2.2.2.2 j hj).1.1⟩))
  · rw [yU_ne _ _ b]; exact fX k j (by omega)
  · unfold cLd
    rw [yU_ne _ _ (by omega), yU_ne _ _ (by omega)]; exact lX
end Xg
