/-! CONTRACTS of the class: image, restore, torches, voted (template z5.tpl, tpl.py). -/
abbrev cHi (k _j : Nat) : Prop := k = 101
section Ch
variable {l : Launch} {D : va_G} {cy : Nat → ClassId} {z d bc bs nc nl N : Nat} {T : Nat → Nat × Nat} {R : Nat → Nat → Option Nat} {I : Nat → Nat → Int} {K : yKo}
/-- nothing of a world lies here but its own land -/
theorem yTWorld_ty {j : Nat} (h : j < 32) (h11 : (yTWorld j).1 = 11) : j = 1 := by
  have d : ∀ j : Fin 32, (yTWorld j.1).1 = 11 → j.1 = 1 := by decide
  exact d ⟨j, h⟩ h11
theorem yLR_101 {R R' : Nat → Nat → Option Nat} (hR : yLR R) (h : ∀ k j, k ≠ 101 → R' k j = R k j) : yLR R' := fun k j hk => by
  have : k ≠ 101 := fun e => by
    subst e
    have d : ∀ j : Fin 8, yS0 101 j.1 = false := by decide
    by_cases g : j < 8
    · rw [d ⟨j, g⟩] at hk; cases hk
    · have e : ∀ l : List Bool, l.length ≤ 8 → l.getD j false = false := fun l hl => by rw [List.getD, List.getElem?_eq_none (by omega)]; rfl
      unfold yS0 at hk
      rw [e _ (by decide)] at hk
      cases hk
  rw [h k j this]; exact hR k j hk
/-- images' lands are good -/
def cIl (R : Nat → Nat → Option Nat) (I : Nat → Nat → Int) : Prop := ∀ i p, i < 2 → R 101 i = some p → cLd I (p + 1)
theorem w_123 (hT : yLT T) (hR : yLR R) (h126 : 126 ≤ N) (hi : cIm N T R) (hil : cIl R I) (hl4 : cLd I 4) (hb1 : 32 ≤ bc) (hb2 : 944 ≤ bs) {x1 : Int} (hk : ∀ r N' T' R' I', yLT T' → yLR R' → cGr cHi N T R N' T' R' → cIm N' T' R' → cIl R' I' → (∀ k j, k < 126 → I' k j = I k j) → ((r = 1 ∧ 0 ≤ x1 ∧ x1 < 2 ∧ R' 101 x1.toNat ≠ none ∧ ∀ i, i < 2 → i ≠ x1.toNat → R' 101 i = R 101 i) ∨ (r = 0 ∧ ¬ (0 ≤ x1 ∧ x1 < 2) ∧ ∀ i, R' 101 i = R 101 i)) → K (some (yi r)) (N', T', R', I')) :
    yW l zSS D cy zFk z (d + 3) 123 bc bs K 0 0 0 [(0, yr (some 0)), (1, yi x1)] [] (N, T, R, I) := by
  have no : ¬ (0 ≤ x1 ∧ x1 < 2) → yW l zSS D cy zFk z (d + 3) 123 bc bs K 0 0 9 [(0, yr (some 0)), (1, yi x1)] [] (N, T, R, I) := fun hn =>
    e_0 (f_123 (pc := 9) (e := (9, 0, 0, 0, 0, 0, 0, 10)) rfl) (v := 0) rfl (e_121 (f_123 (pc := 10) (e := (10, 121, 0, 0, 0, 0, 0, 11)) rfl) (.inl rfl) (hk _ N T R I hT hR cGr_rfl hi hil (fun _ _ _ => rfl) (.inr ⟨rfl, hn, fun _ => rfl⟩)))
  refine e_10 (f_123 (pc := 0) (e := (0, 10, 1, 0, 0, 0, 0, 1)) rfl) rfl ?_
  refine e_62 (f_123 (pc := 1) (e := (1, 62, 9, 0, 0, 0, 0, 4)) rfl) (fun c => no (by omega)) (fun c0 => ?_)
  refine e_10 (f_123 (pc := 4) (e := (4, 10, 1, 0, 0, 0, 0, 5)) rfl) rfl ?_
  refine e_0 (f_123 (pc := 5) (e := (5, 0, 2, 0, 0, 0, 0, 6)) rfl) (v := 2) rfl ?_
  refine e_72 (f_123 (pc := 6) (e := (6, 72, 11, 0, 0, 0, 0, 9)) rfl) (fun c2 => ?_) (fun c => no (by omega))
  obtain ⟨c, rfl⟩ : ∃ c : Nat, x1 = (c : Int) := ⟨x1.toNat, by omega⟩
  have tc : ((c : Int)).toNat = c := by omega
  -- the copy
  have cpy : ∀ (nc nl N' : Nat) (T' : Nat → Nat × Nat) (R' : Nat → Nat → Option Nat) (I' : Nat → Nat → Int) (p : Nat), nc ≤ bc → nl ≤ bs → yLT T' → yLR R' → cGr cHi N T R N' T' R' → cIm N' T' R' → (∀ i p', i < 2 → i ≠ c → R' 101 i = some p' → cLd I' (p' + 1)) → R' 101 c = some p → (∀ i, i < 2 → i ≠ c → R' 101 i = R 101 i) → 126 ≤ p → cWd T' R' p → (∀ k j, k < 126 → I' k j = I k j) →
      yW l zSS D cy zFk z (d + 3) 123 bc bs K nc nl 33 [(0, yr (some 0)), (1, yi (c : Int))] [] (N', T', R', I') := by
    intro nc nl N' T' R' I' p hnb hsb hT hR gr hi hil ep e101 hp hw fI
    refine e_12 (f_123 (pc := 33) (e := (33, 12, 0, 0, 0, 0, 0, 34)) rfl) rfl ?_
    refine e_90r zA (f_123 (pc := 34) (e := (34, 90, 10, 6, 3, 53, 1074, 37)) rfl) rfl (hT 0 rfl) rfl rfl (hR 0 6 rfl) ?_
    refine e_10 (f_123 (pc := 37) (e := (37, 10, 1, 0, 0, 0, 0, 38)) rfl) rfl ?_
    refine e_116e (f_123 (pc := 38) (e := (38, 116, 0, 0, 0, 0, 0, 39)) rfl) (r2 := some p) rfl (hT 101 rfl) (by omega) (by omega) (.inr rfl) (show R' 101 ((c : Int)).toNat = some p by rw [tc]; exact ep) ?_
    refine e_12 (f_123 (pc := 39) (e := (39, 12, 0, 0, 0, 0, 0, 40)) rfl) rfl ?_
    refine e_90r zA (f_123 (pc := 40) (e := (40, 90, 10, 1, 3, 19, 1064, 43)) rfl) rfl (hT 0 rfl) rfl rfl (hR 0 1 rfl) ?_
    refine e_130 (f_123 (pc := 43) (e := (43, 130, 112, 0, 9, 315, 1120, 46)) rfl) zA (as := [yr (some p), yr (some 3)]) (rest := []) rfl rfl rfl rfl (Nat.le_of_ble_eq_true rfl) (Nat.le_of_ble_eq_true rfl) ⟨_, _, _, rfl, show T' p = (10 + 9, 4) from hw.1.1 0 rfl⟩ (mc := 0) (ms := 0) hnb hsb ?_
    refine w_112 hT hR hw (a_Wd3 hT hR) (.inr hp) (.inl rfl) (.inr ⟨rfl, hp⟩) (by unfold cLd; rw [fI 4 0 (by decide), fI 4 1 (by decide)]; exact hl4) (fun X fX lX => ?_)
    refine e_0 (f_123 (pc := 46) (e := (46, 0, 1, 0, 0, 0, 0, 47)) rfl) (v := 1) rfl ?_
    refine e_121 (f_123 (pc := 47) (e := (47, 121, 0, 0, 0, 0, 0, 0)) rfl) (.inr rfl) (hk _ N' T' R' X hT hR gr hi (fun i p' hi2 ep' => ?_) (fun k j g => by rw [fX k j (by omega)]; exact fI k j g) (.inl ⟨rfl, by omega, c2, (fun q => by rw [tc, ep] at q; cases q), fun i h1 h2 => e101 i h1 (by rw [tc] at h2; exact h2)⟩))
    by_cases e : i = c
    · subst e
      rw [ep] at ep'
      cases ep'
      exact lX
    · have old := hil i p' hi2 e ep'
      by_cases ov : p ≤ p' + 1 ∧ p' + 1 < p + 32
      · have t1 : T' (p' + 1) = (11, 15) := by
          rcases hi i hi2 with g | ⟨p2, g1, g2, g3, g4⟩
          · rw [g] at ep'; cases ep'
          · rw [ep'] at g1; cases g1; exact g4.2.1.1 0 rfl
        have t2 := hw.1.1 (p' + 1 - p) (Nat.ble_eq.mpr (by omega))
        rw [show p + (p' + 1 - p) = p' + 1 by omega, t1] at t2
        have := yTWorld_ty (show p' + 1 - p < 32 by omega) (by rw [← t2])
        rw [show p' = p by omega]; exact lX
      · unfold cLd
        rw [fX (p' + 1) 0 ov, fX (p' + 1) 1 ov]; exact old
  refine e_12 (f_123 (pc := 11) (e := (11, 12, 0, 0, 0, 0, 0, 12)) rfl) rfl ?_
  refine e_90r zA (f_123 (pc := 12) (e := (12, 90, 10, 6, 3, 53, 1074, 15)) rfl) rfl (hT 0 rfl) rfl rfl (hR 0 6 rfl) ?_
  refine e_10 (f_123 (pc := 15) (e := (15, 10, 1, 0, 0, 0, 0, 16)) rfl) rfl ?_
  refine e_116e (f_123 (pc := 16) (e := (16, 116, 0, 0, 0, 0, 0, 17)) rfl) (r2 := R 101 c) rfl (hT 101 rfl) (by omega) (by omega) (.inr rfl) (show R 101 ((c : Int)).toNat = R 101 c by rw [tc]) ?_
  refine e_82 (f_123 (pc := 17) (e := (17, 82, 33, 0, 0, 0, 0, 20)) rfl) (fun p ep => ?_) (fun en => ?_)
  · obtain ⟨g2, g3, g4⟩ : 126 ≤ p ∧ p + 32 ≤ N ∧ cWd T R p := by
      rcases hi c (by omega) with g | ⟨p2, g1, g2, g3, g4⟩
      · rw [g] at ep; cases ep
      · rw [ep] at g1; cases g1; exact ⟨g2, g3, g4⟩
    exact cpy 0 0 N T R I p (Nat.zero_le _) (Nat.zero_le _) hT hR cGr_rfl hi (fun i p' h1 _ h3 => hil i p' h1 h3) ep (fun _ _ _ => rfl) g2 g4 (fun _ _ _ => rfl)
  · refine e_12 (f_123 (pc := 20) (e := (20, 12, 0, 0, 0, 0, 0, 21)) rfl) rfl ?_
    refine e_90r zA (f_123 (pc := 21) (e := (21, 90, 10, 6, 3, 53, 1074, 24)) rfl) rfl (hT 0 rfl) rfl rfl (hR 0 6 rfl) ?_
    refine e_10 (f_123 (pc := 24) (e := (24, 10, 1, 0, 0, 0, 0, 25)) rfl) rfl ?_
    refine e_100 zA (f_123 (pc := 25) (e := (25, 100, 9, 4, 0, 16, 1062, 28)) rfl) (by omega) (by omega) ?_
    refine ck_new (N' := N + 1) rfl (fun T1 R1 I1 e1 e2 e3 => ?_)
    refine e_50 (f_123 (pc := 28) (e := (28, 50, 0, 0, 0, 0, 0, 29)) rfl) rfl ?_
    refine e_131 (f_123 (pc := 29) (e := (29, 131, 111, 1, 9, 18, 1063, 32)) rfl) zA (as := [yr (some N)]) (rest := [yr (some N), yi (c : Int), yr (some 101)]) rfl rfl rfl rfl (Nat.le_of_ble_eq_true rfl) (Nat.le_of_ble_eq_true rfl) ⟨_, _, rfl⟩ (mc := 31) (ms := 940) (by omega) (by omega) ?_
    have hT1 : yLT T1 := by rw [e1]; exact yLT_nw h126 hT
    have hR1 : yLR R1 := by rw [e2]; exact yLR_nw h126 hR
    refine w_111 hT1 hR1 h126 (by rw [e1]; exact yNT_eq _ _ _ _) (by decide) (by decide) (fun T2 R2 I2 w2 oT oR oI l2 => ?_)
    have eT : ∀ k, k < N → T2 k = T k := fun k g => by rw [oT k (by omega), e1, yNT_ne _ _ _ (by omega)]
    have eR : ∀ k j, k < N → R2 k j = R k j := fun k j g => by rw [oR k j g, e2, yNR_ne _ _ (by omega)]
    have eI : ∀ k j, k < N → I2 k j = I k j := fun k j g => by rw [oI k j (by omega), e3, yNI_ne _ _ (by omega)]
    have hT2 : yLT T2 := fun k g => by have := Nat.le_of_ble_eq_true g; rw [eT k (by omega)]; exact hT k g
    have hR2 : yLR R2 := fun k j g => by have := yS0_lt g; rw [eR k j (by omega)]; exact hR k j g
    refine e_117 (f_123 (pc := 32) (e := (32, 117, 0, 0, 0, 0, 0, 33)) rfl) zA rfl (hT2 101 rfl) (by omega) (by omega) rfl (show T2 N = (10 + 9, 4) from w2.1.1 0 rfl) (.inr ⟨rfl, rfl⟩) ?_
    refine ck_row (fun R3 h3 => ?_)
    rw [tc] at h3
    have f3 : ∀ k j, k ≠ 101 → R3 k j = R2 k j := fun k j g => by rw [h3, yUR_ne _ _ (fun q => g q.1)]
    have hR3 : yLR R3 := yLR_101 hR2 f3
    have w3 : cWd T2 R3 N := cWd_cg w2 (fun _ _ _ => rfl) (fun k j a b => f3 k j (by omega))
    refine cpy _ _ (N + 32) T2 R3 I2 N (by omega) (by omega) hT2 hR3 ⟨by omega, eT, fun k j g ho => by rw [f3 k j ho]; exact eR k j g⟩ (fun i hi2 => ?_) (fun i p' hi2 hne ep' => ?_) (by rw [h3]; exact yUR_eq _ _ _ _) (fun i h1 h2 => by rw [h3, yUR_ne _ _ (fun q => h2 q.2), eR 101 i (by omega)]) h126 w3 (fun k j g => eI k j (by omega))
    · by_cases e : i = c
      · subst e; exact .inr ⟨N, by rw [h3]; exact yUR_eq _ _ _ _, h126, Nat.le_refl _, w3⟩
      · have e101 : R3 101 i = R 101 i := by rw [h3, yUR_ne _ _ (fun q => e q.2), eR 101 i (by omega)]
        rw [e101]
        rcases hi i hi2 with g | ⟨p, g1, g2, g3, g4⟩
        · exact .inl g
        · exact .inr ⟨p, g1, g2, by omega, cWd_cg g4 (fun k a b => eT k (by omega)) (fun k j a b => by rw [f3 k j (by omega)]; exact eR k j (by omega))⟩
    · have e101 : R3 101 i = R 101 i := by rw [h3, yUR_ne _ _ (fun q => hne q.2), eR 101 i (by omega)]
      rw [e101] at ep'
      have old := hil i p' hi2 ep'
      rcases hi i hi2 with g | ⟨p, g1, g2, g3, g4⟩
      · rw [g] at ep'; cases ep'
      · rw [ep'] at g1
        cases g1
        unfold cLd
        rw [eI (p' + 1) 0 (by omega), eI (p' + 1) 1 (by omega)]; exact old
theorem w_144 (hT : yLT T) (hR : yLR R) (hi : cIm N T R) (hil : cIl R I) {x1 : Int} (hk : ∀ r (I' : Nat → Nat → Int), ((r = 0 ∧ ¬ (0 ≤ x1 ∧ x1 < 2 ∧ R 101 x1.toNat ≠ none) ∧ ∀ k j, I' k j = I k j) ∨ (r = 1 ∧ (0 ≤ x1 ∧ x1 < 2 ∧ R 101 x1.toNat ≠ none) ∧ (∀ k j, ¬ (3 ≤ k ∧ k < 35) → ¬ (k = 89 ∧ j = 1) → I' k j = I k j) ∧ cLd I' 4 ∧ I' 89 1 = 0)) → K (some (yi r)) (N, T, R, I')) :
    yW l zSS D cy zFk z (d + 3) 144 bc bs K 0 0 0 [(0, yr (some 0)), (1, yi x1)] [] (N, T, R, I) := by
  have no : ¬ (0 ≤ x1 ∧ x1 < 2 ∧ R 101 x1.toNat ≠ none) → yW l zSS D cy zFk z (d + 3) 144 bc bs K 0 0 18 [(0, yr (some 0)), (1, yi x1)] [] (N, T, R, I) := fun hn =>
    e_0 (f_144 (pc := 18) (e := (18, 0, 0, 0, 0, 0, 0, 19)) rfl) (v := 0) rfl (e_121 (f_144 (pc := 19) (e := (19, 121, 0, 0, 0, 0, 0, 20)) rfl) (.inl rfl) (hk _ I (.inl ⟨rfl, hn, fun _ _ => rfl⟩)))
  refine e_10 (f_144 (pc := 0) (e := (0, 10, 1, 0, 0, 0, 0, 1)) rfl) rfl ?_
  refine e_62 (f_144 (pc := 1) (e := (1, 62, 18, 0, 0, 0, 0, 4)) rfl) (fun c => no (fun q => by omega)) (fun c0 => ?_)
  refine e_10 (f_144 (pc := 4) (e := (4, 10, 1, 0, 0, 0, 0, 5)) rfl) rfl ?_
  refine e_0 (f_144 (pc := 5) (e := (5, 0, 2, 0, 0, 0, 0, 6)) rfl) (v := 2) rfl ?_
  refine e_73 (f_144 (pc := 6) (e := (6, 73, 18, 0, 0, 0, 0, 9)) rfl) (fun c => no (fun q => by omega)) (fun c2 => ?_)
  obtain ⟨c, rfl⟩ : ∃ c : Nat, x1 = (c : Int) := ⟨x1.toNat, by omega⟩
  have tc : ((c : Int)).toNat = c := by omega
  refine e_12 (f_144 (pc := 9) (e := (9, 12, 0, 0, 0, 0, 0, 10)) rfl) rfl ?_
  refine e_90r zA (f_144 (pc := 10) (e := (10, 90, 10, 6, 3, 53, 1074, 13)) rfl) rfl (hT 0 rfl) rfl rfl (hR 0 6 rfl) ?_
  refine e_10 (f_144 (pc := 13) (e := (13, 10, 1, 0, 0, 0, 0, 14)) rfl) rfl ?_
  refine e_116e (f_144 (pc := 14) (e := (14, 116, 0, 0, 0, 0, 0, 15)) rfl) (r2 := R 101 c) rfl (hT 101 rfl) (by omega) (by omega) (.inr rfl) (show R 101 ((c : Int)).toNat = R 101 c by rw [tc]) ?_
  refine e_82 (f_144 (pc := 15) (e := (15, 82, 20, 0, 0, 0, 0, 18)) rfl) (fun p ep => ?_) (fun en => no (fun q => q.2.2 (by rw [tc]; exact en)))
  obtain ⟨g2, g3, g4⟩ : 126 ≤ p ∧ p + 32 ≤ N ∧ cWd T R p := by
    rcases hi c (by omega) with g | ⟨p2, g1, g2, g3, g4⟩
    · rw [g] at ep; cases ep
    · rw [ep] at g1; cases g1; exact ⟨g2, g3, g4⟩
  refine e_12 (f_144 (pc := 20) (e := (20, 12, 0, 0, 0, 0, 0, 21)) rfl) rfl ?_
  refine e_90r zA (f_144 (pc := 21) (e := (21, 90, 10, 1, 3, 19, 1064, 24)) rfl) rfl (hT 0 rfl) rfl rfl (hR 0 1 rfl) ?_
  refine e_12 (f_144 (pc := 24) (e := (24, 12, 0, 0, 0, 0, 0, 25)) rfl) rfl ?_
  refine e_90r zA (f_144 (pc := 25) (e := (25, 90, 10, 6, 3, 53, 1074, 28)) rfl) rfl (hT 0 rfl) rfl rfl (hR 0 6 rfl) ?_
  refine e_10 (f_144 (pc := 28) (e := (28, 10, 1, 0, 0, 0, 0, 29)) rfl) rfl ?_
  refine e_116e (f_144 (pc := 29) (e := (29, 116, 0, 0, 0, 0, 0, 30)) rfl) (r2 := some p) rfl (hT 101 rfl) (by omega) (by omega) (.inr rfl) (show R 101 ((c : Int)).toNat = some p by rw [tc]; exact ep) ?_
  refine e_130 (f_144 (pc := 30) (e := (30, 130, 112, 0, 9, 315, 1120, 33)) rfl) zA (as := [yr (some 3), yr (some p)]) (rest := []) rfl rfl rfl rfl (Nat.le_of_ble_eq_true rfl) (Nat.le_of_ble_eq_true rfl) ⟨_, _, _, rfl, hT 3 rfl⟩ (mc := 0) (ms := 0) (Nat.zero_le _) (Nat.zero_le _) ?_
  refine w_112 hT hR (a_Wd3 hT hR) g4 (.inl rfl) (.inr g2) (.inl ⟨rfl, g2⟩) (hil c p (by omega) ep) (fun X fX lX => ?_)
  refine e_12 (f_144 (pc := 33) (e := (33, 12, 0, 0, 0, 0, 0, 34)) rfl) rfl ?_
  refine e_90r zA (f_144 (pc := 34) (e := (34, 90, 10, 4, 3, 42, 1071, 37)) rfl) rfl (hT 0 rfl) rfl rfl (hR 0 4 rfl) ?_
  refine e_0 (f_144 (pc := 37) (e := (37, 0, 0, 0, 0, 0, 0, 38)) rfl) (v := 0) rfl ?_
  refine e_91 zA (f_144 (pc := 38) (e := (38, 91, 0, 1, 0, 117, 1090, 41)) rfl) rfl (hT 89 rfl) rfl rfl trivial ?_
  refine e_0 (f_144 (pc := 41) (e := (41, 0, 1, 0, 0, 0, 0, 42)) rfl) (v := 1) rfl ?_
  refine e_121 (f_144 (pc := 42) (e := (42, 121, 0, 0, 0, 0, 0, 0)) rfl) (.inr rfl) (hk _ (yU X 89 1 0) (.inr ⟨rfl, ⟨by omega, by omega, (fun q => by rw [tc, ep] at q; cases q)⟩, fun k j a b => ?_, ?_, yU_eq _ _ _ _⟩))
  · rw [yU_ne _ _ b]; exact fX k j (by omega)
  · unfold cLd
    rw [yU_ne _ _ (by omega), yU_ne _ _ (by omega)]; exact lX
/-- torches: its two rows, its tries -/
theorem w_148 (hT : yLT T) (hR : yLR R) (h126 : 126 ≤ N) (hb1 : 2 ≤ bc) (hb2 : 8 ≤ bs) {x1 x2 x3 x4 : Int} (hk : ∀ r N' T' R' I', yLT T' → yLR R' → N ≤ N' → (∀ k, k < N → T' k = T k) → (∀ k j, k < N → R' k j = R k j) → (∀ k j, k < N → ¬ (67 ≤ k ∧ k < 89) → I' k j = I k j) → K (some (yi r)) (N', T', R', I')) :
    yW l zSS D cy zFk z (d + 6) 148 bc bs K 0 0 0 [(0, yr (some 0)), (1, yi x1), (2, yi x2), (3, yi x3), (4, yi x4)] [] (N, T, R, I) := by
  have no : ∀ r, K (some (yi r)) (N, T, R, I) := fun r => hk r N T R I hT hR (Nat.le_refl _) (fun _ _ => rfl) (fun _ _ _ => rfl) (fun _ _ _ _ => rfl)
  refine Bd_148_0 hT hR (Nat.zero_le _) (Nat.zero_le _) h126 (w_126 hT hR (fun r2 h2 => ⟨_, _, rfl, rfl, fun _ => no _, fun c2 => w_126 hT hR (fun r5 h5 => ⟨_, _, rfl, rfl, fun _ => no _, fun c5 => ⟨fun _ => ⟨fun _ => no _, fun _ => ⟨fun _ => no _, fun _ => ⟨fun _ => ⟨by omega, by omega, fun T1 R1 I1 e1 e2 e3 => ⟨by omega, by omega, fun T2 R2 I2 e4 e5 e6 => ?_⟩⟩, fun _ => no _⟩⟩⟩, fun _ => no _⟩⟩)⟩))
  have hT2 : yLT T2 := by rw [e4, e1]; exact yLT_nw (by omega) (yLT_nw h126 hT)
  have hR2 : yLR R2 := by rw [e5, e2]; exact yLR_nw (by omega) (yLR_nw h126 hR)
  have v1 : T2 N = (1, 4) := by rw [e4, yNT_ne _ _ _ (by omega), e1, yNT_eq]
  have v2 : T2 (N + 1) = (1, 4) := by rw [e4, yNT_eq]
  have oT : ∀ k, k < N → T2 k = T k := fun k g => by rw [e4, yNT_ne _ _ _ (by omega), e1, yNT_ne _ _ _ (by omega)]
  have oR : ∀ k j, k < N → R2 k j = R k j := fun k j g => by rw [e5, yNR_ne _ _ (by omega), e2, yNR_ne _ _ (by omega)]
  have oI : ∀ k j, k < N → I2 k j = I k j := fun k j g => by rw [e6, yNI_ne _ _ (by omega), e3, yNI_ne _ _ (by omega)]
  have fin : ∀ r X, (∀ k j, k < N → ¬ (67 ≤ k ∧ k < 89) → X k j = I2 k j) → K (some (yi r)) (N + 1 + 1, T2, R2, X) := fun r X fX => hk r _ T2 R2 X hT2 hR2 (by omega) oT oR (fun k j a b => by rw [fX k j a b]; exact oI k j a)
  have last : ∀ (n : Nat) (x7 x8 : Int) (X : Nat → Nat → Int), 0 ≤ x8 → x8 ≤ 4 → 4 - x8 ≤ (n : Int) → (∀ k j, k < N → ¬ (67 ≤ k ∧ k < 89) → X k j = I2 k j) → yW l zSS D cy zFk z (d + 6) 148 bc bs K (0 + 1 + 1) (0 + 4 + 4) 214 [(4, yi x4), (5, yr (some N)), (6, yr (some (N + 1))), (7, yi x7), (8, yi x8)] [] (N + 1 + 1, T2, R2, X) := by
    intro n
    induction n with
    | zero =>
      intro x7 x8 X h1 h2 h3 fX
      exact Bd_148_214 hT2 hR2 (by omega) (by omega) v1 v2 ⟨fun _ => ⟨fun _ => fin _ X fX, fun _ => fin _ X fX⟩, fun c => by omega⟩
    | succ n ih =>
      intro x7 x8 X h1 h2 h3 fX
      refine Bd_148_214 hT2 hR2 (by omega) (by omega) v1 v2 ⟨fun _ => ⟨fun _ => fin _ X fX, fun _ => fin _ X fX⟩, fun c => ?_⟩
      have x2r : 0 ≤ yxor x8 2 ∧ yxor x8 2 < 4 ∧ 0 ≤ yxor x8 1 ∧ yxor x8 1 < 4 := by
        have d : ∀ u : Fin 4, 0 ≤ yxor (u.1 : Int) 2 ∧ yxor (u.1 : Int) 2 < 4 ∧ 0 ≤ yxor (u.1 : Int) 1 ∧ yxor (u.1 : Int) 1 < 4 := by decide +kernel
        have := d ⟨x8.toNat, by omega⟩
        simp only at this
        rw [show ((x8.toNat : Nat) : Int) = x8 by omega] at this
        exact this
      have nx : ∀ x7, yW l zSS D cy zFk z (d + 6) 148 bc bs K (0 + 1 + 1) (0 + 4 + 4) 214 [(4, yi x4), (5, yr (some N)), (6, yr (some (N + 1))), (7, yi x7), (8, yi (yadd x8 1))] [] (N + 1 + 1, T2, R2, X) := fun x7 => by
        rw [yadd_eq (by omega) (by omega)]
        exact ih x7 (x8 + 1) X (by omega) (by omega) (by omega) fX
      exact ⟨x2r.1, x2r.2.1, h1, by omega, fun _ => nx _, fun _ => ⟨x2r.2.2.1, x2r.2.2.2, h1, by omega, fun _ => nx _, fun _ => ⟨fun _ => nx _, fun _ => fin _ X fX⟩⟩⟩
  have tries : ∀ (n : Nat) (x7 : Int) (X : Nat → Nat → Int), 0 ≤ x7 → x7 ≤ 4 → 4 - x7 ≤ (n : Int) → (∀ k j, k < N → ¬ (67 ≤ k ∧ k < 89) → X k j = I2 k j) → yW l zSS D cy zFk z (d + 6) 148 bc bs K (0 + 1 + 1) (0 + 4 + 4) 76 [(0, yr (some 0)), (1, yi x1), (2, yi x2), (3, yi x3), (4, yi x4), (5, yr (some N)), (6, yr (some (N + 1))), (7, yi x7)] [] (N + 1 + 1, T2, R2, X) := by
    intro n
    induction n with
    | zero =>
      intro x7 X h1 h2 h3 fX
      exact Bd_148_76 hT2 hR2 (by omega) (by omega) v1 v2 ⟨fun _ => last 4 0 0 X (by omega) (by omega) (by omega) fX, fun c => by omega⟩
    | succ n ih =>
      intro x7 X h1 h2 h3 fX
      have go : ∀ Y : Nat → Nat → Int, x7 < 4 → (∀ k j, k < N → ¬ (67 ≤ k ∧ k < 89) → Y k j = I2 k j) → yW l zSS D cy zFk z (d + 5) 89 0 0 (fun r h' => ∃ I11, r = none ∧ h' = (N + 1 + 1, T2, R2, I11) ∧ (yW l zSS D cy zFk z (d + 5) 106 0 0 (fun r h' => ∃ r13 I12, r = some (yi r13) ∧ h' = (N + 1 + 1, T2, R2, I12) ∧ (0 ≤ x7 ∧ x7 < 4 ∧ (∀ I16, I16 = yU I12 N x7.toNat (ynar 1 r13) → (yW l zSS D cy zFk z (d + 5) 106 0 0 (fun r h' => ∃ r18 I17, r = some (yi r18) ∧ h' = (N + 1 + 1, T2, R2, I17) ∧ (0 ≤ x7 ∧ x7 < 4 ∧ (∀ I21, I21 = yU I17 (N + 1) x7.toNat (ynar 1 r18) → (yW l zSS D cy zFk z (d + 6) 148 bc bs K (0 + 1 + 1) (0 + 4 + 4) 76 [(0, yr (some 0)), (1, yi x1), (2, yi x2), (3, yi x3), (4, yi x4), (5, yr (some N)), (6, yr (some (N + 1))), (7, yi (yadd x7 1))] [] (N + 1 + 1, T2, R2, I21))))) 0 0 0 [(0, yr (some 67)), (1, yi x2)] [] (N + 1 + 1, T2, R2, I16))))) 0 0 0 [(0, yr (some 67)), (1, yi x1)] [] (N + 1 + 1, T2, R2, I11))) 0 0 0 [(0, yr (some 67)), (1, yi 500)] [] (N + 1 + 1, T2, R2, Y) := by
        intro Y h4 fY
        refine w_89 hT2 hR2 (fun X1 f1 _ => ⟨_, rfl, rfl, w_106 hT2 hR2 (fun r13 _ => ⟨_, _, rfl, rfl, h1, h4, fun X2 e2 => w_106 hT2 hR2 (fun r18 _ => ⟨_, _, rfl, rfl, h1, h4, fun X3 e3 => ?_⟩)⟩)⟩)
        rw [yadd_eq (by omega) (by omega)]
        exact ih (x7 + 1) X3 (by omega) (by omega) (by omega) (fun k j a b => by rw [e3, yU_ne _ _ (by omega), e2, yU_ne _ _ (by omega), f1 k j b]; exact fY k j a b)
      refine Bd_148_76 hT2 hR2 (by omega) (by omega) v1 v2 ⟨fun _ => last 4 0 0 X (by omega) (by omega) (by omega) fX, fun c => w_102 hT2 hR2 (fun Y fY _ => ⟨_, rfl, rfl, ?_⟩)⟩
      have fYI : ∀ k j, k < N → ¬ (67 ≤ k ∧ k < 89) → Y k j = I2 k j := fun k j a b => (fY k j b).trans (fX k j a b)
      refine ⟨fun _ => ⟨by omega, by omega, fun Z hZ => ⟨fun _ => ⟨by omega, by omega, fun V hV => go V (by omega) (fun k j a b => ?_)⟩, fun _ => ⟨by omega, by omega, fun V hV => go V (by omega) (fun k j a b => ?_)⟩⟩⟩, fun _ => ⟨by omega, by omega, fun Z hZ => ⟨fun _ => ⟨by omega, by omega, fun V hV => go V (by omega) (fun k j a b => ?_)⟩, fun _ => ⟨by omega, by omega, fun V hV => go V (by omega) (fun k j a b => ?_)⟩⟩⟩⟩ <;> (rw [hV, yU_ne _ _ (by omega), hZ, yU_ne _ _ (by omega)]; exact fYI k j a b)
  refine Bd_148_52 hT2 hR2 (by omega) (by omega) v1 v2 (w_102 hT2 hR2 (fun X fX _ => ⟨_, rfl, rfl, w_96 hT2 hR2 (fun Y fY _ => ⟨_, rfl, rfl, ?_⟩)⟩))
  exact tries 4 0 Y (by omega) (by omega) (by omega) (fun k j a b => (fY k j b).trans (fX k j b))
theorem w_151 (hT : yLT T) (hR : yLR R) (h126 : 126 ≤ N) (hb1 : 1 ≤ bc) (hb2 : 8 ≤ bs) {x1 : Int} (hk : ∀ r N' T' R' I', yLT T' → yLR R' → N ≤ N' → (∀ k, k < N → T' k = T k) → (∀ k j, k < N → R' k j = R k j) → (∀ k j, k < N → ¬ (67 ≤ k ∧ k < 89) → I' k j = I k j) → K (some (yi r)) (N', T', R', I')) :
    yW l zSS D cy zFk z (d + 6) 151 bc bs K 0 0 0 [(0, yr (some 0)), (1, yi x1)] [] (N, T, R, I) := by
  refine Bd_151_0 hT hR (Nat.zero_le _) (Nat.zero_le _) h126 (w_11 hT hR (a_Land4 hT hR) (fun r2 h2 => ⟨_, _, rfl, rfl, fun c2 => ⟨by omega, by omega, fun T2 R2 I2 e1 e2 e3 => ?_⟩, fun _ => hk _ N T R I hT hR (Nat.le_refl _) (fun _ _ => rfl) (fun _ _ _ => rfl) (fun _ _ _ _ => rfl)⟩))
  have hT2 : yLT T2 := by rw [e1]; exact yLT_nw h126 hT
  have hR2 : yLR R2 := by rw [e2]; exact yLR_nw h126 hR
  have v1 : T2 N = (1, 8) := by rw [e1, yNT_eq]
  have oT : ∀ k, k < N → T2 k = T k := fun k g => by rw [e1, yNT_ne _ _ _ (by omega)]
  have oR : ∀ k j, k < N → R2 k j = R k j := fun k j g => by rw [e2, yNR_ne _ _ (by omega)]
  have oI : ∀ k j, k < N → I2 k j = I k j := fun k j g => by rw [e3, yNI_ne _ _ (by omega)]
  have fin : ∀ r X, (∀ k j, k < N → ¬ (67 ≤ k ∧ k < 89) → X k j = I2 k j) → K (some (yi r)) (N + 1, T2, R2, X) := fun r X fX => hk r _ T2 R2 X hT2 hR2 (by omega) oT oR (fun k j a b => by rw [fX k j a b]; exact oI k j a)
  have last : ∀ (n : Nat) (x3 x4 : Int) (X : Nat → Nat → Int), 0 ≤ x4 → x4 ≤ 8 → 8 - x4 ≤ (n : Int) → (∀ k j, k < N → ¬ (67 ≤ k ∧ k < 89) → X k j = I2 k j) → yW l zSS D cy zFk z (d + 6) 151 bc bs K (0 + 1) (0 + 8) 117 [(0, yr (some 0)), (1, yi x1), (2, yr (some N)), (3, yi x3), (4, yi x4)] [] (N + 1, T2, R2, X) := by
    intro n
    induction n with
    | zero =>
      intro x3 x4 X h1 h2 h3 fX
      exact Bd_151_117 hT2 hR2 (by omega) (by omega) v1 ⟨fun _ => ⟨fun _ => fin _ X fX, fun _ => fin _ X fX⟩, fun c => by omega⟩
    | succ n ih =>
      intro x3 x4 X h1 h2 h3 fX
      have nx : ∀ x3, x4 < 8 → yW l zSS D cy zFk z (d + 6) 151 bc bs K (0 + 1) (0 + 8) 117 [(0, yr (some 0)), (1, yi x1), (2, yr (some N)), (3, yi x3), (4, yi (yadd x4 1))] [] (N + 1, T2, R2, X) := fun x3 h4 => by
        rw [yadd_eq (by omega) (by omega)]
        exact ih x3 (x4 + 1) X (by omega) (by omega) (by omega) fX
      exact Bd_151_117 hT2 hR2 (by omega) (by omega) v1 ⟨fun _ => ⟨fun _ => fin _ X fX, fun _ => fin _ X fX⟩, fun c => w_126 hT2 hR2 (fun r4 _ => ⟨_, _, rfl, rfl, fun _ => nx _ (by omega), fun _ => ⟨fun _ => nx _ (by omega), fun _ => w_106 hT2 hR2 (fun r8 _ => ⟨_, _, rfl, rfl, by omega, by omega, fun _ => nx _ (by omega), fun _ => nx _ (by omega)⟩)⟩⟩)⟩
  have first : ∀ (n : Nat) (x3 : Int) (X : Nat → Nat → Int), 0 ≤ x3 → x3 ≤ 8 → 8 - x3 ≤ (n : Int) → (∀ k j, k < N → ¬ (67 ≤ k ∧ k < 89) → X k j = I2 k j) → yW l zSS D cy zFk z (d + 6) 151 bc bs K (0 + 1) (0 + 8) 54 [(0, yr (some 0)), (1, yi x1), (2, yr (some N)), (3, yi x3)] [] (N + 1, T2, R2, X) := by
    intro n
    have mid : ∀ X : Nat → Nat → Int, (∀ k j, k < N → ¬ (67 ≤ k ∧ k < 89) → X k j = I2 k j) → yW l zSS D cy zFk z (d + 5) 102 0 0 (fun r h' => ∃ I2, r = none ∧ h' = (N + 1, T2, R2, I2) ∧ (yW l zSS D cy zFk z (d + 5) 68 0 0 (fun r h' => ∃ I3, r = none ∧ h' = (N + 1, T2, R2, I3) ∧ (yW l zSS D cy zFk z (d + 5) 89 0 0 (fun r h' => ∃ I4, r = none ∧ h' = (N + 1, T2, R2, I4) ∧ (yW l zSS D cy zFk z (d + 6) 151 bc bs K (0 + 1) (0 + 8) 117 [(0, yr (some 0)), (1, yi x1), (2, yr (some N)), (3, yi 0), (4, yi 0)] [] (N + 1, T2, R2, I4))) 0 0 0 [(0, yr (some 67)), (1, yi 500)] [] (N + 1, T2, R2, I3))) 0 0 0 [(0, yr (some 68)), (1, yi x1)] [] (N + 1, T2, R2, I2))) 0 0 0 [(0, yr (some 67)), (1, yr (some 16))] [] (N + 1, T2, R2, X) := fun X fX =>
      w_102 hT2 hR2 (fun Y fY _ => ⟨_, rfl, rfl, w_68 hT2 hR2 (a_State68 hT2 hR2) (.inl (by decide)) (fun Z fZ _ => ⟨_, rfl, rfl, w_89 hT2 hR2 (fun V fV _ => ⟨_, rfl, rfl, last 8 0 0 V (by omega) (by omega) (by omega) (fun k j a b => by rw [fV k j b, fZ k j (by omega), fY k j b]; exact fX k j a b)⟩)⟩)⟩)
    induction n with
    | zero =>
      intro x3 X h1 h2 h3 fX
      exact Bd_151_54 hT2 hR2 (by omega) (by omega) v1 ⟨fun _ => mid X fX, fun c => by omega⟩
    | succ n ih =>
      intro x3 X h1 h2 h3 fX
      refine Bd_151_54 hT2 hR2 (by omega) (by omega) v1 ⟨fun _ => mid X fX, fun c => w_106 hT2 hR2 (fun r6 _ => ⟨_, _, rfl, rfl, h1, by omega, fun Y hY => ?_⟩)⟩
      rw [yadd_eq (by omega) (by omega)]
      exact ih (x3 + 1) Y (by omega) (by omega) (by omega) (fun k j a b => by rw [hY, yU_ne _ _ (by omega)]; exact fX k j a b)
  refine Bd_151_21 hT2 hR2 (by omega) (by omega) v1 (w_102 hT2 hR2 (fun X fX _ => ⟨_, rfl, rfl, w_96 hT2 hR2 (fun Y fY _ => ⟨_, rfl, rfl, w_89 hT2 hR2 (fun Z fZ _ => ⟨_, rfl, rfl, ?_⟩)⟩)⟩))
  exact first 8 0 Z (by omega) (by omega) (by omega) (fun k j a b => by rw [fZ k j b, fY k j b, fX k j b])
/-- sentence -/
theorem w_146 (hT : yLT T) (hR : yLR R) (h0 : 0 ≤ I 1 1 ∧ I 1 1 ≤ 940) (hk : ∀ r (I' : Nat → Nat → Int), (∀ k j, ¬ (k = 1 ∨ (31 ≤ k ∧ k < 35) ∨ (63 ≤ k ∧ k < 67)) → I' k j = I k j) → I' 1 1 = 0 → K (some (yi r)) (N, T, R, I')) :
    yW l zSS D cy zFk z (d + 39) 146 bc bs K 0 0 0 [(0, yr (some 0))] [] (N, T, R, I) := by
  refine B_146_0 hT hR (w_40 (d := d + 32) hT hR h0 (fun X fX q => ⟨_, rfl, rfl, w_50 (d := d) hT hR (a_Sentence63 hT hR) (.inl (by decide)) q (fun r3 Y fY q2 => ⟨_, _, rfl, rfl, fun Z hZ => ⟨fun c => w_47 (d := d + 37) hT hR (a_Sentence31 hT hR) (.inl (by decide)) (a_Sentence63 hT hR) (.inl (by decide)) (fun V fV _ => ⟨_, rfl, rfl, hk _ V (fun k j g => ?_) ?_⟩), fun c => hk _ Z (fun k j g => ?_) ?_⟩⟩)⟩))
  · rw [fV k j (by omega), hZ, yU_ne _ _ (by omega), fY k j (by omega), fX k j (by omega)]
  · rw [fV 1 1 (by omega), hZ, yU_eq]
  · rw [hZ, yU_ne _ _ (by omega), fY k j (by omega), fX k j (by omega)]
  · rw [hZ, yU_eq]
end Ch
