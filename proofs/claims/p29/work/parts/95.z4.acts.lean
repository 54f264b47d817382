/-! CONTRACTS of the class: who keeps; worlds copied and made; torches, voted (template z4.tpl, tpl.py). -/
/-- places that an act may change -/
def cFk (k j : Nat) : Prop := ¬ (k = 89 ∧ j = 1) ∧ ¬ (16 ≤ k ∧ k < 29) ∧ ¬ (67 ≤ k ∧ k < 89) ∧ k ≠ 0
/-- what is so behind an act that is kept -/
def cKp (N : Nat) (T : Nat → Nat × Nat) (R : Nat → Nat → Option Nat) (I : Nat → Nat → Int) (N' : Nat) (T' : Nat → Nat × Nat) (R' : Nat → Nat → Option Nat) (I' : Nat → Nat → Int) : Prop :=
  yLT T' ∧ yLR R' ∧ cGr cHo N T R N' T' R' ∧ cHs N' T' R' ∧ cHk R' I' ∧ ∀ k j, k < N → cFk k j → cNs T k → I' k j = I k j
theorem cHk_cg {R : Nat → Nat → Option Nat} {I J : Nat → Nat → Int} (h : cHk R I) (e : J 89 1 = I 89 1) : cHk R J := fun i hi hl => h i hi (by rw [← e]; exact hl)
section Cg
variable {l : Launch} {D : va_G} {cy : Nat → ClassId} {z d bc bs nc nl N : Nat} {T : Nat → Nat × Nat} {R : Nat → Nat → Option Nat} {I : Nat → Nat → Int} {K : yKo}
theorem cKp_I {J : Nat → Nat → Int} (hT : yLT T) (hR : yLR R) (hs : cHs N T R) (hh : cHk R I) (e : J 89 1 = I 89 1) (f : ∀ k j, cFk k j → J k j = I k j) : cKp N T R I N T R J :=
  ⟨hT, hR, cGr_rfl, hs, cHk_cg hh e, fun k j _ g _ => f k j g⟩
theorem cKp_pre {J : Nat → Nat → Int} {N' : Nat} {T' : Nat → Nat × Nat} {R' : Nat → Nat → Option Nat} {I' : Nat → Nat → Int} (f : ∀ k j, cFk k j → J k j = I k j) (h : cKp N T R J N' T' R' I') : cKp N T R I N' T' R' I' :=
  ⟨h.1, h.2.1, h.2.2.1, h.2.2.2.1, h.2.2.2.2.1, fun k j a b c => (h.2.2.2.2.2 k j a b c).trans (f k j b)⟩
theorem cKp_post {J : Nat → Nat → Int} {N' : Nat} {T' : Nat → Nat × Nat} {R' : Nat → Nat → Option Nat} {I' : Nat → Nat → Int} (h : cKp N T R I N' T' R' I') (e : J 89 1 = I' 89 1) (f : ∀ k j, cFk k j → J k j = I' k j) : cKp N T R I N' T' R' J :=
  ⟨h.1, h.2.1, h.2.2.1, h.2.2.2.1, cHk_cg h.2.2.2.2.1 e, fun k j a b c => (f k j b).trans (h.2.2.2.2.2 k j a b c)⟩
theorem w_2k (hT : yLT T) (hR : yLR R) (h126 : 126 ≤ N) (hs : cHs N T R) (hh : cHk R I) (hb1 : 13 ≤ bc) (hb2 : 494 ≤ bs) (hk : ∀ N' T' R' I', cKp N T R I N' T' R' I' → K none (N', T', R', I')) :
    yW l zSS D cy zFk z (d + 2) 2 bc bs K 0 0 0 [(0, yr (some 89)), (1, yr (some 16))] [] (N, T, R, I) :=
  w_2 hT hR h126 hs hh hb1 hb2 (fun N' T' R' I' a b c e f g => hk N' T' R' I' ⟨a, b, c, e, f, fun k j h1 h2 h3 => g k j h1 h2.1 h3⟩)
theorem w_134 (hT : yLT T) (hR : yLR R) (h126 : 126 ≤ N) (hs : cHs N T R) (hh : cHk R I) (hb1 : 13 ≤ bc) (hb2 : 494 ≤ bs) (hk : ∀ N' T' R' I', cKp N T R I N' T' R' I' → K none (N', T', R', I')) :
    yW l zSS D cy zFk z (d + 3) 134 bc bs K 0 0 0 [(0, yr (some 0))] [] (N, T, R, I) := by
  refine Bd_134_0 hT hR (Nat.zero_le _) (Nat.zero_le _) (by omega) (by omega) (w_2k hT hR h126 hs hh (Nat.le_refl _) (Nat.le_refl _) (fun N' T' R' I' h => ⟨N', T', R', I', rfl, rfl, h.1, h.2.1, ?_⟩))
  exact w_62 h.1 h.2.1 (a_State16 h.1 h.2.1) (.inl (by decide)) (a_State68 h.1 h.2.1) (.inl (by decide)) (fun X fX _ => ⟨_, rfl, rfl, hk _ _ _ _ (cKp_post h (fX _ _ (by omega)) (fun k j g => fX k j g.2.1))⟩)
theorem w_119 (hT : yLT T) (hR : yLR R) (h126 : 126 ≤ N) (hs : cHs N T R) (hh : cHk R I) (hb1 : 13 ≤ bc) (hb2 : 494 ≤ bs) {x1 : Int} (hk : ∀ r N' T' R' I', cKp N T R I N' T' R' I' → K (some (yi r)) (N', T', R', I')) :
    yW l zSS D cy zFk z (d + 3) 119 bc bs K 0 0 0 [(0, yr (some 0)), (1, yi x1)] [] (N, T, R, I) := by
  refine Bd_119_0 hT hR (Nat.zero_le _) (Nat.zero_le _) (by omega) (by omega) ⟨fun _ => w_2k hT hR h126 hs hh (Nat.le_refl _) (Nat.le_refl _) (fun N' T' R' I' h => ⟨N', T', R', I', rfl, rfl, h.1, h.2.1, ?_⟩), fun _ => hk _ _ _ _ _ (cKp_I hT hR hs hh rfl (fun _ _ _ => rfl))⟩
  exact w_63 h.1 h.2.1 (a_State16 h.1 h.2.1) (.inl (by decide)) (fun X fX _ => ⟨_, rfl, rfl, w_58 h.1 h.2.1 (a_State16 h.1 h.2.1) (.inl (by decide)) (fun Y fY _ => ⟨_, rfl, rfl, hk _ _ _ _ _ (cKp_post h (by rw [fY _ _ (by omega), fX _ _ (by omega)]) (fun k j g => by rw [fY k j g.2.1, fX k j g.2.1]))⟩)⟩)
theorem w_130 (hT : yLT T) (hR : yLR R) (h126 : 126 ≤ N) (hs : cHs N T R) (hh : cHk R I) (hb1 : 13 ≤ bc) (hb2 : 494 ≤ bs) {x1 x2 : Int} (hk : ∀ r N' T' R' I', cKp N T R I N' T' R' I' → K (some (yi r)) (N', T', R', I')) :
    yW l zSS D cy zFk z (d + 3) 130 bc bs K 0 0 0 [(0, yr (some 0)), (1, yi x1), (2, yi x2)] [] (N, T, R, I) := by
  have no : ∀ r, K (some (yi r)) (N, T, R, I) := fun r => hk r _ _ _ _ (cKp_I hT hR hs hh rfl (fun _ _ _ => rfl))
  refine Bd_130_0 hT hR (Nat.zero_le _) (Nat.zero_le _) (by omega) (by omega) (w_10 hT hR (a_Land4 hT hR) (fun r2 h2 => ⟨_, _, rfl, rfl, fun _ => no _, fun c2 => w_12 hT hR (a_Land4 hT hR) (fun r5 _ => ⟨_, _, rfl, rfl, fun _ => ⟨fun _ => no _, fun _ => ⟨fun _ => no _, fun _ => ⟨by omega, by omega, fun _ => w_2k hT hR h126 hs hh (Nat.le_refl _) (Nat.le_refl _) (fun N' T' R' I' h => ⟨N', T', R', I', rfl, rfl, h.1, h.2.1, by omega, by omega, fun X hX => hk _ _ _ _ _ (cKp_post h ?_ (fun k j g => ?_))⟩), fun _ => no _⟩⟩⟩, fun _ => no _⟩)⟩))
  · rw [hX, yU_ne _ _ (by omega)]
  · rw [hX, yU_ne _ _ (fun q => by have := g.2.1; omega)]
theorem w_140 (hT : yLT T) (hR : yLR R) (h126 : 126 ≤ N) (hs : cHs N T R) (hh : cHk R I) (hb1 : 13 ≤ bc) (hb2 : 494 ≤ bs) {x1 : Int} (hk : ∀ r N' T' R' I', cKp N T R I N' T' R' I' → K (some (yi r)) (N', T', R', I')) :
    yW l zSS D cy zFk z (d + 5) 140 bc bs K 0 0 0 [(0, yr (some 0)), (1, yi x1)] [] (N, T, R, I) := by
  have no : ∀ r (X : Nat → Nat → Int), (∀ k j, ¬ (67 ≤ k ∧ k < 89) → X k j = I k j) → K (some (yi r)) (N, T, R, X) := fun r X fX => hk r _ _ _ _ (cKp_I hT hR hs hh (fX _ _ (by omega)) (fun k j g => fX k j g.2.2.1))
  have fin : ∀ (X : Nat → Nat → Int), (∀ k j, ¬ (67 ≤ k ∧ k < 89) → X k j = I k j) → ∀ (KK : yKo), (∀ N' T' R' I', cKp N T R I N' T' R' I' → KK none (N', T', R', I')) → yW l zSS D cy zFk z (d + 4) 134 13 494 KK 0 0 0 [(0, yr (some 0))] [] (N, T, R, X) := fun X fX KK hKK =>
    w_134 hT hR h126 hs (cHk_cg hh (fX _ _ (by omega))) (Nat.le_refl _) (Nat.le_refl _) (fun N' T' R' I' h => hKK _ _ _ _ (cKp_pre (fun k j g => fX k j g.2.2.1) h))
  have loop : ∀ (n : Nat) (x2 : Int) (X : Nat → Nat → Int), x1 ≤ 100 → 0 ≤ x2 → x2 ≤ 101 → x1 - x2 ≤ (n : Int) → (∀ k j, ¬ (67 ≤ k ∧ k < 89) → X k j = I k j) → yW l zSS D cy zFk z (d + 5) 140 bc bs K 0 0 36 [(0, yr (some 0)), (1, yi x1), (2, yi x2)] [] (N, T, R, X) := by
    intro n
    induction n with
    | zero =>
      intro x2 X h1 h2 h2' h3 fX
      exact Bd_140_36 hT hR (Nat.zero_le _) (Nat.zero_le _) (by omega) (by omega) ⟨fun _ => ⟨fun _ => no _ X fX, fun _ => fin X fX _ (fun N' T' R' I' h => ⟨_, _, _, _, rfl, rfl, h.1, h.2.1, hk _ _ _ _ _ h⟩)⟩, fun c => by omega⟩
    | succ n ih =>
      intro x2 X h1 h2 h2' h3 fX
      refine Bd_140_36 hT hR (Nat.zero_le _) (Nat.zero_le _) (by omega) (by omega) ⟨fun _ => ⟨fun _ => no _ X fX, fun _ => fin X fX _ (fun N' T' R' I' h => ⟨_, _, _, _, rfl, rfl, h.1, h.2.1, hk _ _ _ _ _ h⟩)⟩, fun c => ⟨fun _ => ⟨fun _ => no _ X fX, fun _ => fin X fX _ (fun N' T' R' I' h => ⟨_, _, _, _, rfl, rfl, h.1, h.2.1, hk _ _ _ _ _ h⟩)⟩, fun _ => w_88 hT hR (fun Y fY _ => ⟨_, rfl, rfl, ?_⟩)⟩⟩
      rw [yadd_eq (by omega) (by omega)]
      exact ih (x2 + 1) Y h1 (by omega) (by omega) (by omega) (fun k j g => (fY k j g).trans (fX k j g))
  refine Bd_140_0 hT hR (Nat.zero_le _) (Nat.zero_le _) (by omega) (by omega) ⟨fun _ => no _ I (fun _ _ _ => rfl), fun _ => ⟨fun c => w_102 hT hR (fun X fX _ => ⟨_, rfl, rfl, w_96 hT hR (fun Y fY _ => ⟨_, rfl, rfl, ?_⟩)⟩), fun _ => no _ I (fun _ _ _ => rfl)⟩⟩
  exact loop 100 0 Y c (by omega) (by omega) (by omega) (fun k j g => (fY k j g).trans (fX k j g))
theorem w_128 (hT : yLT T) (hR : yLR R) (h126 : 126 ≤ N) (hs : cHs N T R) (hh : cHk R I) (hb1 : 13 ≤ bc) (hb2 : 494 ≤ bs) {x1 : Int} (hk : ∀ r N' T' R' I', cKp N T R I N' T' R' I' → K (some (yi r)) (N', T', R', I')) :
    yW l zSS D cy zFk z (d + 4) 128 bc bs K 0 0 0 [(0, yr (some 0)), (1, yi x1)] [] (N, T, R, I) := by
  have no : ∀ r (X : Nat → Nat → Int), (∀ k j, ¬ (67 ≤ k ∧ k < 89) → k ≠ 0 → X k j = I k j) → K (some (yi r)) (N, T, R, X) := fun r X fX => hk r _ _ _ _ (cKp_I hT hR hs hh (fX _ _ (by omega) (by omega)) (fun k j g => fX k j g.2.2.1 g.2.2.2))
  have fin : ∀ (x2 x3 : Int) (X : Nat → Nat → Int), (∀ k j, ¬ (67 ≤ k ∧ k < 89) → X k j = I k j) → ∀ I2, I2 = yU X 0 7 x2 → (∀ I3, I3 = yU I2 0 8 x3 → (yW l zSS D cy zFk z (d + 3) 61 0 0 (fun r h' => ∃ r5 I4, r = some (yi r5) ∧ h' = (N, T, R, I4) ∧ (∀ I6, I6 = yU I4 0 9 r5 → ((x1 ≠ 1 → (x2 ≠ 0 → K (some (yi x3)) (N, T, R, I6)) ∧ (¬ (x2 ≠ 0) → K (some (yi (-1))) (N, T, R, I6))) ∧ (¬ (x1 ≠ 1) → (x3 ≤ 0 → (x2 ≠ 0 → K (some (yi x3)) (N, T, R, I6)) ∧ (¬ (x2 ≠ 0) → K (some (yi (-1))) (N, T, R, I6))) ∧ (¬ (x3 ≤ 0) → yW l zSS D cy zFk z (d + 3) 134 13 494 (fun r h' => ∃ N12 T13 R14 I11, r = none ∧ h' = (N12, T13, R14, I11) ∧ yLT T13 ∧ yLR R14 ∧ ((x2 ≠ 0 → K (some (yi x3)) (N12, T13, R14, I11)) ∧ (¬ (x2 ≠ 0) → K (some (yi (-1))) (N12, T13, R14, I11)))) 0 0 0 [(0, yr (some 0))] [] (N, T, R, I6)))))) 0 0 0 [(0, yr (some 68)), (1, yi (I3 4 5))] [] (N, T, R, I3))) := by
    intro x2 x3 X fX I2 h2 I3 h3
    refine w_61 hT hR (a_State68 hT hR) (fun r5 _ => ⟨_, _, rfl, rfl, fun I6 h6 => ?_⟩)
    have f6 : ∀ k j, ¬ (67 ≤ k ∧ k < 89) → k ≠ 0 → I6 k j = I k j := fun k j g g0 => by
      rw [h6, yU_ne _ _ (by omega), h3, yU_ne _ _ (by omega), h2, yU_ne _ _ (by omega)]; exact fX k j g
    refine ⟨fun _ => ⟨fun _ => no _ I6 f6, fun _ => no _ I6 f6⟩, fun _ => ⟨fun _ => ⟨fun _ => no _ I6 f6, fun _ => no _ I6 f6⟩, fun _ => ?_⟩⟩
    exact w_134 hT hR h126 hs (cHk_cg hh (f6 _ _ (by omega) (by omega))) (Nat.le_refl _) (Nat.le_refl _) (fun N' T' R' I' h => ⟨_, _, _, _, rfl, rfl, h.1, h.2.1, fun _ => hk _ _ _ _ _ (cKp_pre (fun k j g => f6 k j g.2.2.1 g.2.2.2) h), fun _ => hk _ _ _ _ _ (cKp_pre (fun k j g => f6 k j g.2.2.1 g.2.2.2) h)⟩)
  have loop : ∀ (n : Nat) (x2 x3 x4 : Int) (X : Nat → Nat → Int), 0 ≤ x4 → x4 ≤ 40 → 40 - x4 ≤ (n : Int) → (∀ k j, ¬ (67 ≤ k ∧ k < 89) → X k j = I k j) → yW l zSS D cy zFk z (d + 4) 128 bc bs K 0 0 33 [(0, yr (some 0)), (1, yi x1), (2, yi x2), (3, yi x3), (4, yi x4)] [] (N, T, R, X) := by
    intro n
    induction n with
    | zero =>
      intro x2 x3 x4 X h1 h2 h3 fX
      exact Bd_128_33 hT hR (Nat.zero_le _) (Nat.zero_le _) (by omega) (by omega) ⟨fun _ => fin x2 x3 X fX, fun _ => ⟨fun _ => fin x2 x3 X fX, fun c => by omega⟩⟩
    | succ n ih =>
      intro x2 x3 x4 X h1 h2 h3 fX
      have nx : ∀ x2 x3 (Y : Nat → Nat → Int), x4 < 40 → (∀ k j, ¬ (67 ≤ k ∧ k < 89) → Y k j = X k j) → yW l zSS D cy zFk z (d + 4) 128 bc bs K 0 0 33 [(0, yr (some 0)), (1, yi x1), (2, yi x2), (3, yi x3), (4, yi (yadd x4 1))] [] (N, T, R, Y) := fun x2 x3 Y h4 fY => by
        rw [yadd_eq (by omega) (by omega)]
        exact ih x2 x3 (x4 + 1) Y (by omega) (by omega) (by omega) (fun k j g => (fY k j g).trans (fX k j g))
      exact Bd_128_33 hT hR (Nat.zero_le _) (Nat.zero_le _) (by omega) (by omega) ⟨fun _ => fin x2 x3 X fX, fun _ => ⟨fun _ => fin x2 x3 X fX, fun c => ⟨fun _ => fin x2 x3 X fX, fun _ => ⟨h1, by omega, w_87 hT hR (fun r Y fY _ => ⟨_, _, rfl, rfl, fun _ => nx _ _ Y (by omega) fY, fun _ => nx _ _ Y (by omega) fY⟩)⟩⟩⟩⟩
  refine Bd_128_0 hT hR (Nat.zero_le _) (Nat.zero_le _) (by omega) (by omega) ⟨fun _ => w_102 hT hR (fun X fX _ => ⟨_, rfl, rfl, ?_⟩), fun _ => ⟨fun _ => w_102 hT hR (fun X fX _ => ⟨_, rfl, rfl, ?_⟩), fun _ => no _ I (fun _ _ _ _ => rfl)⟩⟩
  · exact loop 40 0 0 0 X (by omega) (by omega) (by omega) fX
  · exact loop 40 0 0 0 X (by omega) (by omega) (by omega) fX
/-! worlds -/
theorem a_Wd3 (hT : yLT T) (hR : yLR R) : cWd T R 3 := ⟨a_World3 hT hR, a_Land4 hT hR, a_State16 hT hR, a_Plan29 hT hR, a_Sentence31 hT hR⟩
theorem w_112 (hT : yLT T) (hR : yLR R) {p q : Nat} (hp : cWd T R p) (hq : cWd T R q) (gp : p = 3 ∨ 126 ≤ p) (gq : q = 3 ∨ 126 ≤ q) (hpq : (p = 3 ∧ 126 ≤ q) ∨ (q = 3 ∧ 126 ≤ p)) (hl : cLd I (q + 1)) (hk : ∀ I' : Nat → Nat → Int, (∀ k j, ¬ (p ≤ k ∧ k < p + 32) → I' k j = I k j) → cLd I' (p + 1) → K none (N, T, R, I')) :
    yW l zSS D cy zFk z (d + 2) 112 bc bs K 0 0 0 [(0, yr (some p)), (1, yr (some q))] [] (N, T, R, I) := by
  refine B_112_0 hT hR hp.1 hq.1 (w_8 hT hR hp.2.1 (by omega) hq.2.1 (by omega) hl (by omega) (fun X fX lX => ⟨_, rfl, rfl, w_62 hT hR hp.2.2.1 (by omega) hq.2.2.1 (by omega) (fun Y fY _ => ⟨_, rfl, rfl, w_27 hT hR hp.2.2.2.1 (by omega) hq.2.2.2.1 (by omega) (fun Z fZ _ => ⟨_, rfl, rfl, w_47 hT hR hp.2.2.2.2 (by omega) hq.2.2.2.2 (by omega) (fun V fV _ => ⟨_, rfl, rfl, hk V (fun k j g => ?_) ?_⟩)⟩)⟩)⟩))
  · rw [fV k j (by omega), fZ k j (by omega), fY k j (by omega), fX k j (by omega)]
  · have e : ∀ j, V (p + 1) j = X (p + 1) j := fun j => by rw [fV _ j (by omega), fZ _ j (by omega), fY _ j (by omega)]
    unfold cLd
    rw [e, e]; exact lX
set_option maxRecDepth 20000 in
/-- World.<init> -/
theorem w_111 (hT : yLT T) (hR : yLR R) {p : Nat} (h126 : 126 ≤ p) (hp : T p = (19, 4)) (hb1 : 31 ≤ bc) (hb2 : 940 ≤ bs) (hk : ∀ T' R' I', cWd T' R' p → (∀ k, k ≤ p → T' k = T k) → (∀ k j, k < p → R' k j = R k j) → (∀ k j, k ≤ p → I' k j = I k j) → cLd I' (p + 1) → K none (p + 32, T', R', I')) :
    yW l zSS D cy zFk z (d + 2) 111 bc bs K 0 0 0 [(0, yr (some p))] [] (p + 1, T, R, I) := by
  refine e_12 (f_111 (pc := 0) (e := (0, 12, 0, 0, 0, 0, 0, 1)) rfl) rfl ?_
  refine e_133 (f_111 (pc := 1) (e := (1, 133, 0, 0, 0, 1, 1044, 4)) rfl) zA rfl (Nat.succ_pos _) (Nat.le_of_ble_eq_true rfl) ?_
  -- land
  refine e_12 (f_111 (pc := 4) (e := (4, 12, 0, 0, 0, 0, 0, 5)) rfl) rfl ?_
  refine e_100 zA (f_111 (pc := 5) (e := (5, 100, 1, 15, 0, 7, 1045, 8)) rfl) (by omega) (by omega) ?_
  refine ck_new (N' := p + 2) rfl (fun T1 R1 I1 e1 e2 e3 => ?_)
  refine e_50 (f_111 (pc := 8) (e := (8, 50, 0, 0, 0, 0, 0, 9)) rfl) rfl ?_
  refine e_131 (f_111 (pc := 9) (e := (9, 131, 4, 1, 1, 9, 99999, 12)) rfl) zA (as := [yr (some (p + 1))]) (rest := [yr (some (p + 1)), yr (some p)]) rfl rfl rfl rfl (Nat.le_of_ble_eq_true rfl) (Nat.le_of_ble_eq_true rfl) ⟨_, _, rfl⟩ (mc := 11) (ms := 264) (by omega) (by omega) ?_
  refine w_4 (p := p + 1) (by rw [e1]; exact yNT_eq _ _ _ _) (by decide) (by decide) (fun T2 R2 I2 atL m2 => ?_)
  have eT2 : ∀ k, k ≤ p → T2 k = T k := fun k g => by rw [m2.1 k (by omega), e1, yNT_ne _ _ _ (by omega)]
  have eR2 : ∀ k j, k ≤ p → R2 k j = R k j := fun k j g => by rw [m2.2.1 k j (by omega), e2, yNR_ne _ _ (by omega)]
  have eI2 : ∀ k j, k ≤ p → I2 k j = I k j := fun k j g => by rw [m2.2.2 k j (by omega), e3, yNI_ne _ _ (by omega)]
  refine e_91 zA (f_111 (pc := 12) (e := (12, 91, 9, 0, 3, 10, 1046, 15)) rfl) rfl (show T2 p = (19, 4) by rw [eT2 p (Nat.le_refl _)]; exact hp) rfl rfl trivial ?_
  refine ck_ref (fun R3 h3 => ?_)
  -- state
  refine e_12 (f_111 (pc := 15) (e := (15, 12, 0, 0, 0, 0, 0, 16)) rfl) rfl ?_
  refine e_100 zA (f_111 (pc := 16) (e := (16, 100, 5, 14, 0, 16, 1047, 19)) rfl) (by omega) (by omega) ?_
  refine ck_new (N' := p + 14) rfl (fun T4 R4 I4 e1 e2 e3 => ?_)
  refine e_50 (f_111 (pc := 19) (e := (19, 50, 0, 0, 0, 0, 0, 20)) rfl) rfl ?_
  refine e_131 (f_111 (pc := 20) (e := (20, 131, 55, 1, 2, 18, 99999, 23)) rfl) zA (as := [yr (some (p + 13))]) (rest := [yr (some (p + 13)), yr (some p)]) rfl rfl rfl rfl (Nat.le_of_ble_eq_true rfl) (Nat.le_of_ble_eq_true rfl) ⟨_, _, rfl⟩ (mc := 12) (ms := 480) (by omega) (by omega) ?_
  refine w_55 (p := p + 13) (by rw [e1]; exact yNT_eq _ _ _ _) (by decide) (by decide) (fun T5 R5 I5 atS m5 => ?_)
  have eT5 : ∀ k, k < p + 13 → T5 k = T2 k := fun k g => by rw [m5.1 k (by omega), e1, yNT_ne _ _ _ (by omega)]
  have eR5 : ∀ k j, k < p + 13 → R5 k j = R3 k j := fun k j g => by rw [m5.2.1 k j (by omega), e2, yNR_ne _ _ (by omega)]
  have eI5 : ∀ k j, k < p + 13 → I5 k j = I2 k j := fun k j g => by rw [m5.2.2 k j (by omega), e3, yNI_ne _ _ (by omega)]
  refine e_91 zA (f_111 (pc := 23) (e := (23, 91, 9, 1, 3, 19, 1048, 26)) rfl) rfl (show T5 p = (19, 4) by rw [eT5 p (by omega), eT2 p (Nat.le_refl _)]; exact hp) rfl rfl trivial ?_
  refine ck_ref (fun R6 h6 => ?_)
  -- plan
  refine e_12 (f_111 (pc := 26) (e := (26, 12, 0, 0, 0, 0, 0, 27)) rfl) rfl ?_
  refine e_100 zA (f_111 (pc := 27) (e := (27, 100, 2, 2, 0, 23, 1049, 30)) rfl) (by omega) (by omega) ?_
  refine ck_new (N' := p + 27) rfl (fun T7 R7 I7 e1 e2 e3 => ?_)
  refine e_50 (f_111 (pc := 30) (e := (30, 50, 0, 0, 0, 0, 0, 31)) rfl) rfl ?_
  refine e_131 (f_111 (pc := 31) (e := (31, 131, 26, 1, 3, 25, 99999, 34)) rfl) zA (as := [yr (some (p + 26))]) (rest := [yr (some (p + 26)), yr (some p)]) rfl rfl rfl rfl (Nat.le_of_ble_eq_true rfl) (Nat.le_of_ble_eq_true rfl) ⟨_, _, rfl⟩ (mc := 1) (ms := 40) (by omega) (by omega) ?_
  refine w_26 (p := p + 26) (by rw [e1]; exact yNT_eq _ _ _ _) (by decide) (by decide) (fun T8 R8 I8 atP m8 => ?_)
  have eT8 : ∀ k, k < p + 26 → T8 k = T5 k := fun k g => by rw [m8.1 k (by omega), e1, yNT_ne _ _ _ (by omega)]
  have eR8 : ∀ k j, k < p + 26 → R8 k j = R6 k j := fun k j g => by rw [m8.2.1 k j (by omega), e2, yNR_ne _ _ (by omega)]
  have eI8 : ∀ k j, k < p + 26 → I8 k j = I5 k j := fun k j g => by rw [m8.2.2 k j (by omega), e3, yNI_ne _ _ (by omega)]
  refine e_91 zA (f_111 (pc := 34) (e := (34, 91, 9, 2, 3, 26, 1050, 37)) rfl) rfl (show T8 p = (19, 4) by rw [eT8 p (by omega), eT5 p (by omega), eT2 p (Nat.le_refl _)]; exact hp) rfl rfl trivial ?_
  refine ck_ref (fun R9 h9 => ?_)
  -- sentence
  refine e_12 (f_111 (pc := 37) (e := (37, 12, 0, 0, 0, 0, 0, 38)) rfl) rfl ?_
  refine e_100 zA (f_111 (pc := 38) (e := (38, 100, 4, 5, 0, 30, 1051, 41)) rfl) (by omega) (by omega) ?_
  refine ck_new (N' := p + 29) rfl (fun T10 R10 I10 e1 e2 e3 => ?_)
  refine e_50 (f_111 (pc := 41) (e := (41, 50, 0, 0, 0, 0, 0, 42)) rfl) rfl ?_
  refine e_131 (f_111 (pc := 42) (e := (42, 131, 45, 1, 4, 32, 99999, 45)) rfl) zA (as := [yr (some (p + 28))]) (rest := [yr (some (p + 28)), yr (some p)]) rfl rfl rfl rfl (Nat.le_of_ble_eq_true rfl) (Nat.le_of_ble_eq_true rfl) ⟨_, _, rfl⟩ (mc := 3) (ms := 120) (by omega) (by omega) ?_
  refine w_45 (p := p + 28) (by rw [e1]; exact yNT_eq _ _ _ _) (by decide) (by decide) (fun T11 R11 I11 atN m11 => ?_)
  have eT11 : ∀ k, k < p + 28 → T11 k = T8 k := fun k g => by rw [m11.1 k (by omega), e1, yNT_ne _ _ _ (by omega)]
  have eR11 : ∀ k j, k < p + 28 → R11 k j = R9 k j := fun k j g => by rw [m11.2.1 k j (by omega), e2, yNR_ne _ _ (by omega)]
  have eI11 : ∀ k j, k < p + 28 → I11 k j = I8 k j := fun k j g => by rw [m11.2.2 k j (by omega), e3, yNI_ne _ _ (by omega)]
  have tp : T11 p = (19, 4) := by rw [eT11 p (by omega), eT8 p (by omega), eT5 p (by omega), eT2 p (Nat.le_refl _)]; exact hp
  refine e_91 zA (f_111 (pc := 45) (e := (45, 91, 9, 3, 3, 33, 1052, 48)) rfl) rfl tp rfl rfl trivial ?_
  refine ck_ref (fun R12 h12 => ?_)
  -- what lies where
  have f12 : ∀ k j, k ≠ p → R12 k j = R11 k j := fun k j g => by rw [h12, yUR_ne _ _ (fun q => g q.1)]
  have f9 : ∀ k j, k ≠ p → R9 k j = R8 k j := fun k j g => by rw [h9, yUR_ne _ _ (fun q => g q.1)]
  have f6 : ∀ k j, k ≠ p → R6 k j = R5 k j := fun k j g => by rw [h6, yUR_ne _ _ (fun q => g q.1)]
  have f3 : ∀ k j, k ≠ p → R3 k j = R2 k j := fun k j g => by rw [h3, yUR_ne _ _ (fun q => g q.1)]
  have r0 : R12 p 0 = some (p + 1) := by rw [h12, yUR_ne _ _ (by omega), eR11 p 0 (by omega), h9, yUR_ne _ _ (by omega), eR8 p 0 (by omega), h6, yUR_ne _ _ (by omega), eR5 p 0 (by omega), h3, yUR_eq]
  have r1 : R12 p 1 = some (p + 13) := by rw [h12, yUR_ne _ _ (by omega), eR11 p 1 (by omega), h9, yUR_ne _ _ (by omega), eR8 p 1 (by omega), h6, yUR_eq]
  have r2 : R12 p 2 = some (p + 26) := by rw [h12, yUR_ne _ _ (by omega), eR11 p 2 (by omega), h9, yUR_eq]
  have r3 : R12 p 3 = some (p + 28) := by rw [h12, yUR_eq]
  have oR : ∀ k j, k < p → R12 k j = R k j := fun k j g => by
    rw [f12 k j (by omega), eR11 k j (by omega), f9 k j (by omega), eR8 k j (by omega), f6 k j (by omega), eR5 k j (by omega), f3 k j (by omega), eR2 k j (by omega)]
  have oT : ∀ k, k ≤ p → T11 k = T k := fun k g => by rw [eT11 k (by omega), eT8 k (by omega), eT5 k (by omega), eT2 k g]
  have oI : ∀ k j, k ≤ p → I11 k j = I k j := fun k j g => by rw [eI11 k j (by omega), eI8 k j (by omega), eI5 k j (by omega), eI2 k j g]
  have aL : yAtLand T11 R12 (p + 1) := yAtLand_cg atL (fun k _ _ => by rw [eT11 k (by omega), eT8 k (by omega), eT5 k (by omega)]) (fun j => by rw [f12 _ j (by omega), eR11 _ j (by omega), f9 _ j (by omega), eR8 _ j (by omega), f6 _ j (by omega), eR5 _ j (by omega), f3 _ j (by omega)])
  have aS : yAtState T11 R12 (p + 13) := yAtState_cg atS (fun k _ _ => by rw [eT11 k (by omega), eT8 k (by omega)]) (fun j => by rw [f12 _ j (by omega), eR11 _ j (by omega), f9 _ j (by omega), eR8 _ j (by omega), f6 _ j (by omega)])
  have aP : yAtPlan T11 R12 (p + 26) := yAtPlan_cg atP (fun k _ _ => by rw [eT11 k (by omega)]) (fun j => by rw [f12 _ j (by omega), eR11 _ j (by omega), f9 _ j (by omega)])
  have aN : yAtSentence T11 R12 (p + 28) := yAtSentence_cg atN (fun k _ _ => rfl) (fun j => by rw [f12 _ j (by omega)])
  have aW : yAtWorld T11 R12 p := by
    refine ⟨fun j hj => ?_, fun j hj => ?_⟩
    · have hj : j < 32 := Nat.le_of_ble_eq_true hj
      by_cases c0 : j < 1
      · rw [show j = 0 by omega]; exact tp
      · by_cases c1 : j < 13
        · have := aL.1 (j - 1) (Nat.ble_eq.mpr (by omega))
          rw [show p + 1 + (j - 1) = p + j by omega] at this
          rw [this]
          exact (by decide : ∀ i : Fin 12, yTLand i.1 = yTWorld (i.1 + 1)) ⟨j - 1, by omega⟩ |>.trans (by rw [show j - 1 + 1 = j by omega])
        · by_cases c2 : j < 26
          · have := aS.1 (j - 13) (Nat.ble_eq.mpr (by omega))
            rw [show p + 13 + (j - 13) = p + j by omega] at this
            rw [this]
            exact (by decide : ∀ i : Fin 13, yTState i.1 = yTWorld (i.1 + 13)) ⟨j - 13, by omega⟩ |>.trans (by rw [show j - 13 + 13 = j by omega])
          · by_cases c3 : j < 28
            · have := aP.1 (j - 26) (Nat.ble_eq.mpr (by omega))
              rw [show p + 26 + (j - 26) = p + j by omega] at this
              rw [this]
              exact (by decide : ∀ i : Fin 2, yTPlan i.1 = yTWorld (i.1 + 26)) ⟨j - 26, by omega⟩ |>.trans (by rw [show j - 26 + 26 = j by omega])
            · have := aN.1 (j - 28) (Nat.ble_eq.mpr (by omega))
              rw [show p + 28 + (j - 28) = p + j by omega] at this
              rw [this]
              exact (by decide : ∀ i : Fin 4, yTSentence i.1 = yTWorld (i.1 + 28)) ⟨j - 28, by omega⟩ |>.trans (by rw [show j - 28 + 28 = j by omega])
    · by_cases g : j < 4
      · rcases (show j = 0 ∨ j = 1 ∨ j = 2 ∨ j = 3 by omega) with rfl | rfl | rfl | rfl
        · exact r0
        · exact r1
        · exact r2
        · exact r3
      · exfalso
        unfold ySWorld at hj
        rw [List.getD, List.getElem?_eq_none (by simp; omega)] at hj
        exact absurd hj (by decide)
  have hT' : yLT T11 := fun k g => by have := Nat.le_of_ble_eq_true g; rw [oT k (by omega)]; exact hT k g
  have hR' : yLR R12 := fun k j g => by have := yS0_lt g; rw [oR k j (by omega)]; exact hR k j g
  -- clear, begin
  refine e_12 (f_111 (pc := 48) (e := (48, 12, 0, 0, 0, 0, 0, 49)) rfl) rfl ?_
  refine e_90r zA (f_111 (pc := 49) (e := (49, 90, 9, 0, 3, 10, 1046, 52)) rfl) rfl tp rfl rfl r0 ?_
  refine e_130 (f_111 (pc := 52) (e := (52, 130, 7, 0, 1, 37, 1053, 55)) rfl) zA (as := [yr (some (p + 1))]) (rest := []) rfl rfl rfl rfl (Nat.le_of_ble_eq_true rfl) (Nat.le_of_ble_eq_true rfl) ⟨_, _, _, rfl, show T11 (p + 1) = (10 + 1, 15) from aL.1 0 rfl⟩ (mc := 0) (ms := 0) (by omega) (by omega) ?_
  refine w_7 hT' hR' aL (.inr (by omega)) (fun X fX lX => ?_)
  refine e_12 (f_111 (pc := 55) (e := (55, 12, 0, 0, 0, 0, 0, 56)) rfl) rfl ?_
  refine e_90r zA (f_111 (pc := 56) (e := (56, 90, 9, 1, 3, 19, 1048, 59)) rfl) rfl tp rfl rfl r1 ?_
  refine e_12 (f_111 (pc := 59) (e := (59, 12, 0, 0, 0, 0, 0, 60)) rfl) rfl ?_
  refine e_90r zA (f_111 (pc := 60) (e := (60, 90, 9, 0, 3, 10, 1046, 63)) rfl) rfl tp rfl rfl r0 ?_
  refine e_130 (f_111 (pc := 63) (e := (63, 130, 57, 0, 5, 40, 1054, 66)) rfl) zA (as := [yr (some (p + 13)), yr (some (p + 1))]) (rest := []) rfl rfl rfl rfl (Nat.le_of_ble_eq_true rfl) (Nat.le_of_ble_eq_true rfl) ⟨_, _, _, rfl, show T11 (p + 13) = (10 + 5, 14) from aS.1 0 rfl⟩ (mc := 0) (ms := 0) (by omega) (by omega) ?_
  refine w_57 hT' hR' aS (.inr (by omega)) aL (.inr (by omega)) (fun Y fY _ => ?_)
  refine e_122 (f_111 (pc := 66) (e := (66, 122, 0, 0, 0, 0, 0, 0)) rfl) (hk T11 R12 Y ⟨aW, aL, aS, aP, aN⟩ oT oR (fun k j g => by rw [fY k j (by omega), fX k j (by omega)]; exact oI k j g) ?_)
  unfold cLd
  rw [fY (p + 1) 0 (by omega), fY (p + 1) 1 (by omega)]
  exact lX
end Cg
