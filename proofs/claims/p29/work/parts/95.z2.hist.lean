/-! CONTRACTS of the class: World.<init>; copies of worlds; what is kept (template z2.tpl, tpl.py). -/
/-- a world lies from p on, with all its parts -/
def cWd (T : Nat → Nat × Nat) (R : Nat → Nat → Option Nat) (p : Nat) : Prop := yAtWorld T R p ∧ yAtLand T R (p + 1) ∧ yAtState T R (p + 13) ∧ yAtPlan T R (p + 26) ∧ yAtSentence T R (p + 28)
/-- the width and height of the land at p -/
def cLd (I : Nat → Nat → Int) (p : Nat) : Prop := 0 ≤ I p 0 ∧ I p 0 ≤ 10 ∧ 0 ≤ I p 1 ∧ I p 1 ≤ 10
def cHp (N : Nat) (T : Nat → Nat × Nat) (R : Nat → Nat → Option Nat) (p : Nat) : Prop := 126 ≤ p ∧ p + 13 ≤ N ∧ yAtState T R p
/-- the rows of what is kept -/
def cHs (N : Nat) (T : Nat → Nat × Nat) (R : Nat → Nat → Option Nat) : Prop := ∀ i, i < 8 → R 90 i = none ∨ ∃ p, R 90 i = some p ∧ cHp N T R p
def cHk (R : Nat → Nat → Option Nat) (I : Nat → Nat → Int) : Prop := ∀ i : Nat, i < 8 → (i : Int) < I 89 1 → R 90 i ≠ none
/-- images -/
def cIm (N : Nat) (T : Nat → Nat × Nat) (R : Nat → Nat → Option Nat) : Prop := ∀ i, i < 2 → R 101 i = none ∨ ∃ p, R 101 i = some p ∧ 126 ≤ p ∧ p + 32 ≤ N ∧ cWd T R p
theorem yAtState_cg {T T' : Nat → Nat × Nat} {R R' : Nat → Nat → Option Nat} {p : Nat} (h : yAtState T R p) (eT : ∀ k, p ≤ k → k < p + 13 → T' k = T k) (eR : ∀ j, R' p j = R p j) : yAtState T' R' p :=
  ⟨fun j hj => by have := Nat.le_of_ble_eq_true hj; rw [eT _ (by omega) (by omega)]; exact h.1 j hj, fun j hj => by rw [eR]; exact h.2 j hj⟩
theorem yAtLand_cg {T T' : Nat → Nat × Nat} {R R' : Nat → Nat → Option Nat} {p : Nat} (h : yAtLand T R p) (eT : ∀ k, p ≤ k → k < p + 12 → T' k = T k) (eR : ∀ j, R' p j = R p j) : yAtLand T' R' p :=
  ⟨fun j hj => by have := Nat.le_of_ble_eq_true hj; rw [eT _ (by omega) (by omega)]; exact h.1 j hj, fun j hj => by rw [eR]; exact h.2 j hj⟩
theorem yAtPlan_cg {T T' : Nat → Nat × Nat} {R R' : Nat → Nat → Option Nat} {p : Nat} (h : yAtPlan T R p) (eT : ∀ k, p ≤ k → k < p + 2 → T' k = T k) (eR : ∀ j, R' p j = R p j) : yAtPlan T' R' p :=
  ⟨fun j hj => by have := Nat.le_of_ble_eq_true hj; rw [eT _ (by omega) (by omega)]; exact h.1 j hj, fun j hj => by rw [eR]; exact h.2 j hj⟩
theorem yAtSentence_cg {T T' : Nat → Nat × Nat} {R R' : Nat → Nat → Option Nat} {p : Nat} (h : yAtSentence T R p) (eT : ∀ k, p ≤ k → k < p + 4 → T' k = T k) (eR : ∀ j, R' p j = R p j) : yAtSentence T' R' p :=
  ⟨fun j hj => by have := Nat.le_of_ble_eq_true hj; rw [eT _ (by omega) (by omega)]; exact h.1 j hj, fun j hj => by rw [eR]; exact h.2 j hj⟩
theorem yAtWorld_cg {T T' : Nat → Nat × Nat} {R R' : Nat → Nat → Option Nat} {p : Nat} (h : yAtWorld T R p) (eT : ∀ k, p ≤ k → k < p + 32 → T' k = T k) (eR : ∀ j, R' p j = R p j) : yAtWorld T' R' p :=
  ⟨fun j hj => by have := Nat.le_of_ble_eq_true hj; rw [eT _ (by omega) (by omega)]; exact h.1 j hj, fun j hj => by rw [eR]; exact h.2 j hj⟩
theorem cWd_cg {T T' : Nat → Nat × Nat} {R R' : Nat → Nat → Option Nat} {p : Nat} (h : cWd T R p) (eT : ∀ k, p ≤ k → k < p + 32 → T' k = T k) (eR : ∀ k j, p ≤ k → k < p + 32 → R' k j = R k j) : cWd T' R' p :=
  ⟨yAtWorld_cg h.1 eT (fun j => eR _ _ (by omega) (by omega)), yAtLand_cg h.2.1 (fun k _ _ => eT k (by omega) (by omega)) (fun j => eR _ _ (by omega) (by omega)), yAtState_cg h.2.2.1 (fun k _ _ => eT k (by omega) (by omega)) (fun j => eR _ _ (by omega) (by omega)), yAtPlan_cg h.2.2.2.1 (fun k _ _ => eT k (by omega) (by omega)) (fun j => eR _ _ (by omega) (by omega)), yAtSentence_cg h.2.2.2.2 (fun k _ _ => eT k (by omega) (by omega)) (fun j => eR _ _ (by omega) (by omega))⟩
theorem cHp_cg {N N' : Nat} {T T' : Nat → Nat × Nat} {R R' : Nat → Nat → Option Nat} {p : Nat} (h : cHp N T R p) (hN : N ≤ N') (eT : ∀ k, k < N → T' k = T k) (eR : ∀ k j, 126 ≤ k → k < N → R' k j = R k j) : cHp N' T' R' p :=
  ⟨h.1, by have := h.2.1; omega, yAtState_cg h.2.2 (fun k _ _ => eT k (by have := h.2.1; omega)) (fun j => eR _ _ h.1 (by have := h.2.1; omega))⟩
section Ce
variable {l : Launch} {D : va_G} {cy : Nat → ClassId} {z d bc bs nc nl N : Nat} {T : Nat → Nat × Nat} {R : Nat → Nat → Option Nat} {I : Nat → Nat → Int} {K : yKo} {mi pc : Nat} {lo : yL} {st : List yV}
theorem ck_new {N N' c n : Nat} (hN : N' = N + 1) (hk : ∀ T' R' I', T' = yNT T N c n → R' = yNR R N → I' = yNI I N → yW l zSS D cy zFk z d mi bc bs K nc nl pc lo st (N', T', R', I')) : yW l zSS D cy zFk z d mi bc bs K nc nl pc lo st (yNw (N, T, R, I) c n) := by
  subst hN
  exact hk _ _ _ rfl rfl rfl
theorem ck_ref {p f : Nat} {r : Option Nat} (hk : ∀ R', R' = yUR R p f r → yW l zSS D cy zFk z d mi bc bs K nc nl pc lo st (N, T, R', I)) : yW l zSS D cy zFk z d mi bc bs K nc nl pc lo st (yPut (N, T, R, I) p f (yr r)) := hk _ rfl
theorem ck_row {p f : Nat} {r : Option Nat} (hk : ∀ R', R' = yUR R p f r → yW l zSS D cy zFk z d mi bc bs K nc nl pc lo st (N, T, R', I)) : yW l zSS D cy zFk z d mi bc bs K nc nl pc lo st (ySR (N, T, R, I) p f r) := hk _ rfl
theorem e_116e {a b c x y nx : Nat} {h : yHp} (hr : yRowB zSS zGG zPl mi (pc, 116, a, b, c, x, y, nx) = true) {cc : Nat} {q n : Nat} {v : Int} {r r2 : Option Nat} (hr' : r = some q) (ht : yTy h q = (cc, n)) (h0 : 0 ≤ v) (h1 : v < (n : Int)) (hc : cc = 4 ∨ cc = 5) (hv : yR h q v.toNat = r2) (hk : yW l zSS D cy zFk z d mi bc bs K nc nl nx lo (yr r2 :: st) h) : yW l zSS D cy zFk z d mi bc bs K nc nl pc lo (yi v :: yr r :: st) h := by
  refine e_116 hr hr' ht h0 h1 hc ?_
  rw [hv]
  exact hk
/-- History.forgetFirst -/
theorem w_1 (hT : yLT T) (hR : yLR R) (hH : ∀ i, i < 8 → ∃ p, R 90 i = some p ∧ cHp N T R p) (hk : ∀ R' I', yLR R' → (∀ k j, k ≠ 90 → R' k j = R k j) → (∀ i, i < 8 → ∃ p, R' 90 i = some p ∧ cHp N T R p) → I' 89 1 = 7 → (∀ k j, ¬ (k = 89 ∧ j = 1) → I' k j = I k j) → K none (N, T, R', I')) :
    yW l zSS D cy zFk z d 1 bc bs K 0 0 0 [(0, yr (some 89))] [] (N, T, R, I) := by
  obtain ⟨p0, e0, g0⟩ := hH 0 (by decide)
  have t0 : T p0 = (15, 14) := g0.2.2.1 0 rfl
  have loop : ∀ (n i : Nat) (X : Nat → Nat → Option Nat), n + i = 8 → 1 ≤ i → (∀ k j, k ≠ 90 → X k j = R k j) → (∀ i, i < 8 → ∃ p, X 90 i = some p ∧ cHp N T R p) → yW l zSS D cy zFk z d 1 bc bs K 0 0 9 [(0, yr (some 89)), (1, yr (some p0)), (2, yi (i : Int))] [] (N, T, X, I) := by
    intro n
    induction n with
    | zero =>
      intro i X hi h1 fX hX
      have XR : yLR X := fun k j hk => by
        have : k ≠ 90 := fun e => by
          subst e
          have d : ∀ j : Fin 8, yS0 90 j.1 = false := by decide
          by_cases g : j < 8
          · rw [d ⟨j, g⟩] at hk; cases hk
          · have e : ∀ l : List Bool, l.length ≤ 8 → l.getD j false = false := fun l hl => by rw [List.getD, List.getElem?_eq_none (by omega)]; rfl
            unfold yS0 at hk
            rw [e _ (by decide)] at hk
            cases hk
        rw [fX k j this]; exact hR k j hk
      refine e_10 (f_1 (pc := 9) (e := (9, 10, 2, 0, 0, 0, 0, 10)) rfl) rfl ?_
      refine e_1 (f_1 (pc := 10) (e := (10, 1, 8, 0, 0, 0, 0, 12)) rfl) (v := 8) rfl ?_
      refine e_73 (f_1 (pc := 12) (e := (12, 73, 35, 0, 0, 0, 0, 15)) rfl) (fun _ => ?_) (fun c => absurd (by omega) c)
      refine e_12 (f_1 (pc := 35) (e := (35, 12, 0, 0, 0, 0, 0, 36)) rfl) rfl ?_
      refine e_90r zA (f_1 (pc := 36) (e := (36, 90, 0, 0, 3, 13, 793, 39)) rfl) rfl (hT 89 rfl) rfl rfl (XR 89 0 rfl) ?_
      refine e_1 (f_1 (pc := 39) (e := (39, 1, 7, 0, 0, 0, 0, 41)) rfl) (v := 7) rfl ?_
      refine e_12 (f_1 (pc := 41) (e := (41, 12, 1, 0, 0, 0, 0, 42)) rfl) rfl ?_
      refine e_117 (f_1 (pc := 42) (e := (42, 117, 0, 0, 0, 0, 0, 43)) rfl) zA rfl (hT 90 rfl) (by decide) (by decide) rfl t0 (.inl ⟨rfl, rfl⟩) ?_
      refine ck_row (fun X2 hX2 => ?_)
      have hX2 : X2 = yUR X 90 7 (some p0) := hX2
      have f2 : ∀ k j, k ≠ 90 → X2 k j = X k j := fun k j g => by rw [hX2, yUR_ne _ _ (fun q => g q.1)]
      refine e_12 (f_1 (pc := 43) (e := (43, 12, 0, 0, 0, 0, 0, 44)) rfl) rfl ?_
      refine e_1 (f_1 (pc := 44) (e := (44, 1, 7, 0, 0, 0, 0, 46)) rfl) (v := 7) rfl ?_
      refine e_91 zA (f_1 (pc := 46) (e := (46, 91, 0, 1, 0, 17, 794, 49)) rfl) rfl (hT 89 rfl) rfl rfl trivial ?_
      refine e_122 (f_1 (pc := 49) (e := (49, 122, 0, 0, 0, 0, 0, 0)) rfl) (hk X2 (yU I 89 1 7) ?_ (fun k j g => by rw [f2 k j g, fX k j g]) (fun i hi => ?_) (yU_eq _ _ _ _) (fun k j g => yU_ne _ _ g))
      · rw [hX2]
        exact yLR_up (by decide) XR
      · by_cases e : i = 7
        · subst e; exact ⟨p0, by rw [hX2]; exact yUR_eq _ _ _ _, g0⟩
        · obtain ⟨p, a, b⟩ := hX i hi
          exact ⟨p, by rw [hX2, yUR_ne _ _ (fun q => e q.2)]; exact a, b⟩
    | succ n ih =>
      intro i X hi h1 fX hX
      have XR : yLR X := fun k j hk => by
        have : k ≠ 90 := fun e => by
          subst e
          have d : ∀ j : Fin 8, yS0 90 j.1 = false := by decide
          by_cases g : j < 8
          · rw [d ⟨j, g⟩] at hk; cases hk
          · have e : ∀ l : List Bool, l.length ≤ 8 → l.getD j false = false := fun l hl => by rw [List.getD, List.getElem?_eq_none (by omega)]; rfl
            unfold yS0 at hk
            rw [e _ (by decide)] at hk
            cases hk
        rw [fX k j this]; exact hR k j hk
      obtain ⟨p, a, b⟩ := hX i (by omega)
      have tp : T p = (15, 14) := b.2.2.1 0 rfl
      refine e_10 (f_1 (pc := 9) (e := (9, 10, 2, 0, 0, 0, 0, 10)) rfl) rfl ?_
      refine e_1 (f_1 (pc := 10) (e := (10, 1, 8, 0, 0, 0, 0, 12)) rfl) (v := 8) rfl ?_
      refine e_73 (f_1 (pc := 12) (e := (12, 73, 35, 0, 0, 0, 0, 15)) rfl) (fun c => absurd c (by omega)) (fun _ => ?_)
      refine e_12 (f_1 (pc := 15) (e := (15, 12, 0, 0, 0, 0, 0, 16)) rfl) rfl ?_
      refine e_90r zA (f_1 (pc := 16) (e := (16, 90, 0, 0, 3, 13, 793, 19)) rfl) rfl (hT 89 rfl) rfl rfl (XR 89 0 rfl) ?_
      refine e_10 (f_1 (pc := 19) (e := (19, 10, 2, 0, 0, 0, 0, 20)) rfl) rfl ?_
      refine e_0 (f_1 (pc := 20) (e := (20, 0, 1, 0, 0, 0, 0, 21)) rfl) (v := 1) rfl ?_
      refine e_31 (f_1 (pc := 21) (e := (21, 31, 0, 0, 0, 0, 0, 22)) rfl) ?_
      rw [ysub_eq (by omega) (by omega)]
      refine e_12 (f_1 (pc := 22) (e := (22, 12, 0, 0, 0, 0, 0, 23)) rfl) rfl ?_
      refine e_90r zA (f_1 (pc := 23) (e := (23, 90, 0, 0, 3, 13, 793, 26)) rfl) rfl (hT 89 rfl) rfl rfl (XR 89 0 rfl) ?_
      refine e_10 (f_1 (pc := 26) (e := (26, 10, 2, 0, 0, 0, 0, 27)) rfl) rfl ?_
      refine e_116e (f_1 (pc := 27) (e := (27, 116, 0, 0, 0, 0, 0, 28)) rfl) (r2 := some p) rfl (hT 90 rfl) (by omega) (by omega) (.inl rfl) a ?_
      refine e_117 (f_1 (pc := 28) (e := (28, 117, 0, 0, 0, 0, 0, 29)) rfl) zA rfl (hT 90 rfl) (by omega) (by omega) rfl tp (.inl ⟨rfl, rfl⟩) ?_
      refine ck_row (fun X2 hX2 => ?_)
      refine e_26 (f_1 (pc := 29) (e := (29, 26, 2, 1, 0, 0, 0, 32)) rfl) (w := 1) rfl rfl ?_
      refine e_80 (f_1 (pc := 32) (e := (32, 80, 9, 0, 0, 0, 0, 35)) rfl) ?_
      refine e_lo [0, 1, 2] rfl ?_
      rw [yadd_eq (by omega) (by omega), show (i : Int) + 1 = ((i + 1 : Nat) : Int) by omega]
      refine ih (i + 1) X2 (by omega) (by omega) (fun k j g => by rw [hX2, yUR_ne _ _ (fun q => g q.1)]; exact fX k j g) (fun i' hi' => ?_)
      by_cases e : i' = ((i : Int) - 1).toNat
      · subst e; exact ⟨p, by rw [hX2]; exact yUR_eq _ _ _ _, b⟩
      · obtain ⟨p', a', b'⟩ := hX i' hi'
        exact ⟨p', by rw [hX2, yUR_ne _ _ (fun q => e q.2)]; exact a', b'⟩
  refine e_12 (f_1 (pc := 0) (e := (0, 12, 0, 0, 0, 0, 0, 1)) rfl) rfl ?_
  refine e_90r zA (f_1 (pc := 1) (e := (1, 90, 0, 0, 3, 13, 793, 4)) rfl) rfl (hT 89 rfl) rfl rfl (hR 89 0 rfl) ?_
  refine e_0 (f_1 (pc := 4) (e := (4, 0, 0, 0, 0, 0, 0, 5)) rfl) (v := 0) rfl ?_
  refine e_116e (f_1 (pc := 5) (e := (5, 116, 0, 0, 0, 0, 0, 6)) rfl) (r2 := some p0) rfl (hT 90 rfl) (by decide) (by decide) (.inl rfl) e0 ?_
  refine e_22 (f_1 (pc := 6) (e := (6, 22, 1, 0, 0, 0, 0, 7)) rfl) ?_
  refine e_0 (f_1 (pc := 7) (e := (7, 0, 1, 0, 0, 0, 0, 8)) rfl) (v := 1) rfl ?_
  refine e_20 (f_1 (pc := 8) (e := (8, 20, 2, 0, 0, 0, 0, 9)) rfl) ?_
  refine e_lo [0, 1, 2] rfl ?_
  exact loop 7 1 R (by omega) (by omega) (fun _ _ _ => rfl) hH
end Ce
