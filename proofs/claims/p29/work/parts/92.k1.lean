/-! contracts of the class typed by hand: findWord, drawStarts -/
section Sw
variable {l : Launch} {D : va_G} {cy : Nat → ClassId} {z d bc bs N : Nat} {T : Nat → Nat × Nat} {R : Nat → Nat → Option Nat} {I : Nat → Nat → Int} {K : yKo}
theorem w_35 (hT : yLT T) (hR : yLR R) (hk : ∀ I', (∀ k j, ¬ (k = 1 ∧ j = 6) → I' k j = I k j) → (True) → K none (N, T, R, I')) : yW l zSS D cy zFk z (d + 4) 35 bc bs K 0 0 0 [(0, yr (some 1))] [] (N, T, R, I) := by
  have L : ∀ (m : Nat) (X : Nat → Nat → Int) (k : Nat) (x1 x2 : Int), k + m = 112 → (∀ k j, ¬ (k = 1 ∧ j = 6) → X k j = I k j) → yW l zSS D cy zFk z (d + 4) 35 bc bs K 0 0 7 [(0, yr (some 1)), (1, yi x1), (2, yj x2), (4, yi (k : Int))] [] (N, T, R, X) := by
    intro m
    induction m with
    | zero =>
      intro X k x1 x2 h1 fX
      exact B_35_7 hT hR (by omega) ⟨fun _ => hk _ fX trivial, fun c => absurd (by omega) c⟩
    | succ m ih =>
      intro X k x1 x2 h1 fX
      have e : yadd (k : Int) 1 = ((k + 1 : Nat) : Int) := by rw [yadd_eq (by omega) (by omega)]; rfl
      refine B_35_7 hT hR (by omega) ⟨fun c => absurd c (by omega), fun _ => ⟨fun _ => hk _ fX trivial, fun _ => ⟨by omega, by omega, fun _ => ⟨fun _ I7 e7 => ?_, fun _ I8 e8 => ?_⟩, fun _ => ?_⟩⟩⟩
      · rw [e]
        exact ih _ _ _ _ (by omega) (fun q j hq => by rw [e7, yU_ne _ _ (by omega)]; exact fX q j hq)
      · rw [e]
        exact ih _ _ _ _ (by omega) (fun q j hq => by rw [e8, yU_ne _ _ (by omega)]; exact fX q j hq)
      · rw [e]
        exact ih _ _ _ _ (by omega) fX
  exact B_35_0 hT hR (by omega) (L 112 I 0 0 0 rfl (fun _ _ _ => rfl))
set_option maxRecDepth 20000 in
theorem w_63 (hT : yLT T) (hR : yLR R) {p : Nat} (hp : yAtState T R p) (gp : (1 < p ∧ p + 13 ≤ 102) ∨ 126 ≤ p) {x1 : Int} (hk : ∀ I', (∀ k j, ¬ (p ≤ k ∧ k < p + 13) → I' k j = I k j) → (True) → K none (N, T, R, I')) : yW l zSS D cy zFk z d 63 bc bs K 0 0 0 [(0, yr (some p)), (1, yi x1)] [] (N, T, R, I) := by
  have loop : ∀ (m : Nat) (X : Nat → Nat → Int) (k : Nat) (s : Int), k + m = 8 → (∀ q j, ¬ (p ≤ q ∧ q < p + 13) → X q j = I q j) → yW l zSS D cy zFk z d 63 bc bs K 0 0 4 [(0, yr (some p)), (1, yi x1), (2, yi s), (3, yi (k : Int))] [] (N, T, R, X) := by
    intro m
    induction m with
    | zero =>
      intro X k s h1 fX
      refine e_10 (f_63 (pc := 4) (e := (4, 10, 3, 0, 0, 0, 0, 5)) rfl) rfl ?_
      refine e_1 (f_63 (pc := 5) (e := (5, 1, 8, 0, 0, 0, 0, 7)) rfl) (v := 8) rfl ?_
      refine e_73 (f_63 (pc := 7) (e := (7, 73, 38, 0, 0, 0, 0, 10)) rfl) (fun c1 => ?_) (fun c1 => absurd c1 (by omega))
      exact e_122 (f_63 (pc := 38) (e := (38, 122, 0, 0, 0, 0, 0, 0)) rfl) (hk X fX trivial)
    | succ m ih =>
      intro X k s h1 fX
      refine e_10 (f_63 (pc := 4) (e := (4, 10, 3, 0, 0, 0, 0, 5)) rfl) rfl ?_
      refine e_1 (f_63 (pc := 5) (e := (5, 1, 8, 0, 0, 0, 0, 7)) rfl) (v := 8) rfl ?_
      refine e_73 (f_63 (pc := 7) (e := (7, 73, 38, 0, 0, 0, 0, 10)) rfl) (fun c1 => absurd c1 (by omega)) (fun c1 => ?_)
      refine e_10 (f_63 (pc := 10) (e := (10, 10, 2, 0, 0, 0, 0, 11)) rfl) rfl ?_
      refine e_3 (f_63 (pc := 11) (e := (11, 3, 1103515245, 0, 0, 75, 929, 13)) rfl) (v := (nI 1103515245).toInt) rfl ?_
      generalize (nI 1103515245).toInt = g at *
      refine e_32 (f_63 (pc := 13) (e := (13, 32, 0, 0, 0, 0, 0, 14)) rfl) ?_
      refine e_2 (f_63 (pc := 14) (e := (14, 2, 12345, 0, 0, 0, 0, 17)) rfl) (v := 12345) rfl ?_
      refine e_30 (f_63 (pc := 17) (e := (17, 30, 0, 0, 0, 0, 0, 18)) rfl) ?_
      generalize yadd (ymul s g) 12345 = v at *
      refine e_20 (f_63 (pc := 18) (e := (18, 20, 2, 0, 0, 0, 0, 19)) rfl) ?_
      show yW l zSS D cy zFk z d 63 bc bs K 0 0 19 [(2, yi v), (0, yr (some p)), (1, yi x1), (3, yi (k : Int))] [] (N, T, R, X)
      refine e_12 (f_63 (pc := 19) (e := (19, 12, 0, 0, 0, 0, 0, 20)) rfl) rfl ?_
      refine e_90r zA (f_63 (pc := 20) (e := (20, 90, 5, 2, 3, 15, 910, 23)) rfl) rfl (hp.1 0 rfl) rfl rfl (hp.2 2 rfl) ?_
      refine e_10 (f_63 (pc := 23) (e := (23, 10, 3, 0, 0, 0, 0, 24)) rfl) rfl ?_
      refine e_10 (f_63 (pc := 24) (e := (24, 10, 2, 0, 0, 0, 0, 25)) rfl) rfl ?_
      refine e_1 (f_63 (pc := 25) (e := (25, 1, 8, 0, 0, 0, 0, 27)) rfl) (v := 8) rfl ?_
      refine e_41 (f_63 (pc := 27) (e := (27, 41, 0, 0, 0, 0, 0, 28)) rfl) ?_
      refine e_1 (f_63 (pc := 28) (e := (28, 1, 20, 0, 0, 0, 0, 30)) rfl) (v := 20) rfl ?_
      refine e_34 (f_63 (pc := 30) (e := (30, 34, 0, 0, 0, 0, 0, 31)) rfl) (by decide) ?_
      generalize yrem (yushr v 8) 20 = w at *
      refine e_111 (f_63 (pc := 31) (e := (31, 111, 0, 0, 0, 0, 0, 32)) rfl) rfl (hp.1 2 rfl) (by omega) (by show (k : Int) < ((8 : Nat) : Int); omega) ?_
      refine e_26 (f_63 (pc := 32) (e := (32, 26, 3, 1, 0, 0, 0, 35)) rfl) (w := 1) rfl rfl ?_
      refine e_80 (f_63 (pc := 35) (e := (35, 80, 4, 0, 0, 0, 0, 38)) rfl) ?_
      refine e_lo [0, 1, 2, 3] rfl ?_
      show yW l zSS D cy zFk z d 63 bc bs K 0 0 4 [(0, yr (some p)), (1, yi x1), (2, yi v), (3, yi (yadd (k : Int) 1))] [] (N, T, R, yU X (p + 2) ((k : Int)).toNat (ynar 1 w))
      rw [yadd_eq (x := (k : Int)) (by omega) (by omega)]
      exact ih _ (k + 1) v (by omega) (fun q j hq => by rw [yU_ne _ _ (by omega)]; exact fX q j hq)
  refine e_10 (f_63 (pc := 0) (e := (0, 10, 1, 0, 0, 0, 0, 1)) rfl) rfl ?_
  refine e_20 (f_63 (pc := 1) (e := (1, 20, 2, 0, 0, 0, 0, 2)) rfl) ?_
  refine e_0 (f_63 (pc := 2) (e := (2, 0, 0, 0, 0, 0, 0, 3)) rfl) (v := 0) rfl ?_
  refine e_20 (f_63 (pc := 3) (e := (3, 20, 3, 0, 0, 0, 0, 4)) rfl) ?_
  refine e_lo [0, 1, 2, 3] rfl ?_
  exact loop 8 I 0 x1 rfl (fun _ _ _ => rfl)
end Sw
