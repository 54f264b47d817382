/-! THE CLASS's ALLEYS: its answer -/
section Xj2
variable {l : Launch} {D : va_G} {cy : Nat → ClassId} {z d bc bs N : Nat} {T : Nat → Nat × Nat} {R : Nat → Nat → Option Nat} {I : Nat → Nat → Int} {K : yKo} {t : Nat → Int} {n lim p p0 : Nat} {S : Ld}
/-- what ALLEYS answers: how many LINES, or where the FAULT is -/
def kAns (k : Rs (Ld × Nat)) : Int := k.elim (fun f => -1 - (f.2 : Int)) (fun x => (x.2 : Int))
/-- a FAULT's sort -/
def kFc {α : Type} (k : Rs α) : Int := k.elim (fun f => f.1) (fun _ => 0)
/-- what a text says as ALLEYS -/
noncomputable def zAl (t : Nat → Int) (n : Nat) : Rs (Ld × Nat) := kAll (tk t n 900) 941 Ld0 0 0
/-- alleys: the answer, to the letter -/
theorem x_114 (hT : yLT T) (hR : yLR R) (h0 : I 1 1 = (n : Int)) (hn : n ≤ 940) (h126 : 126 ≤ N) (h1 : 0 ≤ I 4 0 ∧ I 4 0 ≤ 10 ∧ 0 ≤ I 4 1 ∧ I 4 1 ≤ 10) (hk : ∀ r I', r = kAns (zAl (I 2) n) → (∀ k j, ¬ (k = 1 ∨ (4 ≤ k ∧ k < 48) ∨ (k = 89 ∧ j = 1)) → I' k j = I k j) → (I' 1 1 = 0 ∧ 0 ≤ I' 4 0 ∧ I' 4 0 ≤ 10 ∧ 0 ≤ I' 4 1 ∧ I' 4 1 ≤ 10 ∧ (I' 89 1 = I 89 1 ∨ I' 89 1 = 0)) → I' 1 10 = kFc (zAl (I 2) n) → (∀ f, zAl (I 2) n = .inl f → ∀ k j, 4 ≤ k → k < 16 → I' k j = I k j) → (∀ S c, zAl (I 2) n = .inr (S, c) → cLr I' 4 S) → K (some (yi r)) (N, T, R, I')) :
    yW l zSS D cy zFk z (d + 11) 114 bc bs K 0 0 0 [(0, yr (some 0))] [] (N, T, R, I) := by
  obtain ⟨t, ht⟩ : ∃ t, I 2 = t := ⟨_, rfl⟩
  rw [ht] at hk
  refine B_114_0 hT hR (x_40 hT hR (n := n) (lim := 900) h0 hn (by omega) (fun I1 f1 r1 => ⟨_, rfl, rfl, ?_⟩))
  have t1 : I1 2 = t := by rw [← ht]; exact funext fun j => f1 2 j (by omega)
  rw [ht] at r1
  have F1 : ∀ k j, ¬ (k = 1 ∨ (4 ≤ k ∧ k < 48) ∨ (k = 89 ∧ j = 1)) → I1 k j = I k j := fun k j h => f1 k j (by omega)
  refine x_14 hT hR (a_Land36 hT hR) (by omega) r1 hn (by omega) t1 (fun f I2 e f2 fl => ⟨_, _, rfl, rfl, fun I4 e4 => ?_⟩) (fun S c I2 e c9 f2 z2 L2 => ⟨_, _, rfl, rfl, fun I4 e4 => ?_⟩)
  · obtain ⟨b1, b2, b3⟩ := kAll_bad (tk_go t n 900) (fun q hq => tk_pl hq) 941 (Nat.zero_le n) e
    have ez : zAl t n = .inl f := e
    have F4 : ∀ k j, ¬ (k = 1 ∨ (4 ≤ k ∧ k < 48) ∨ (k = 89 ∧ j = 1)) → I4 k j = I k j := fun k j h => by
      rw [e4, yU_ne _ _ (by omega), f2 k j (by omega) (by omega)]; exact F1 k j h
    have q10 : I4 1 10 = f.1 := by rw [e4, yU_ne _ _ (by omega)]; exact fl.1
    have q11 : I4 1 11 = (f.2 : Int) := by rw [e4, yU_ne _ _ (by omega)]; exact fl.2
    have w4 : I4 4 0 = I 4 0 ∧ I4 4 1 = I 4 1 ∧ I4 89 1 = I 89 1 := by
      rw [e4, yU_ne _ _ (by omega), yU_ne _ _ (by omega), yU_ne _ _ (by omega), f2 4 0 (by omega) (by omega), f2 4 1 (by omega) (by omega), f2 89 1 (by omega) (by omega)]
      exact ⟨f1 4 0 (by omega), f1 4 1 (by omega), f1 89 1 (by omega)⟩
    refine ⟨fun c => absurd (q10.symm.trans c) (by omega), fun _ => hk _ I4 ?_ F4 ⟨by rw [e4, yU_eq], by omega, by omega, by omega, by omega, .inl w4.2.2⟩ (by rw [q10, ez]; rfl) (fun _ _ k j a b => by rw [e4, yU_ne _ _ (by omega), f2 k j (by omega) (by omega)]; exact f1 k j (by omega)) (fun S c e2 => by rw [ez] at e2; cases e2)⟩
    rw [q11, ysub_eq (by omega) (by omega), ez]
    rfl
  · have q10 : I4 1 10 = 0 := by rw [e4, yU_ne _ _ (by omega)]; exact z2
    have F4 : ∀ k j, ¬ (k = 1 ∨ (4 ≤ k ∧ k < 48) ∨ (k = 89 ∧ j = 1)) → I4 k j = I k j := fun k j h => by
      rw [e4, yU_ne _ _ (by omega), f2 k j (by omega) (by omega)]; exact F1 k j h
    have s36 : I4 36 0 = S.w ∧ I4 36 1 = S.h := by
      rw [e4, yU_ne _ _ (by omega), yU_ne _ _ (by omega)]; exact ⟨L2.1.1, L2.1.2.2.2.1⟩
    have s11 : I4 1 1 = 0 := by rw [e4, yU_eq]
    have wh := L2.1
    refine ⟨fun _ => ?_, fun c => absurd q10 c⟩
    have ez : zAl t n = .inr (S, c) := e
    have L4 : cLr I4 36 S := cLr_cg L2 (fun a b h1 h2 => by rw [e4, yU_ne _ _ (by omega)])
    refine x_8 (d := d + 9) hT hR (a_Land4 hT hR) (a_Land36 hT hR) (by omega) (by omega) (fun I6 f6 c6 => ⟨_, rfl, rfl, ?_⟩)
    have L6 : cLr I6 4 S := cCy_lr L4 c6
    refine w_57 (d := d + 9) hT hR (a_State16 hT hR) (by omega) (a_Land4 hT hR) (by omega) (fun I7 f7 _ => ⟨_, rfl, rfl, fun I8 e8 I9 e9 I10 e10 => ?_⟩)
    have F7 : ∀ k j, ¬ (4 ≤ k ∧ k < 29) → I7 k j = I4 k j := fun k j h => by rw [f7 k j (by omega), f6 k j (by omega)]
    have F10 : ∀ k j, ¬ (k = 29 ∧ j = 0) → ¬ (k = 31 ∧ j = 0) → ¬ (k = 89 ∧ j = 1) → I10 k j = I7 k j := fun k j h1 h2 h3 => by rw [e10, yU_ne _ _ h3, e9, yU_ne _ _ h2, e8, yU_ne _ _ h1]
    refine hk _ I10 (by rw [ez]; rfl) (fun k j h => by rw [F10 k j (by omega) (by omega) (by omega), F7 k j (by omega)]; exact F4 k j h) ?_ (by rw [F10 1 10 (by omega) (by omega) (by omega), F7 1 10 (by omega), q10, ez]; rfl) (fun f e2 => by rw [ez] at e2; cases e2) (fun S' c' e2 => ?_)
    rotate_left
    · rw [ez] at e2
      cases e2
      exact cLr_cg L6 (fun a b h1 h2 => by rw [F10 a b (by omega) (by omega) (by omega), f7 a b (by omega)])
    have a4 : I10 4 0 = I6 4 0 ∧ I10 4 1 = I6 4 1 := by
      rw [F10 4 0 (by omega) (by omega) (by omega), F10 4 1 (by omega) (by omega) (by omega), f7 4 0 (by omega), f7 4 1 (by omega)]; exact ⟨rfl, rfl⟩
    have a1 : I10 1 1 = 0 := by rw [F10 1 1 (by omega) (by omega) (by omega), F7 1 1 (by omega)]; exact s11
    have wl := L6.1
    exact ⟨a1, by omega, by omega, by omega, by omega, .inr (by rw [e10, yU_eq])⟩
end Xj2
