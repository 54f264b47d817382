/-! THE CLASS's READER's small methods, to the letter -/
/-- the reader stands at the TOKEN that is next from p on -/
def cRd (I : Nat → Nat → Int) (t : Nat → Int) (n lim p : Nat) : Prop := I 1 1 = (n : Int) ∧ (I 1 2 = (lim : Int) ∧ I 1 10 = 0) ∧ cTk I t n lim p
/-- what reading may change -/
def cFr (I I' : Nat → Nat → Int) : Prop := ∀ a b, ¬ (a = 1 ∧ 3 ≤ b ∧ b ≤ 11) → I' a b = I a b
def cFl (I : Nat → Nat → Int) (f : Int × Nat) : Prop := I 1 10 = f.1 ∧ I 1 11 = (f.2 : Int)
theorem cFr_rfl {I : Nat → Nat → Int} : cFr I I := fun _ _ _ => rfl
theorem cFr_tr {I J L : Nat → Nat → Int} (h : cFr I J) (g : cFr J L) : cFr I L := fun a b c => (g a b c).trans (h a b c)
section Xr
variable {l : Launch} {D : va_G} {cy : Nat → ClassId} {z d bc bs N : Nat} {T : Nat → Nat × Nat} {R : Nat → Nat → Option Nat} {I : Nat → Nat → Int} {K : yKo} {t : Nat → Int} {n lim p : Nat}
theorem x_34 (hT : yLT T) (hR : yLR R) (h : cRd I t n lim p) {x1 : Int} (hk : ∀ I', cFr I I' → cFl I' (x1, (tk t n lim p).2.1) → K (some (yi 0)) (N, T, R, I')) :
    yW l zSS D cy zFk z d 34 bc bs K 0 0 0 [(0, yr (some 1)), (1, yi x1)] [] (N, T, R, I) := by
  exact B_34_0 hT hR (fun I1 e1 I2 e2 => hk I2 (fun a b g => by rw [e2, yU_ne _ _ (by omega), e1, yU_ne _ _ (by omega)]) ⟨by rw [e2, yU_ne _ _ (by omega), e1, yU_eq], by rw [e2, yU_eq, e1, yU_ne _ _ (by omega)]; exact (cTk_tk h.2.2).2.1⟩)
/-- Reader.advance: on to the next TOKEN -/
theorem x_adv (hT : yLT T) (hR : yLR R) (h : cRd I t n lim p) (hn : n ≤ 940) (hl : lim ≤ 940) (ht : I 2 = t) (hk : ∀ I', cFr I I' → cRd I' t n lim (tk t n lim p).2.2.2 → K none (N, T, R, I')) :
    yW l zSS D cy zFk z (d + 5) 31 bc bs K 0 0 0 [(0, yr (some 1))] [] (N, T, R, I) := by
  have g := cTk_tk h.2.2
  refine x_31 hT hR (n := n) (lim := lim) (p := (tk t n lim p).2.2.2) h.1 hn h.2.1.1 hl g.2.2.1 g.2.2.2.2.2.2.2.2.2.2.2.2.2.1 (fun I' f c => hk I' (fun a b q => f a b (by omega)) ⟨by rw [f 1 1 (by omega)]; exact h.1, ⟨by rw [f 1 2 (by omega)]; exact h.2.1.1, by rw [f 1 10 (by omega)]; exact h.2.1.2⟩, by rw [ht] at c; exact c⟩)
theorem cRd_2 {I' : Nat → Nat → Int} (f : cFr I I') (ht : I 2 = t) : I' 2 = t := by
  rw [← ht]
  exact funext fun j => f 2 j (by omega)
theorem x_38 (hT : yLT T) (hR : yLR R) (h : cRd I t n lim p) {x1 : Int} (hk : ∀ r, ((r = 1 ∧ (tk t n lim p).1 = 3 ∧ (tk t n lim p).2.2.1 = x1) ∨ (r = 0 ∧ ¬ ((tk t n lim p).1 = 3 ∧ (tk t n lim p).2.2.1 = x1))) → K (some (yi r)) (N, T, R, I)) :
    yW l zSS D cy zFk z d 38 bc bs K 0 0 0 [(0, yr (some 1)), (1, yi x1)] [] (N, T, R, I) := by
  obtain ⟨-, -, -, -, -, g4, -, -, -, -, g9, -⟩ := cTk_tk h.2.2
  refine B_38_0 hT hR ⟨fun c => hk 0 (.inr ⟨rfl, fun q => c (g4.mpr q.1)⟩), fun c => ?_⟩
  have k3 := g4.mp (by omega)
  exact ⟨fun c2 => hk 0 (.inr ⟨rfl, fun q => c2 ((g9 k3).trans q.2)⟩), fun c2 => hk 1 (.inl ⟨rfl, k3, by rw [← g9 k3]; omega⟩)⟩
theorem x_39 (hT : yLT T) (hR : yLR R) (h : cRd I t n lim p) {x1 x2 : Int} (hx : 0 ≤ x1) (hk : ∀ r, ((r = 1 ∧ (tk t n lim p).1 = 1 ∧ x1 ≤ rIx (tk t n lim p).2.2.1 ∧ rIx (tk t n lim p).2.2.1 ≤ x2) ∨ (r = 0 ∧ ¬ ((tk t n lim p).1 = 1 ∧ x1 ≤ rIx (tk t n lim p).2.2.1 ∧ rIx (tk t n lim p).2.2.1 ≤ x2))) → K (some (yi r)) (N, T, R, I)) :
    yW l zSS D cy zFk z d 39 bc bs K 0 0 0 [(0, yr (some 1)), (1, yi x1), (2, yi x2)] [] (N, T, R, I) := by
  obtain ⟨-, -, -, g2, -, -, -, -, g7, -⟩ := cTk_tk h.2.2
  refine B_39_0 hT hR ⟨fun c => hk 0 (.inr ⟨rfl, fun q => c (g2.mpr q.1)⟩), fun c => ?_⟩
  have k1 := g2.mp (by omega)
  have e := (g7 k1).2.1
  exact ⟨fun c2 => hk 0 (.inr ⟨rfl, fun q => by omega⟩), fun c2 => ⟨fun c3 => hk 0 (.inr ⟨rfl, fun q => by omega⟩), fun c3 => hk 1 (.inl ⟨rfl, k1, by omega, by omega⟩)⟩⟩
/-- Reader.isNumber: what kNum says, the TOKEN stays -/
theorem x_37 (hT : yLT T) (hR : yLR R) (h : cRd I t n lim p) {x1 x2 : Int} (hf : ∀ f I', kNum (tk t n lim) x1 x2 p = .inl f → cFr I I' → cFl I' f → K (some (yi 0)) (N, T, R, I')) (ho : ∀ v p', kNum (tk t n lim) x1 x2 p = .inr (v, p') → p' = (tk t n lim p).2.2.2 → I 1 8 = v → 0 ≤ v → v < 1000 → x1 ≤ v → v ≤ x2 → K (some (yi 1)) (N, T, R, I)) :
    yW l zSS D cy zFk z (d + 1) 37 bc bs K 0 0 0 [(0, yr (some 1)), (1, yi x1), (2, yi x2)] [] (N, T, R, I) := by
  obtain ⟨-, -, -, -, g3, -, -, -, -, g8, -⟩ := cTk_tk h.2.2
  refine B_37_0 hT hR ⟨fun c => ?_, fun c => ?_⟩
  · have k2 := g3.mp c
    obtain ⟨e8, v0, v1⟩ := g8 k2
    have bad : ¬ (x1 ≤ (tk t n lim p).2.2.1 ∧ (tk t n lim p).2.2.1 ≤ x2) → kNum (tk t n lim) x1 x2 p = .inl (2, (tk t n lim p).2.1) := fun q => by unfold kNum; rw [if_pos k2, if_neg q]
    refine ⟨fun c1 => x_34 hT hR h (fun I' f fl => ⟨_, _, rfl, rfl, fun _ => hf _ I' (bad (by omega)) f fl, fun q => absurd rfl q⟩), fun c1 => ⟨fun c2 => ?_, fun c2 => x_34 hT hR h (fun I' f fl => ⟨_, _, rfl, rfl, fun _ => hf _ I' (bad (by omega)) f fl, fun q => absurd rfl q⟩)⟩⟩
    exact ho _ _ (by unfold kNum; rw [if_pos k2, if_pos ⟨by omega, by omega⟩]) rfl e8 v0 v1 (by omega) (by omega)
  · have k2 : ¬ (tk t n lim p).1 = 2 := fun q => c (g3.mpr q)
    exact x_34 hT hR h (fun I' f fl => ⟨_, _, rfl, rfl, .inl rfl, hf _ I' (by unfold kNum; rw [if_neg k2]) f fl⟩)
/-- Reader.passNumber -/
theorem x_42 (hT : yLT T) (hR : yLR R) (h : cRd I t n lim p) (hn : n ≤ 940) (hl : lim ≤ 940) (ht : I 2 = t) {x1 x2 : Int} (hf : ∀ f I', kNum (tk t n lim) x1 x2 p = .inl f → cFr I I' → cFl I' f → K (some (yi (-1))) (N, T, R, I')) (ho : ∀ v p' I', kNum (tk t n lim) x1 x2 p = .inr (v, p') → cFr I I' → cRd I' t n lim p' → 0 ≤ v → v < 1000 → x1 ≤ v → v ≤ x2 → K (some (yi v)) (N, T, R, I')) :
    yW l zSS D cy zFk z (d + 6) 42 bc bs K 0 0 0 [(0, yr (some 1)), (1, yi x1), (2, yi x2)] [] (N, T, R, I) :=
  B_42_0 hT hR (x_37 hT hR h (fun f I' e fr fl => ⟨_, _, rfl, rfl, fun q => absurd rfl q, fun _ => hf f I' e fr fl⟩) (fun v p' e ep e8 v0 v1 v2 v3 => ⟨_, _, rfl, rfl, fun _ => x_adv hT hR h hn hl ht (fun I' fr r => ⟨_, rfl, rfl, by rw [e8]; exact ho v p' I' e fr (by rw [ep]; exact r) v0 v1 v2 v3⟩), fun q => absurd (by decide : (1 : Int) ≠ 0) q⟩))
/-- Reader.isName -/
theorem x_36 (hT : yLT T) (hR : yLR R) (h : cRd I t n lim p) (hf : ∀ I', ¬ kIsName (tk t n lim) p → cFr I I' → cFl I' (1, (tk t n lim p).2.1) → K (some (yi 0)) (N, T, R, I')) (ho : kIsName (tk t n lim) p → I 1 7 = cv 7 (tk t n lim p).2.2.1 → isW (tk t n lim p).2.2.1 → K (some (yi 1)) (N, T, R, I)) :
    yW l zSS D cy zFk z (d + 1) 36 bc bs K 0 0 0 [(0, yr (some 1))] [] (N, T, R, I) := by
  obtain ⟨-, -, -, g2, -, -, -, -, g7, -⟩ := cTk_tk h.2.2
  refine B_36_0 hT hR ⟨fun c => x_34 hT hR h (fun I' f fl => ⟨_, _, rfl, rfl, fun _ => hf I' (fun q => c (g2.mpr q.1)) f fl, fun q => absurd rfl q⟩), fun c => ?_⟩
  have k1 := g2.mp (by omega)
  obtain ⟨e7, e6, w⟩ := g7 k1
  exact ⟨fun c2 => ho ⟨k1, e6.symm.trans c2⟩ e7 w, fun c2 => x_34 hT hR h (fun I' f fl => ⟨_, _, rfl, rfl, fun _ => hf I' (fun q => c2 (e6.trans q.2)) f fl, fun q => absurd rfl q⟩)⟩
/-- Reader.passSign -/
theorem x_43 (hT : yLT T) (hR : yLR R) (h : cRd I t n lim p) (hn : n ≤ 940) (hl : lim ≤ 940) (ht : I 2 = t) {x1 : Int} (hf : ∀ f I', kSign (tk t n lim) x1 p = .inl f → cFr I I' → cFl I' f → K (some (yi 0)) (N, T, R, I')) (ho : ∀ p' I', kSign (tk t n lim) x1 p = .inr p' → cFr I I' → cRd I' t n lim p' → K (some (yi 1)) (N, T, R, I')) :
    yW l zSS D cy zFk z (d + 6) 43 bc bs K 0 0 0 [(0, yr (some 1)), (1, yi x1)] [] (N, T, R, I) := by
  refine B_43_0 hT hR (x_38 hT hR h (fun r hr => ⟨_, _, rfl, rfl, fun c => ?_, fun c => ?_⟩))
  · rcases hr with ⟨_, a, b⟩ | ⟨e, _⟩
    · exact x_adv hT hR h hn hl ht (fun I' fr r => ⟨_, rfl, rfl, ho _ I' (by unfold kSign; rw [if_pos ⟨a, b⟩]) fr r⟩)
    · exact absurd e c
  · rcases hr with ⟨e, _⟩ | ⟨_, q⟩
    · exact absurd e (by omega)
    · exact x_34 hT hR h (fun I' f fl => ⟨_, _, rfl, rfl, .inl rfl, hf _ I' (by unfold kSign; rw [if_neg q]) f fl⟩)
/-- Reader.passDir -/
theorem x_41 (hT : yLT T) (hR : yLR R) (h : cRd I t n lim p) (hn : n ≤ 940) (hl : lim ≤ 940) (ht : I 2 = t) (hf : ∀ f I', kDir (tk t n lim) p = .inl f → cFr I I' → cFl I' f → K (some (yi (-1))) (N, T, R, I')) (ho : ∀ v p' I', kDir (tk t n lim) p = .inr (v, p') → cFr I I' → cRd I' t n lim p' → 0 ≤ v → v ≤ 3 → K (some (yi v)) (N, T, R, I')) :
    yW l zSS D cy zFk z (d + 6) 41 bc bs K 0 0 0 [(0, yr (some 1))] [] (N, T, R, I) := by
  obtain ⟨-, -, -, g2, -, -, -, -, g7, -⟩ := cTk_tk h.2.2
  refine B_41_0 hT hR (x_39 hT hR h (by decide) (fun r hr => ⟨_, _, rfl, rfl, fun c => ?_, fun c => ?_⟩))
  · rcases hr with ⟨_, a, b, b2⟩ | ⟨e, _⟩
    · refine x_adv hT hR h hn hl ht (fun I' fr r => ⟨_, rfl, rfl, ?_⟩)
      rw [(g7 a).2.1, ysub_eq (by omega) (by omega)]
      exact ho _ _ I' (by unfold kDir; rw [if_pos ⟨a, b, b2⟩]) fr r (by omega) (by omega)
    · exact absurd e c
  · rcases hr with ⟨e, _⟩ | ⟨_, q⟩
    · exact absurd e (by omega)
    · exact x_34 hT hR h (fun I' f fl => ⟨_, _, rfl, rfl, hf _ I' (by unfold kDir; rw [if_neg q]) f fl⟩)
/-- Reader.endsWell -/
theorem x_33 (hT : yLT T) (hR : yLR R) (h : cRd I t n lim p) (hf : ∀ I', (tk t n lim p).1 ≠ 0 → cFr I I' → cFl I' (1, (tk t n lim p).2.1) → K (some (yi 0)) (N, T, R, I')) (ho : (tk t n lim p).1 = 0 → K (some (yi 1)) (N, T, R, I)) :
    yW l zSS D cy zFk z (d + 1) 33 bc bs K 0 0 0 [(0, yr (some 1))] [] (N, T, R, I) := by
  obtain ⟨-, -, -, -, -, -, -, g0, -⟩ := cTk_tk h.2.2
  obtain ⟨h1, h2, -⟩ := id h
  refine B_33_0 hT hR ⟨fun c => x_34 hT hR h (fun I' f fl => ⟨_, _, rfl, rfl, fun _ => hf I' (fun q => c (g0.mp q).1) f fl, fun q => absurd rfl q⟩), fun c => ⟨fun c2 => ho (g0.mpr ⟨by omega, by omega⟩), fun c2 => x_34 hT hR h (fun I' f fl => ⟨_, _, rfl, rfl, fun _ => hf I' (fun q => by have := (g0.mp q).2; omega) f fl, fun q => absurd rfl q⟩)⟩⟩
/-- Reader.open -/
theorem x_40 (hT : yLT T) (hR : yLR R) (h1 : I 1 1 = (n : Int)) (hn : n ≤ 940) (hl : lim ≤ 940) (hk : ∀ I', (∀ a b, ¬ (a = 1 ∧ 2 ≤ b ∧ b ≤ 11) → I' a b = I a b) → cRd I' (I 2) n lim 0 → K none (N, T, R, I')) :
    yW l zSS D cy zFk z (d + 6) 40 bc bs K 0 0 0 [(0, yr (some 1)), (1, yi (lim : Int))] [] (N, T, R, I) := by
  refine B_40_0 hT hR (fun I1 e1 I2 e2 I3 e3 I4 e4 => ?_)
  have f : ∀ a b, ¬ (a = 1 ∧ (b = 2 ∨ b = 3 ∨ b = 10 ∨ b = 11)) → I4 a b = I a b := fun a b g => by rw [e4, yU_ne _ _ (by omega), e3, yU_ne _ _ (by omega), e2, yU_ne _ _ (by omega), e1, yU_ne _ _ (by omega)]
  have t4 : I4 2 = I 2 := funext fun j => f 2 j (by omega)
  refine x_31 hT hR (n := n) (lim := lim) (p := 0) (by rw [f 1 1 (by omega)]; exact h1) hn (by rw [e4, yU_ne _ _ (by omega), e3, yU_ne _ _ (by omega), e2, yU_ne _ _ (by omega), e1, yU_eq]) hl (by rw [e4, yU_ne _ _ (by omega), e3, yU_ne _ _ (by omega), e2, yU_eq]; rfl) (Nat.zero_le _) (fun I' g c => ⟨_, rfl, rfl, hk I' (fun a b q => by rw [g a b (by omega)]; exact f a b (by omega)) ⟨by rw [g 1 1 (by omega), f 1 1 (by omega)]; exact h1, ⟨by rw [g 1 2 (by omega), e4, yU_ne _ _ (by omega), e3, yU_ne _ _ (by omega), e2, yU_ne _ _ (by omega), e1, yU_eq], by rw [g 1 10 (by omega), e4, yU_ne _ _ (by omega), e3, yU_eq]⟩, by rw [← t4]; exact c⟩⟩)
end Xr
