/-! THE REFERENCE's CONTRACTS, 17: what is so of what is read; wrappers of contracts above. -/
/-- the byte that is next; none: -1 -/
def mPk (X : Nat → Nat → Int) : Int := if X 102 3 ≤ X 102 4 then -1 else yand (X 103 (X 102 4).toNat) 255
theorem mPk_eq {I I' : Nat → Nat → Int} (h : ∀ k j, (k = 103 ∨ (k = 102 ∧ (j = 3 ∨ j = 4))) → I' k j = I k j) : mPk I' = mPk I := by
  unfold mPk
  rw [h 102 3 (by omega), h 102 4 (by omega), h 103 _ (by omega)]
theorem yand_255 (x : Int) : 0 ≤ yand x 255 ∧ yand x 255 ≤ 255 := by
  unfold yand
  generalize y32 x = a
  have e : (a &&& y32 255).toInt = ((a &&& y32 255).toBitVec).toInt := rfl
  have h : (a &&& y32 255).toBitVec.toNat ≤ 255 := by
    have : (a &&& y32 255).toBitVec = a.toBitVec &&& 255#32 := rfl
    rw [this, BitVec.toNat_and]
    exact Nat.and_le_right
  rw [e, BitVec.toInt_eq_toNat_cond]
  split <;> omega
/-- the row of the land that is read -/
def mH (X : Nat → Nat → Int) : Prop := (0 ≤ X 105 0 ∧ X 105 0 ≤ 10 ∧ 0 ≤ X 105 1 ∧ X 105 1 ≤ 10 ∧ 0 ≤ X 105 2 ∧ X 105 2 ≤ 8 ∧ 0 ≤ X 105 6 ∧ X 105 6 ≤ 3) ∧ (∀ c, c < 100 → 0 ≤ X 105 (210 + c) ∧ X 105 (210 + c) ≤ 1) ∧ (∀ k : Nat, k < 8 → (k : Int) < X 105 2 → mCell (X 105 0) (X 105 1) (X 105 (326 + k)) ∧ mCell (X 105 0) (X 105 1) (X 105 (334 + k)))
theorem mH_eq {I I' : Nat → Nat → Int} (h : mH I) (e : ∀ k j, (k = 105) → I' k j = I k j) : mH I' := by
  have e1 : ∀ j, I' 105 j = I 105 j := fun j => e 105 j rfl
  unfold mH
  simp only [e1]
  exact h
theorem mH_set {I : Nat → Nat → Int} (h : mH I) {j : Nat} {v : Int} (c : (j = 0 ∨ j = 1 → I 105 2 = 0 ∧ 0 ≤ v ∧ v ≤ 10) ∧ (j = 6 → 0 ≤ v ∧ v ≤ 3) ∧ j ≠ 2 ∧ (210 ≤ j ∧ j < 310 → 0 ≤ v ∧ v ≤ 1) ∧ (326 ≤ j ∧ j < 334 → I 105 2 ≤ (j : Int) - 326) ∧ (334 ≤ j ∧ j < 342 → I 105 2 ≤ (j : Int) - 334)) : mH (yU I 105 j v) := by
  obtain ⟨⟨a0, a1, a2, a3, a4, a5, a6, a7⟩, b, d⟩ := h
  obtain ⟨c1, c2, c3, c4, c5, c6⟩ := c
  have e2 : yU I 105 j v 105 2 = I 105 2 := yU_ne _ _ (by omega)
  refine ⟨⟨?_, ?_, ?_, ?_, ?_, ?_, ?_, ?_⟩, fun q hq => ?_, fun k hk hlt => ?_⟩
  · by_cases e : j = 0
    · subst e; rw [yU_eq]; omega
    · rw [yU_ne _ _ (by omega)]; exact a0
  · by_cases e : j = 0
    · subst e; rw [yU_eq]; omega
    · rw [yU_ne _ _ (by omega)]; exact a1
  · by_cases e : j = 1
    · subst e; rw [yU_eq]; omega
    · rw [yU_ne _ _ (by omega)]; exact a2
  · by_cases e : j = 1
    · subst e; rw [yU_eq]; omega
    · rw [yU_ne _ _ (by omega)]; exact a3
  · rw [e2]; exact a4
  · rw [e2]; exact a5
  · by_cases e : j = 6
    · subst e; rw [yU_eq]; omega
    · rw [yU_ne _ _ (by omega)]; exact a6
  · by_cases e : j = 6
    · subst e; rw [yU_eq]; omega
    · rw [yU_ne _ _ (by omega)]; exact a7
  · by_cases e : j = 210 + q
    · subst e; rw [yU_eq]; omega
    · rw [yU_ne _ _ (by omega)]; exact b q hq
  · rw [e2] at hlt
    have d' := d k hk hlt
    have n1 : j ≠ 326 + k := fun q => by have := c5 (by omega); omega
    have n2 : j ≠ 334 + k := fun q => by have := c6 (by omega); omega
    have n3 : j ≠ 0 := fun q => by have := (c1 (.inl q)).1; omega
    have n4 : j ≠ 1 := fun q => by have := (c1 (.inr q)).1; omega
    rw [yU_ne _ _ (by omega), yU_ne _ _ (by omega), yU_ne _ _ (by omega), yU_ne _ _ (by omega)]
    exact d'
/-- a CHAIR more -/
theorem mH_chair {I : Nat → Nat → Int} (h : mH I) {c : Int} (hc : I 105 2 = c) (h8 : c < 8) (a : 0 ≤ I 105 (326 + c).toNat ∧ I 105 (326 + c).toNat % 10 < I 105 0 ∧ I 105 (326 + c).toNat / 10 < I 105 1) (b : 0 ≤ I 105 (334 + c).toNat ∧ I 105 (334 + c).toNat % 10 < I 105 0 ∧ I 105 (334 + c).toNat / 10 < I 105 1) : mH (yU I 105 2 (c + 1)) := by
  obtain ⟨⟨a0, a1, a2, a3, a4, a5, a6, a7⟩, b', d⟩ := h
  have ne : ∀ j, j ≠ 2 → yU I 105 2 (c + 1) 105 j = I 105 j := fun j hj => yU_ne _ _ (by omega)
  have e2 : yU I 105 2 (c + 1) 105 2 = c + 1 := yU_eq _ _ _ _
  refine ⟨?_, fun q hq => ?_, fun k hk hlt => ?_⟩
  · rw [ne 0 (by omega), ne 1 (by omega), ne 6 (by omega), e2]; omega
  · rw [ne _ (by omega)]; exact b' q hq
  · rw [e2] at hlt
    rw [ne 0 (by omega), ne 1 (by omega), ne _ (by omega), ne _ (by omega)]
    by_cases e : (k : Int) = c
    · have e1 : (326 + c).toNat = 326 + k := by omega
      have e3 : (334 + c).toNat = 334 + k := by omega
      rw [e1] at a; rw [e3] at b
      exact ⟨a, b⟩
    · exact d k hk (by omega)
/-- the law's WAYS, as bits, and how many -/
def mLx (had laws : Int) : Prop := (had = 0 ∧ laws = 0) ∨ (had = 1 ∧ laws = 1) ∨ (had = 2 ∧ laws = 1) ∨ (had = 4 ∧ laws = 1) ∨ (had = 3 ∧ laws = 2) ∨ (had = 5 ∧ laws = 2) ∨ (had = 6 ∧ laws = 2) ∨ (had = 7 ∧ laws = 3)
theorem mLx_or {had laws way : Int} (h : mLx had laws) (hw : way = 0 ∨ way = 1 ∨ way = 2) (hb : mBit had way = 0) : laws ≤ 2 ∧ mLx (yor had (yshl 1 way)) (laws + 1) := by
  unfold mLx at *
  rcases h with ⟨rfl, rfl⟩ | ⟨rfl, rfl⟩ | ⟨rfl, rfl⟩ | ⟨rfl, rfl⟩ | ⟨rfl, rfl⟩ | ⟨rfl, rfl⟩ | ⟨rfl, rfl⟩ | ⟨rfl, rfl⟩ <;> rcases hw with rfl | rfl | rfl <;> first | (exfalso; revert hb; decide) | decide
section Sw
variable {l : Launch} {D : va_G} {cy : Nat → ClassId} {z d bc bs N : Nat} {T : Nat → Nat × Nat} {R : Nat → Nat → Option Nat} {I : Nat → Nat → Int} {K : yKo}
theorem w_191 (hT : yLT T) (hR : yLR R) {x0 x1 x2 : Int} (hk : ∀ r, ((r = 1 ∧ x1 ≤ x0 ∧ x0 ≤ x2) ∨ (r = 0 ∧ ¬ (x1 ≤ x0 ∧ x0 ≤ x2))) → K (some (yi r)) (N, T, R, I)) : yW l zSS D cy zFk z d 191 bc bs K 0 0 0 [(0, yi x0), (1, yi x1), (2, yi x2)] [] (N, T, R, I) := by
  refine r_isIn hT hR (hk _ ?_)
  split
  · exact .inl ⟨rfl, by assumption⟩
  · exact .inr ⟨rfl, by assumption⟩
theorem w_164 (hT : yLT T) (hR : yLR R) {x0 x1 : Int} (hk : ∀ r, (r = mBit x0 x1 ∧ (r = 0 ∨ r = 1)) → K (some (yi r)) (N, T, R, I)) : yW l zSS D cy zFk z d 164 bc bs K 0 0 0 [(0, yi x0), (1, yi x1)] [] (N, T, R, I) := by
  refine r_bitOf hT hR (hk _ ⟨rfl, ?_⟩)
  unfold mBit; split <;> omega
theorem w_225 (hT : yLT T) (hR : yLR R) (h0 : 0 ≤ I 102 3 ∧ I 102 3 ≤ 940 ∧ 0 ≤ I 102 4 ∧ I 102 4 ≤ 940) (hk : ∀ r, (r = mPk I ∧ -1 ≤ r ∧ r ≤ 255 ∧ (0 ≤ r → I 102 4 < I 102 3)) → K (some (yi r)) (N, T, R, I)) : yW l zSS D cy zFk z d 225 bc bs K 0 0 0 [(0, yr (some 102))] [] (N, T, R, I) := by
  have g := yand_255 (I 103 (I 102 4).toNat)
  refine B_225_0 hT hR ⟨fun c => hk _ ⟨?_, by omega, by omega, by omega⟩, fun c => ⟨by omega, by omega, hk _ ⟨?_, by omega, by omega, by omega⟩⟩⟩
  · unfold mPk; rw [if_pos c]
  · unfold mPk; rw [if_neg c]
end Sw
