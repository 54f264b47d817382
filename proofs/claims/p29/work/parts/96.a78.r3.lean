/-! THE REFERENCE's CONTRACTS, 3: the invariant of what is so in a MINUTE; small acts. -/
/-- where a CHAIR may be; a new model has 0 there, and no width -/
def mAt (I : Nat → Nat → Int) (v : Int) : Prop := v = -1 ∨ mCell (I 104 0) (I 104 1) v ∨ (I 104 0 = 0 ∧ v = 0)
def mInv (I : Nat → Nat → Int) : Prop := mDim I ∧ (0 ≤ I 104 6 ∧ I 104 6 ≤ 3) ∧ (∀ c, c < 100 → 0 ≤ I 104 (210 + c) ∧ I 104 (210 + c) ≤ 1) ∧ (∀ k : Nat, k < 8 → (k : Int) < I 104 2 → mCell (I 104 0) (I 104 1) (I 104 (326 + k)) ∧ mCell (I 104 0) (I 104 1) (I 104 (334 + k))) ∧
  (0 ≤ I 104 461 ∧ I 104 461 ≤ 60) ∧ (∀ k, k < 8 → mAt I (I 104 (470 + k)) ∧ mAt I (I 104 (486 + k))) ∧ mOr I
/-- what acts of a MINUTE may change -/
def mFr (I I' : Nat → Nat → Int) : Prop := ∀ k j, (k ≠ 104 ∨ j < 459 ∨ 926 ≤ j) → k ≠ 109 → k ≠ 110 → k ≠ 111 → k ≠ 112 → (k ≠ 102 ∨ j < 28 ∨ 33 ≤ j) → I' k j = I k j
theorem mFr_rf (I : Nat → Nat → Int) : mFr I I := fun _ _ _ _ _ _ _ _ => rfl
theorem mFr_tr {I I' I2 : Nat → Nat → Int} (h : mFr I I') (h' : mFr I' I2) : mFr I I2 := fun k j a b c d e f => (h' k j a b c d e f).trans (h k j a b c d e f)
theorem mFr_set {I I' : Nat → Nat → Int} (h : mFr I I') {j : Nat} (h1 : 459 ≤ j) (h2 : j < 926) (v : Int) : mFr I (yU I' 104 j v) := fun k i a b c d e f => by
  rw [yU_ne _ _ (by omega)]; exact h k i a b c d e f
theorem mFr_fld {I I' : Nat → Nat → Int} (h : mFr I I') {j : Nat} (h1 : 28 ≤ j) (h2 : j < 33) (v : Int) : mFr I (yU I' 102 j v) := fun k i a b c d e f => by
  rw [yU_ne _ _ (by omega)]; exact h k i a b c d e f
theorem mCell_100 {W H c : Int} (hW : W ≤ 10) (hH : H ≤ 10) (h : mCell W H c) : 0 ≤ c ∧ c < 100 := by unfold mCell at h; omega
theorem mInv_at {I : Nat → Nat → Int} (h : mInv I) {v : Int} (hv : mAt I v) : -1 ≤ v ∧ v < 100 := by
  rcases hv with e | e | e
  · omega
  · have := mCell_100 h.1.2.1 h.1.2.2.2.1 e; omega
  · omega
theorem mInv_set {I : Nat → Nat → Int} (h : mInv I) {j : Nat} {v : Int} (h1 : 458 ≤ j) (h2 : j < 926) (h3 : j = 461 → 0 ≤ v ∧ v ≤ 60) (h4 : 470 ≤ j → j < 478 → mAt I v) (h5 : 486 ≤ j → j < 494 → mAt I v) : mInv (yU I 104 j v) := by
  obtain ⟨a, b, c, d, e, f, g⟩ := h
  have low : ∀ i, i < 458 → yU I 104 j v 104 i = I 104 i := fun i hi => yU_ne _ _ (by omega)
  have at_ : ∀ w, mAt (yU I 104 j v) w ↔ mAt I w := fun w => by unfold mAt; rw [low 0 (by omega), low 1 (by omega)]
  refine ⟨?_, ?_, fun k hk => ?_, fun k hk hlt => ?_, ?_, fun k hk => ?_, fun i hi => ?_⟩
  · unfold mDim; rw [low 0 (by omega), low 1 (by omega), low 2 (by omega)]; exact a
  · rw [low 6 (by omega)]; exact b
  · rw [low _ (by omega)]; exact c k hk
  · rw [low 2 (by omega)] at hlt
    rw [low 0 (by omega), low 1 (by omega), low _ (by omega), low _ (by omega)]; exact d k hk hlt
  · by_cases e1 : j = 461
    · subst e1; rw [yU_eq]; exact h3 rfl
    · rw [yU_ne _ _ (by omega)]; exact e
  · rw [at_, at_]
    obtain ⟨f1, f2⟩ := f k hk
    constructor
    · by_cases e1 : 470 + k = j
      · subst e1; rw [yU_eq]; exact h4 (by omega) (by omega)
      · rw [yU_ne _ _ (by omega)]; exact f1
    · by_cases e1 : 486 + k = j
      · subst e1; rw [yU_eq]; exact h5 (by omega) (by omega)
      · rw [yU_ne _ _ (by omega)]; exact f2
  · rw [yU_ne _ _ (by omega), yU_ne _ _ (by omega)]; exact g i hi
theorem mInv_fld {I : Nat → Nat → Int} (h : mInv I) (k j : Nat) (v : Int) (hk : k ≠ 104) (hk2 : k ≠ 111) (hk3 : k ≠ 112) : mInv (yU I k j v) := by
  have e : ∀ i, yU I k j v 104 i = I 104 i := fun i => yU_ne _ _ (fun q => hk q.1.symm)
  have e1 : ∀ i, yU I k j v 111 i = I 111 i := fun i => yU_ne _ _ (fun q => hk2 q.1.symm)
  have e2 : ∀ i, yU I k j v 112 i = I 112 i := fun i => yU_ne _ _ (fun q => hk3 q.1.symm)
  unfold mInv mDim mAt mOr
  simp only [e, e1, e2]
  exact h
theorem ynar1_rng (x : Int) : -2147483648 ≤ ynar 1 x ∧ ynar 1 x < 2147483648 := y_rng _
section Sm
variable {l : Launch} {D : va_G} {cy : Nat → ClassId} {z d bc bs N : Nat} {T : Nat → Nat × Nat} {R : Nat → Nat → Option Nat} {I : Nat → Nat → Int} {K : yKo}
theorem r_isToCome (hT : yLT T) (hR : yLR R) {k : Nat} (hk8 : k < 8) (hk : ∀ r, r = 0 ∨ r = 1 → (r = if 0 ≤ I 104 (510 + k) then 0 else if mBit (I 102 28) k = 0 then 1 else 0) → K (some (yi r)) (N, T, R, I)) : yW l zSS D cy zFk z (d + 1) 198 bc bs K 0 0 0 [(0, yr (some 102)), (1, yi (k : Int))] [] (N, T, R, I) := by
  refine B_198_0 hT hR ?_
  rw [yadd_eq (x := 510) (by omega) (by omega)]
  have e : ((510 : Int) + (k : Int)).toNat = 510 + k := by omega
  rw [e]
  refine ⟨by omega, by omega, fun c => hk 0 (.inl rfl) (by rw [if_pos c]), fun c => ?_⟩
  refine r_bitOf hT hR ⟨_, _, rfl, rfl, fun c2 => hk 0 (.inl rfl) (by rw [if_neg c, if_neg c2]), fun c2 => hk 1 (.inr rfl) ?_⟩
  rw [if_neg c, if_pos (by omega)]
theorem r_areAllThere (hT : yLT T) (hR : yLR R) (hC : 0 ≤ I 104 2 ∧ I 104 2 ≤ 8) (hk : ∀ r, r = 0 ∨ r = 1 → K (some (yi r)) (N, T, R, I)) : yW l zSS D cy zFk z (d + 2) 157 bc bs K 0 0 0 [(0, yr (some 102))] [] (N, T, R, I) := by
  have loop : ∀ (m k : Nat) (v : Int), k + m = 9 → (v = 0 ∨ v = 1) → (k : Int) ≤ I 104 2 → yW l zSS D cy zFk z (d + 2) 157 bc bs K 0 0 4 [(0, yr (some 102)), (1, yi v), (2, yi (k : Int))] [] (N, T, R, I) := by
    intro m
    induction m with
    | zero => intro k v h1 h2 h3; omega
    | succ m ih =>
      intro k v h1 h2 h3
      refine B_157_4 hT hR ⟨fun _ => ⟨h2, hk v h2⟩, fun c => ?_⟩
      rw [yadd_eq (x := (k : Int)) (by omega) (by omega)]
      have g0 := ih (k + 1) 0 (by omega) (.inl rfl) (by omega)
      have g1 := ih (k + 1) 1 (by omega) (.inr rfl) (by omega)
      exact ⟨fun _ => g0, fun _ => r_isToCome (d := d) hT hR (by omega) (fun r _ _ => ⟨_, _, rfl, rfl, fun _ => g0, fun _ => g1⟩)⟩
  exact B_157_0 hT hR (loop 9 0 1 rfl (.inr rfl) (by omega))
/-- a MEETING is told -/
theorem r_meets (hT : yLT T) (hR : yLR R) {x1 x2 x3 x4 : Int} (hI : mInv I) (hk : ∀ I', mInv I' → mFr I I' → (∀ j, j < 459 ∨ 462 ≤ j → j < 626 → I' 104 j = I 104 j) → (∀ k j, k ≠ 104 → I' k j = I k j) → K none (N, T, R, I')) : yW l zSS D cy zFk z d 213 bc bs K 0 0 0 [(0, yr (some 102)), (1, yi x1), (2, yi x2), (3, yi x3), (4, yi x4)] [] (N, T, R, I) := by
  have hK := hI.2.2.2.2.1
  refine B_213_0 hT hR ?_
  intro I1 e1
  have i1 : mInv I1 := by rw [e1]; exact mInv_set hI (by omega) (by omega) (by omega) (by omega) (by omega)
  have f1 : mFr I I1 := by rw [e1]; exact mFr_set (mFr_rf I) (by omega) (by omega) _
  have v1 : I1 104 461 = I 104 461 := by rw [e1, yU_ne _ _ (by omega)]
  have w1 : ∀ k j, ¬ (k = 104 ∧ j = 459) → I1 k j = I k j := fun k j h => by rw [e1, yU_ne _ _ h]
  rw [v1]
  have em : ymul 5 (I 104 461) = 5 * I 104 461 := ymul_eq (by omega) (by omega)
  rw [em, yadd_eq (x := 626) (by omega) (by omega), yadd_eq (y := 1) (by omega) (by omega), yadd_eq (y := 2) (by omega) (by omega), yadd_eq (y := 3) (by omega) (by omega), yadd_eq (y := 4) (by omega) (by omega)]
  refine ⟨fun c => ⟨by omega, by omega, ?_⟩, fun c => ?_⟩
  · intro I5 e5
    refine ⟨by omega, by omega, ?_⟩
    intro I8 e8
    refine ⟨by omega, by omega, ?_⟩
    intro I11 e11
    refine ⟨by omega, by omega, ?_⟩
    intro I14 e14
    refine ⟨by omega, by omega, ?_⟩
    intro I17 e17 I18 e18
    have v17 : I17 104 461 = I 104 461 := by
      rw [e17, yU_ne _ _ (by omega), e14, yU_ne _ _ (by omega), e11, yU_ne _ _ (by omega), e8, yU_ne _ _ (by omega), e5, yU_ne _ _ (by omega), v1]
    rw [v17, yadd_eq (by omega) (by omega), ynar1_eq (by omega) (by omega)] at e18
    have i5 : mInv I5 := by rw [e5]; exact mInv_set i1 (by omega) (by omega) (by omega) (by omega) (by omega)
    have i8 : mInv I8 := by rw [e8]; exact mInv_set i5 (by omega) (by omega) (by omega) (by omega) (by omega)
    have i11 : mInv I11 := by rw [e11]; exact mInv_set i8 (by omega) (by omega) (by omega) (by omega) (by omega)
    have i14 : mInv I14 := by rw [e14]; exact mInv_set i11 (by omega) (by omega) (by omega) (by omega) (by omega)
    have i17 : mInv I17 := by rw [e17]; exact mInv_set i14 (by omega) (by omega) (by omega) (by omega) (by omega)
    refine hk I18 ?_ ?_ ?_ ?_
    · rw [e18]; exact mInv_set i17 (by omega) (by omega) (by omega) (by omega) (by omega)
    · rw [e18, e17, e14, e11, e8, e5]
      exact mFr_set (mFr_set (mFr_set (mFr_set (mFr_set (mFr_set f1 (by omega) (by omega) _) (by omega) (by omega) _) (by omega) (by omega) _) (by omega) (by omega) _) (by omega) (by omega) _) (by omega) (by omega) _
    · intro j hj1 hj2
      rw [e18, yU_ne _ _ (by omega), e17, yU_ne _ _ (by omega), e14, yU_ne _ _ (by omega), e11, yU_ne _ _ (by omega), e8, yU_ne _ _ (by omega), e5, yU_ne _ _ (by omega)]
      exact w1 104 j (by omega)
    · intro k j hk4
      rw [e18, yU_ne _ _ (by omega), e17, yU_ne _ _ (by omega), e14, yU_ne _ _ (by omega), e11, yU_ne _ _ (by omega), e8, yU_ne _ _ (by omega), e5, yU_ne _ _ (by omega)]
      exact w1 k j (by omega)
  · exact hk I1 i1 f1 (fun j hj _ => w1 104 j (by omega)) (fun k j hk4 => w1 k j (by omega))
/-- a STEP -/
theorem r_steps (hT : yLT T) (hR : yLR R) {k : Nat} {x2 : Int} (hk8 : k < 8) (hc : mCell (I 104 0) (I 104 1) x2) (hI : mInv I) (hk : ∀ I', mInv I' → mFr I I' → (∀ j, I' 111 j = I 111 j ∧ I' 112 j = I 112 j) → K none (N, T, R, I')) : yW l zSS D cy zFk z d 243 bc bs K 0 0 0 [(0, yr (some 102)), (1, yi (k : Int)), (2, yi x2)] [] (N, T, R, I) := by
  obtain ⟨c0, c1⟩ := mCell_100 hI.1.2.1 hI.1.2.2.2.1 hc
  obtain ⟨a1, a2⟩ := hI.2.2.2.2.2.1 k hk8
  have ar := mInv_at hI a1
  refine B_243_0 hT hR ?_
  rw [yadd_eq (x := 470) (by omega) (by omega), yadd_eq (x := 486) (by omega) (by omega), yadd_eq (x := 478) (by omega) (by omega), yadd_eq (x := 110) (by omega) (by omega), yadd_eq (x := 518) (by omega) (by omega)]
  have e1 : ((470 : Int) + (k : Int)).toNat = 470 + k := by omega
  have e2 : ((486 : Int) + (k : Int)).toNat = 486 + k := by omega
  have e3 : ((478 : Int) + (k : Int)).toNat = 478 + k := by omega
  have e4 : ((518 : Int) + (k : Int)).toNat = 518 + k := by omega
  rw [e1, e2, e3, e4]
  refine ⟨by omega, by omega, by omega, by omega, ?_⟩
  intro I5 g5
  rw [ynar1_eq (by omega) (by omega)] at g5
  have i5 : mInv I5 := by rw [g5]; exact mInv_set hI (by omega) (by omega) (by omega) (by omega) (fun _ _ => a1)
  refine ⟨by omega, by omega, ?_⟩
  intro I8 g8
  rw [ynar1_eq (by omega) (by omega)] at g8
  have hc5 : mAt I5 x2 := by
    right; left
    rw [g5, yU_ne _ _ (by omega), yU_ne _ _ (by omega)]; exact hc
  have i8 : mInv I8 := by rw [g8]; exact mInv_set i5 (by omega) (by omega) (by omega) (fun _ _ => hc5) (by omega)
  refine ⟨by omega, by omega, by omega, by omega, ?_⟩
  intro I13 g13
  have i13 : mInv I13 := by rw [g13]; exact mInv_set i8 (by omega) (by omega) (by omega) (by omega) (by omega)
  refine ⟨by omega, by omega, by omega, by omega, ?_⟩
  intro I18 g18
  refine hk I18 ?_ ?_ ?_
  · rw [g18]; exact mInv_set i13 (by omega) (by omega) (by omega) (by omega) (by omega)
  · rw [g18, g13, g8, g5]
    exact mFr_set (mFr_set (mFr_set (mFr_set (mFr_rf I) (by omega) (by omega) _) (by omega) (by omega) _) (by omega) (by omega) _) (by omega) (by omega) _
  · intro j
    rw [g18, yU_ne _ _ (by omega), yU_ne _ _ (by omega), g13, yU_ne _ _ (by omega), yU_ne _ _ (by omega), g8, yU_ne _ _ (by omega), yU_ne _ _ (by omega), g5, yU_ne _ _ (by omega), yU_ne _ _ (by omega)]
    exact ⟨rfl, rfl⟩
end Sm
