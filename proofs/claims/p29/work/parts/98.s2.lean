/-! THE REFERENCE's CONTRACTS: images. -/
/-- all that is so of the row of what is so -/
def mAll (X : Nat → Nat → Int) : Prop := mInv X ∧ (0 ≤ X 104 458 ∧ X 104 458 ≤ 500) ∧ mPl X ∧ mCo X
def mHg (g : Nat → Int) : Nat → Nat → Int := fun k j => if k = 104 then g j else 0
theorem mInv_lt {I I' : Nat → Nat → Int} (h : mInv I) (e : ∀ j, j < 1188 → I' 104 j = I 104 j) (o : mOr I') : mInv I' := by
  obtain ⟨a, b, c, d, f, g, _⟩ := h
  have at_ : ∀ v, mAt I' v ↔ mAt I v := fun v => by unfold mAt; rw [e 0 (by omega), e 1 (by omega)]
  refine ⟨?_, ?_, fun q hq => ?_, fun k hk hlt => ?_, ?_, fun k hk => ?_, o⟩
  · unfold mDim; rw [e 0 (by omega), e 1 (by omega), e 2 (by omega)]; exact a
  · rw [e 6 (by omega)]; exact b
  · rw [e _ (by omega)]; exact c q hq
  · rw [e 2 (by omega)] at hlt
    rw [e 0 (by omega), e 1 (by omega), e _ (by omega), e _ (by omega)]; exact d k hk hlt
  · rw [e 461 (by omega)]; exact f
  · rw [at_, at_, e _ (by omega), e _ (by omega)]; exact g k hk
theorem mPl_lt {I I' : Nat → Nat → Int} (h : mPl I) (e : ∀ j, 926 ≤ j → j < 1007 → I' 104 j = I 104 j) : mPl I' := by
  obtain ⟨a, b, c⟩ := h
  have e1 := e 926 (by omega) (by omega)
  refine ⟨by omega, by omega, fun i hi => ?_⟩
  rw [e _ (by omega) (by omega), e _ (by omega) (by omega)]
  exact c i (by omega)
theorem mCo_lt {I I' : Nat → Nat → Int} (h : mCo I) (e : ∀ j, 1007 ≤ j → j < 1188 → I' 104 j = I 104 j) : mCo I' := by
  obtain ⟨c, n, a, b, o, dd⟩ := h
  exact ⟨c, n, by rw [e 1007 (by omega) (by omega)]; exact a, b, mOp_cg (fun j _ => e _ (by omega) (by omega)) o, by rw [mD_cg (g := fun j => I 104 (1008 + j)) c (fun j _ => e _ (by omega) (by omega))]; exact dd⟩
theorem mAll_lt {I I' : Nat → Nat → Int} (h : mAll I) (e : ∀ j, j < 1188 → I' 104 j = I 104 j) (o : mOr I') : mAll I' :=
  ⟨mInv_lt h.1 e o, by rw [e 458 (by omega)]; exact h.2.1, mPl_lt h.2.2.1 (fun j _ hj => e j (by omega)), mCo_lt h.2.2.2 (fun j _ hj => e j hj)⟩
theorem mHg_or (g : Nat → Int) : mOr (mHg g) := fun i _ => by
  have e : ∀ k j, k ≠ 104 → mHg g k j = 0 := fun k j h => if_neg h
  rw [e 111 i (by decide), e 112 i (by decide)]; omega
theorem mHg_row (g : Nat → Int) (j : Nat) : mHg g 104 j = g j := if_pos rfl
/-- what is kept in images is such a row -/
def mKe (I : Nat → Nat → Int) : Prop := ∀ k, k < 2 → I 125 k = 0 ∨ mAll (mHg (fun j => I 123 (1188 * k + j)))
theorem mKe_cg {g g' : Nat → Int} (h : mAll (mHg g)) (e : ∀ j, j < 1188 → g' j = g j) : mAll (mHg g') := mAll_lt h (fun j hj => by rw [mHg_row, mHg_row]; exact e j hj) (mHg_or g')
section Sm
variable {l : Launch} {D : va_G} {cy : Nat → ClassId} {z d bc bs N : Nat} {T : Nat → Nat × Nat} {R : Nat → Nat → Option Nat} {I : Nat → Nat → Int} {K : yKo}
theorem r_image (hT : yLT T) (hR : yLR R) (hN : 126 ≤ N) {x1 : Int} (hA : mAll I) (hK : mKe I) (hk : ∀ r I', mKe I' → (∀ k j, k ≠ 123 → k ≠ 124 → k ≠ 125 → (k ≠ 102 ∨ j ≠ 0) → I' k j = I k j) → ((r = 1 ∧ 0 ≤ x1 ∧ x1 ≤ 1 ∧ ∀ j, I' 125 j = if j = x1.toNat then 1 else I 125 j) ∨ (r = 0 ∧ ¬ (0 ≤ x1 ∧ x1 ≤ 1) ∧ ∀ j, I' 125 j = I 125 j)) → K (some (yi r)) (N, T, R, I')) : yW l zSS D cy zFk z (d + 1) 184 bc bs K 0 0 0 [(0, yr (some 102)), (1, yi x1)] [] (N, T, R, I) := by
  refine B_184_0 hT hR ?_
  intro I1 e1
  have n1 : ∀ k j, (k ≠ 102 ∨ j ≠ 0) → I1 k j = I k j := fun k j h => by rw [e1, yU_ne _ _ (by omega)]
  have K1 : mKe I1 := fun k hk => by
    rcases hK k hk with e | e
    · left; rw [n1 125 k (by omega)]; exact e
    · right; exact mKe_cg e (fun j _ => n1 123 _ (by omega))
  refine w_191 hT hR (fun r3 q3 => ⟨_, _, rfl, rfl, fun c3 => ?_, fun c3 => hk _ I1 K1 (fun k j _ _ _ h => n1 k j h) (.inr ⟨rfl, by omega, fun j => n1 125 j (by omega)⟩)⟩)
  obtain ⟨u, rfl⟩ : ∃ u : Nat, x1 = (u : Int) := ⟨x1.toNat, by omega⟩
  have hu : u < 2 := by omega
  have l51 : ∀ (m : Nat) (X : Nat → Nat → Int) (i : Nat), i + m = 8 → (∀ j, j < 1188 → X 123 (1188 * u + j) = I 104 j) → (∀ j, (j < 1188 * u ∨ 1188 * u + 1188 ≤ j) → X 123 j = I 123 j) → (∀ k j, k ≠ 123 → k ≠ 124 → X k j = I1 k j) → yW l zSS D cy zFk z (d + 1) 184 bc bs K 0 0 51 [(0, yr (some 102)), (1, yi (u : Int)), (2, yi (i : Int))] [] (N, T, R, X) := by
    intro m
    induction m with
    | zero =>
      intro X i h1 h2 h3 h4
      refine B_184_51 hT hR ⟨fun _ => ⟨by omega, by omega, ?_⟩, fun q => absurd q (by omega)⟩
      intro I4 e4
      rw [ynar3_1] at e4
      rw [show ((u : Int)).toNat = u by omega] at e4
      have n4 : ∀ k j, (k ≠ 125 ∨ j ≠ u) → I4 k j = X k j := fun k j h => by rw [e4, yU_ne _ _ (by omega)]
      refine hk 1 I4 (fun k hk => ?_) (fun k j a b c e => by rw [n4 k j (by omega), h4 k j a b]; exact n1 k j e) (.inl ⟨rfl, by omega, by omega, fun j => ?_⟩)
      · by_cases e : k = u
        · subst e
          right
          refine mAll_lt hA (fun j hj => ?_) (mHg_or _)
          rw [mHg_row, n4 123 _ (by omega)]; exact h2 j hj
        · rcases hK k hk with g | g
          · left; rw [n4 125 k (by omega), h4 125 k (by omega) (by omega), n1 125 k (by omega)]; exact g
          · right; refine mKe_cg g (fun j hj => ?_)
            rw [n4 123 _ (by omega)]; exact h3 _ (by omega)
      · rw [show ((u : Int)).toNat = u by omega]
        by_cases e : j = u
        · subst e; rw [e4, yU_eq, if_pos rfl]
        · rw [if_neg e, n4 125 j (by omega), h4 125 j (by omega) (by omega)]; exact n1 125 j (by omega)
    | succ m ih =>
      intro X i h1 h2 h3 h4
      refine B_184_51 hT hR ⟨fun q => absurd q (by omega), fun _ => ?_⟩
      rw [ymul_eq (x := 8) (by omega) (by omega), yadd_eq (x := 8 * (u : Int)) (by omega) (by omega), yadd_eq (x := (i : Int)) (by omega) (by omega)]
      refine ⟨by omega, by omega, by omega, by omega, ?_⟩
      intro I9 e9
      have n9 : ∀ k j, k ≠ 124 → I9 k j = X k j := fun k j h => by rw [e9, yU_ne _ _ (by omega)]
      exact ih I9 (i + 1) (by omega) (fun j hj => by rw [n9 123 _ (by omega)]; exact h2 j hj) (fun j hj => by rw [n9 123 _ (by omega)]; exact h3 j hj) (fun k j a b => by rw [n9 k j b]; exact h4 k j a b)
  have l18 : ∀ (m : Nat) (X : Nat → Nat → Int) (i : Nat), i + m = 1188 → (∀ j, j < i → X 123 (1188 * u + j) = I 104 j) → (∀ j, (j < 1188 * u ∨ 1188 * u + 1188 ≤ j) → X 123 j = I 123 j) → (∀ k j, k ≠ 123 → X k j = I1 k j) → yW l zSS D cy zFk z (d + 1) 184 bc bs K 0 0 18 [(0, yr (some 102)), (1, yi (u : Int)), (2, yi (i : Int))] [] (N, T, R, X) := by
    intro m
    induction m with
    | zero => intro X i h1 h2 h3 h4; exact B_184_18 hT hR ⟨fun _ => l51 8 X 0 rfl (fun j hj => h2 j (by omega)) h3 (fun k j a _ => h4 k j a), fun q => absurd q (by omega)⟩
    | succ m ih =>
      intro X i h1 h2 h3 h4
      refine e_ri (k := 104) (n := 1188) (j := i) (c0 := 1) (hT 104 rfl) (.inr (.inl rfl)) (by omega) (show 104 < N by omega) (fun q1 q2 => ?_)
      have q1 : -2147483648 ≤ X 104 i := q1
      have q2 : X 104 i < 2147483648 := q2
      refine B_184_18 hT hR ⟨fun q => absurd q (by omega), fun _ => ?_⟩
      rw [ymul_eq (x := 1188) (by omega) (by omega), yadd_eq (x := 1188 * (u : Int)) (by omega) (by omega), yadd_eq (x := (i : Int)) (by omega) (by omega), show ((i : Int)).toNat = i by omega, show (1188 * (u : Int) + (i : Int)).toNat = 1188 * u + i by omega]
      refine ⟨by omega, by omega, by omega, by omega, ?_⟩
      intro I6 e6
      rw [ynar1_eq q1 q2, h4 104 i (by omega), n1 104 i (by omega)] at e6
      refine ih I6 (i + 1) (by omega) (fun j hj => ?_) (fun j hj => ?_) (fun k j a => ?_)
      · rw [e6]
        by_cases e : j = i
        · subst e; rw [yU_eq]
        · rw [yU_ne _ _ (by omega)]; exact h2 j (by omega)
      · rw [e6, yU_ne _ _ (by omega)]; exact h3 j hj
      · rw [e6, yU_ne _ _ (by omega)]; exact h4 k j a
  exact l18 1188 I1 0 rfl (fun j hj => absurd hj (by omega)) (fun j _ => n1 123 j (by omega)) (fun _ _ _ => rfl)
theorem r_restore (hT : yLT T) (hR : yLR R) (hN : 126 ≤ N) {x1 : Int} (hK : mKe I) (hO : mOr I) (hk : ∀ r I', ((r = 0 ∧ ¬ (0 ≤ x1 ∧ x1 ≤ 1 ∧ I 125 x1.toNat ≠ 0) ∧ ∀ k j, (k ≠ 102 ∨ j ≠ 0) → I' k j = I k j) ∨ (r = 1 ∧ (0 ≤ x1 ∧ x1 ≤ 1 ∧ I 125 x1.toNat ≠ 0) ∧ mAll I' ∧ I' 102 35 = 0 ∧ ∀ k j, k ≠ 104 → k ≠ 107 → (k ≠ 102 ∨ (j ≠ 0 ∧ j ≠ 35)) → I' k j = I k j)) → K (some (yi r)) (N, T, R, I')) : yW l zSS D cy zFk z (d + 1) 231 bc bs K 0 0 0 [(0, yr (some 102)), (1, yi x1)] [] (N, T, R, I) := by
  refine B_231_0 hT hR ?_
  intro I1 e1
  have n1 : ∀ k j, (k ≠ 102 ∨ j ≠ 0) → I1 k j = I k j := fun k j h => by rw [e1, yU_ne _ _ (by omega)]
  refine w_191 hT hR (fun r3 q3 => ⟨_, _, rfl, rfl, fun c3 => hk _ I1 (.inl ⟨rfl, by omega, n1⟩), fun c3 => ?_⟩)
  obtain ⟨u, rfl⟩ : ∃ u : Nat, x1 = (u : Int) := ⟨x1.toNat, by omega⟩
  have hu : u < 2 := by omega
  have c125 : I1 125 ((u : Int)).toNat = I 125 ((u : Int)).toNat := n1 125 _ (by omega)
  refine ⟨by omega, by omega, fun c => ?_, fun c => hk _ I1 (.inl ⟨rfl, by omega, n1⟩)⟩
  have hA : mAll (mHg (fun j => I 123 (1188 * u + j))) := by
    rcases hK u hu with g | g
    · rw [show ((u : Int)).toNat = u by omega] at c125 c; omega
    · exact g
  have l60 : ∀ (m : Nat) (X : Nat → Nat → Int) (i : Nat), i + m = 8 → (∀ j, j < 1188 → X 104 j = I 123 (1188 * u + j)) → (∀ k j, k ≠ 104 → k ≠ 107 → X k j = I1 k j) → yW l zSS D cy zFk z (d + 1) 231 bc bs K 0 0 60 [(0, yr (some 102)), (1, yi (u : Int)), (2, yi (i : Int))] [] (N, T, R, X) := by
    intro m
    induction m with
    | zero =>
      intro X i h1 h2 h4
      refine B_231_60 hT hR ⟨fun _ => ?_, fun q => absurd q (by omega)⟩
      intro I2 e2
      have n2 : ∀ k j, (k ≠ 102 ∨ j ≠ 35) → I2 k j = X k j := fun k j h => by rw [e2, yU_ne _ _ (by omega)]
      refine hk 1 I2 (.inr ⟨rfl, ⟨by omega, by omega, by omega⟩, mAll_lt hA (fun j hj => by rw [n2 104 j (by omega), mHg_row]; exact h2 j hj) (fun i hi => ?_), by rw [e2, yU_eq], fun k j a b c' => ?_⟩)
      · rw [n2 111 i (by omega), n2 112 i (by omega), h4 111 i (by omega) (by omega), h4 112 i (by omega) (by omega), n1 111 i (by omega), n1 112 i (by omega)]; exact hO i hi
      · rw [n2 k j (by omega), h4 k j a b]; exact n1 k j (by omega)
    | succ m ih =>
      intro X i h1 h2 h4
      refine B_231_60 hT hR ⟨fun q => absurd q (by omega), fun _ => ?_⟩
      rw [ymul_eq (x := 8) (by omega) (by omega), yadd_eq (x := 8 * (u : Int)) (by omega) (by omega), yadd_eq (x := (i : Int)) (by omega) (by omega)]
      refine ⟨by omega, by omega, by omega, by omega, ?_⟩
      intro I7 e7
      have n7 : ∀ k j, k ≠ 107 → I7 k j = X k j := fun k j h => by rw [e7, yU_ne _ _ (by omega)]
      exact ih I7 (i + 1) (by omega) (fun j hj => by rw [n7 104 j (by omega)]; exact h2 j hj) (fun k j a b => by rw [n7 k j b]; exact h4 k j a b)
  have l27 : ∀ (m : Nat) (X : Nat → Nat → Int) (i : Nat), i + m = 1188 → (∀ j, j < i → X 104 j = I 123 (1188 * u + j)) → (∀ k j, k ≠ 104 → X k j = I1 k j) → yW l zSS D cy zFk z (d + 1) 231 bc bs K 0 0 27 [(0, yr (some 102)), (1, yi (u : Int)), (2, yi (i : Int))] [] (N, T, R, X) := by
    intro m
    induction m with
    | zero => intro X i h1 h2 h4; exact B_231_27 hT hR ⟨fun _ => l60 8 X 0 rfl (fun j hj => h2 j (by omega)) (fun k j a _ => h4 k j a), fun q => absurd q (by omega)⟩
    | succ m ih =>
      intro X i h1 h2 h4
      refine e_ri (k := 123) (n := 2376) (j := 1188 * u + i) (c0 := 1) (hT 123 rfl) (.inr (.inl rfl)) (by omega) (show 123 < N by omega) (fun q1 q2 => ?_)
      have q1 : -2147483648 ≤ X 123 (1188 * u + i) := q1
      have q2 : X 123 (1188 * u + i) < 2147483648 := q2
      refine B_231_27 hT hR ⟨fun q => absurd q (by omega), fun _ => ?_⟩
      rw [ymul_eq (x := 1188) (by omega) (by omega), yadd_eq (x := 1188 * (u : Int)) (by omega) (by omega), yadd_eq (x := (i : Int)) (by omega) (by omega), show ((i : Int)).toNat = i by omega, show (1188 * (u : Int) + (i : Int)).toNat = 1188 * u + i by omega]
      refine ⟨by omega, by omega, by omega, by omega, ?_⟩
      intro I6 e6
      rw [ynar1_eq q1 q2, h4 123 _ (by omega), n1 123 _ (by omega)] at e6
      refine ih I6 (i + 1) (by omega) (fun j hj => ?_) (fun k j a => ?_)
      · rw [e6]
        by_cases e : j = i
        · subst e; rw [yU_eq]
        · rw [yU_ne _ _ (by omega)]; exact h2 j (by omega)
      · rw [e6, yU_ne _ _ (by omega)]; exact h4 k j a
  exact l27 1188 I1 0 rfl (fun j hj => absurd hj (by omega)) (fun _ _ _ => rfl)
/-- TORCHES: rows in hand -/
def mPt (I I' : Nat → Nat → Int) : Prop := ∀ q j, q ≠ 119 → q ≠ 109 → q ≠ 110 → q ≠ 111 → q ≠ 112 → q ≠ 114 → (q ≠ 102 ∨ (j ≠ 0 ∧ (j < 28 ∨ 33 ≤ j))) → I' q j = I q j
theorem yx_rng : ∀ i : Fin 4, (0 ≤ yxor (i : Nat) 2 ∧ yxor (i : Nat) 2 ≤ 3) ∧ (0 ≤ yxor (i : Nat) 1 ∧ yxor (i : Nat) 1 ≤ 3) := by decide
theorem r_torches (hT : yLT T) (hR : yLR R) (hN : 126 ≤ N) {x1 x2 x3 x4 : Int} (hI : mInv I) (hm : 0 ≤ I 104 458 ∧ I 104 458 ≤ 500) (hk : ∀ r I', mInv I' → mPt I I' → K (some (yi r)) (N, T, R, I')) : yW l zSS D cy zFk z (d + 7) 248 bc bs K 0 0 0 [(0, yr (some 102)), (1, yi x1), (2, yi x2), (3, yi x3), (4, yi x4)] [] (N, T, R, I) := by
  refine B_248_0 hT hR ?_
  intro I1 e1
  have s1 : mSc I I1 := by rw [e1]; exact mSc_thrown I 0
  have i1 : mInv I1 := by rw [e1]; exact mInv_fld hI _ _ _ (by decide) (by decide) (by decide)
  have h8 := i1.1.2.2.2.2
  have no : yW l zSS D cy zFk z (d + 7) 248 bc bs K 0 0 68 [] [] (N, T, R, I1) := B_248_68 hT hR (hk _ I1 i1 (fun q j _ a b c e f g => s1 q j a b c e f g))
  refine r_isChair (d := d + 5) hT hR h8 (fun r3 q3 => ⟨_, _, rfl, rfl, fun _ => no, fun c3 => ?_⟩)
  refine r_isChair (d := d + 5) hT hR h8 (fun r6 q6 => ⟨_, _, rfl, rfl, fun _ => no, fun c6 => ⟨fun _ => no, fun _ => ?_⟩⟩)
  refine w_191 hT hR (fun r10 q10 => ⟨_, _, rfl, rfl, fun _ => no, fun c10 => ⟨fun _ => no, fun _ => ?_⟩⟩)
  obtain ⟨a, rfl⟩ : ∃ a : Nat, x1 = (a : Int) := ⟨x1.toNat, by omega⟩
  obtain ⟨b, rfl⟩ : ∃ b : Nat, x2 = (b : Int) := ⟨x2.toNat, by omega⟩
  rw [yadd_eq (x := 470) (y := (a : Int)) (by omega) (by omega), yadd_eq (x := 470) (y := (b : Int)) (by omega) (by omega)]
  refine ⟨by omega, by omega, fun _ => no, fun _ => ⟨by omega, by omega, fun _ => ?_, fun _ => no⟩⟩
  refine r_tries2 hT hR hN (fun I19 t19 => ⟨_, rfl, rfl, ?_⟩)
  have ts := mTs_tr s1 i1 t19
  have t0 : mTz (fun q _ => q = 119) I I19 := ⟨fun q j _ a b c d e f => ts.1 q j a b c d e f, ts.2⟩
  have out : ∀ (X : Nat → Nat → Int) (r : Int), mTz (fun q _ => q = 119) I X → K (some (yi r)) (N, T, R, X) := fun X r t => hk r X (mTz_inv (fun j => by omega) hI t) (fun q j e a b c d f g => t.1 q j e a b c d f g)
  have l185 : ∀ (m : Nat) (X : Nat → Nat → Int) (n i : Nat), i + m = 4 → n ≤ i → mTz (fun q _ => q = 119) I X → yW l zSS D cy zFk z (d + 7) 248 bc bs K 0 0 185 [(0, yr (some 102)), (4, yi x4), (5, yi (n : Int)), (6, yi (i : Int))] [] (N, T, R, X) := by
    intro m
    induction m with
    | zero =>
      intro X n i h1 h2 tX
      exact B_248_185 hT hR ⟨fun _ => ⟨fun _ => B_248_275 hT hR (out X _ tX), fun _ => B_248_275 hT hR (out X _ tX)⟩, fun q => absurd q (by omega)⟩
    | succ m ih =>
      intro X n i h1 h2 tX
      have yx := yx_rng ⟨i, by omega⟩
      have y2 : 0 ≤ yxor (i : Int) 2 ∧ yxor (i : Int) 2 ≤ 3 := yx.1
      have y1 : 0 ≤ yxor (i : Int) 1 ∧ yxor (i : Int) 1 ≤ 3 := yx.2
      have l257 : ∀ n' : Nat, n' ≤ i + 1 → yW l zSS D cy zFk z (d + 7) 248 bc bs K 0 0 257 [(0, yr (some 102)), (4, yi x4), (5, yi (n' : Int)), (6, yi (i : Int))] [] (N, T, R, X) := fun n' hn => by
        refine B_248_257 hT hR ?_
        rw [yadd_eq (x := (i : Int)) (by omega) (by omega)]
        exact ih X n' (i + 1) (by omega) hn tX
      refine B_248_185 hT hR ⟨fun q => absurd q (by omega), fun _ => ?_⟩
      rw [ymul_eq (x := 2) (y := (i : Int)) (by omega) (by omega), ymul_eq (x := 2) (y := yxor (i : Int) 2) (by omega) (by omega), ymul_eq (x := 2) (y := yxor (i : Int) 1) (by omega) (by omega), yadd_eq (x := 2 * (i : Int)) (by omega) (by omega), yadd_eq (x := 2 * yxor (i : Int) 1) (by omega) (by omega), yadd_eq (x := (n : Int)) (by omega) (by omega)]
      exact ⟨by omega, by omega, by omega, by omega, fun _ => l257 n (by omega), fun _ => ⟨by omega, by omega, by omega, by omega, fun _ => ⟨fun _ => l257 (n + 1) (by omega), fun _ => out X _ tX⟩, fun _ => l257 n (by omega)⟩⟩
  have l86 : ∀ (m : Nat) (X : Nat → Nat → Int) (w i : Nat), 2 * w + i + m = 8 → i ≤ 2 → w ≤ 3 → mTz (fun q _ => q = 119) I X → (∀ Y : Nat → Nat → Int, mTz (fun q _ => q = 119) I Y → yW l zSS D cy zFk z (d + 7) 248 bc bs K 0 0 77 [(0, yr (some 102)), (1, yi (a : Int)), (2, yi (b : Int)), (3, yi x3), (4, yi x4), (5, yi ((w + 1 : Nat) : Int))] [] (N, T, R, Y)) → yW l zSS D cy zFk z (d + 7) 248 bc bs K 0 0 86 [(0, yr (some 102)), (1, yi (a : Int)), (2, yi (b : Int)), (3, yi x3), (4, yi x4), (5, yi (w : Int)), (6, yi (i : Int))] [] (N, T, R, X) := by
    intro m
    induction m with
    | zero =>
      intro X w i h1 h2 h3 tX go
      refine B_248_86 hT hR ⟨fun _ => ?_, fun q => absurd q (by omega)⟩
      rw [yadd_eq (x := (w : Int)) (by omega) (by omega)]
      exact go X tX
    | succ m ih =>
      intro X w i h1 h2 h3 tX go
      have iX := mTz_inv (fun j => by omega) hI tX
      have l163 : ∀ (Y : Nat → Nat → Int) (k : Nat), k < 8 → i < 2 → mInv Y → Y 104 458 = X 104 458 → mFm X Y → yW l zSS D cy zFk z (d + 7) 248 bc bs K 0 0 163 [(0, yr (some 102)), (1, yi (a : Int)), (2, yi (b : Int)), (3, yi x3), (4, yi x4), (5, yi (w : Int)), (6, yi (i : Int))] [yi (k : Int), yr (some 102), yi (2 * (w : Int) + (i : Int)), yr (some 119)] (N, T, R, Y) := by
        intro Y k hk8 hi2 iY y458 fY
        have x458 : X 104 458 = I 104 458 := tX.1 104 458 (by decide) (by decide) (by decide) (by decide) (by decide) (by decide) (.inl (by decide))
        refine B_248_163 hT hR (r_whenOf (d := d) hT hR hN hk8 iY (by omega) (fun r2 Z W iZ fZ bW => ⟨_, _, rfl, rfl, by omega, by omega, ?_⟩))
        have tW := mTz_back (fun j => by omega) tX (fun q j e a1 a2 a3 a4 a5 a6 => (mFm_tr fY fZ) q j a1 a2 a3 a4 a5 a6) iZ bW
        intro I5 e5
        rw [yadd_eq (x := (i : Int)) (by omega) (by omega)]
        refine ih I5 w (i + 1) (by omega) (by omega) h3 ⟨fun q j e a1 a2 a3 a4 a5 a6 => ?_, fun j hj => ?_, fun v hv => ?_⟩ go
        · rw [e5, yU_ne _ _ (by omega)]; exact tW.1 q j e a1 a2 a3 a4 a5 a6
        · rw [e5, yU_ne _ _ (by omega)]; exact tW.2.1 j hj
        · rw [e5, yU_ne _ _ (by omega), yU_ne _ _ (by omega)]; exact tW.2.2 v hv
      have l123 : ∀ t0 t1 : Int, i < 2 → yW l zSS D cy zFk z (d + 7) 248 bc bs K 0 0 123 [(0, yr (some 102)), (1, yi (a : Int)), (2, yi (b : Int)), (3, yi x3), (4, yi x4), (5, yi (w : Int)), (6, yi (i : Int))] [yi t0, yi t1, yr (some 102)] (N, T, R, X) := by
        intro t0 t1 hi2
        refine B_248_123 hT hR ?_
        intro J1 g1 J2 g2
        rw [ymul_eq (x := 2) (by omega) (by omega), yadd_eq (x := 2 * (w : Int)) (by omega) (by omega)]
        have f1 : mFm X J1 := by rw [g1]; exact mFm_fld (mFm_rf X) (by omega) (by omega) _
        have f2 : mFm X J2 := by rw [g2]; exact mFm_fld f1 (by omega) (by omega) _
        have j2 : mInv J2 := by rw [g2, g1]; exact mInv_fld (mInv_fld iX _ _ _ (by decide) (by decide) (by decide)) _ _ _ (by decide) (by decide) (by decide)
        have v458 : J2 104 458 = X 104 458 := by rw [g2, yU_ne _ _ (by omega), g1, yU_ne _ _ (by omega)]
        exact ⟨fun _ => l163 J2 b (by omega) hi2 j2 v458 f2, fun _ => l163 J2 a (by omega) hi2 j2 v458 f2⟩
      have l108 : ∀ t0 : Int, i < 2 → yW l zSS D cy zFk z (d + 7) 248 bc bs K 0 0 108 [(0, yr (some 102)), (1, yi (a : Int)), (2, yi (b : Int)), (3, yi x3), (4, yi x4), (5, yi (w : Int)), (6, yi (i : Int))] [yi t0, yr (some 102)] (N, T, R, X) := fun t0 hi2 => B_248_108 hT hR ⟨fun _ => l123 _ _ hi2, fun _ => l123 _ _ hi2⟩
      refine B_248_86 hT hR ⟨fun _ => ?_, fun q => ⟨fun _ => l108 _ (by omega), fun _ => l108 _ (by omega)⟩⟩
      rw [yadd_eq (x := (w : Int)) (by omega) (by omega)]
      exact go X tX
  have l77 : ∀ (m : Nat) (X : Nat → Nat → Int) (w : Nat), w + m = 4 → mTz (fun q _ => q = 119) I X → yW l zSS D cy zFk z (d + 7) 248 bc bs K 0 0 77 [(0, yr (some 102)), (1, yi (a : Int)), (2, yi (b : Int)), (3, yi x3), (4, yi x4), (5, yi (w : Int))] [] (N, T, R, X) := by
    intro m
    induction m with
    | zero => intro X w h1 tX; exact B_248_77 hT hR ⟨fun _ => l185 4 X 0 0 rfl (Nat.le_refl _) tX, fun q => absurd q (by omega)⟩
    | succ m ih =>
      intro X w h1 tX
      exact B_248_77 hT hR ⟨fun q => absurd q (by omega), fun _ => l86 (8 - 2 * w) X w 0 (by omega) (by omega) (by omega) tX (fun Y tY => ih Y (w + 1) (by omega) tY)⟩
  exact l77 4 I19 0 rfl t0
end Sm
