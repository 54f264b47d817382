/-! THE REFERENCE's CONTRACTS: ROOM is kept, 10: a PLAN is judged. -/
def mInvR (I : Nat → Nat → Int) : Prop := mInv I ∧ mRo I ∧ mNb I
theorem mInvR_fld {I : Nat → Nat → Int} (h : mInvR I) (k j : Nat) (v : Int) (hk : k ≠ 104) (hk2 : k ≠ 111) (hk3 : k ≠ 112) : mInvR (yU I k j v) :=
  ⟨mInv_fld h.1 k j v hk hk2 hk3, mRo_fld h.2.1 h.1.1.2.2.2.2.2 k j v hk, mNb_eq h.2.2 (fun i _ => yU_ne _ _ (by omega))⟩
section Sm
variable {l : Launch} {D : va_G} {cy : Nat → ClassId} {z d bc bs N : Nat} {T : Nat → Nat × Nat} {R : Nat → Nat → Option Nat} {I : Nat → Nat → Int} {K : yKo}
theorem r_judgeR (hT : yLT T) (hR : yLR R) (hN : 126 ≤ N) {x1 : Int} (hI : mInv I) (hm : 0 ≤ I 104 458 ∧ I 104 458 ≤ 500) (hU : mUnR I) (hP : mPl I) (hk : ∀ r I', mInv I' → (0 ≤ I' 104 458 ∧ I' 104 458 ≤ 500) → mUnR I' → mPj I I' → K (some (yi r)) (N, T, R, I')) : yW l zSS D cy zFk z (d + 4) 201 bc bs K 0 0 0 [(0, yr (some 102)), (1, yi x1)] [] (N, T, R, I) := by
  refine B_201_0 hT hR ?_
  intro I1 e1
  have n1 : ∀ k j, (k ≠ 102 ∨ j ≠ 0) → I1 k j = I k j := fun k j h => by rw [e1, yU_ne _ _ (by omega)]
  have i1 : mInv I1 := by rw [e1]; exact mInv_fld hI _ _ _ (by decide) (by decide) (by decide)
  have u1 : mUnR I1 := mUnR_sc (by rw [e1]; exact mSc_thrown I 0) hU
  have m1 : 0 ≤ I1 104 458 ∧ I1 104 458 ≤ 500 := by rw [n1 104 458 (by omega)]; exact hm
  refine w_191 hT hR (fun r3 q3 => ⟨_, _, rfl, rfl, fun _ => ?_, fun _ => hk _ I1 i1 m1 u1 (fun k j _ _ _ _ h => n1 k j (by omega))⟩)
  refine r_tries2 hT hR hN (fun I5 t5 => ⟨_, rfl, rfl, ?_⟩)
  have i5 := mTr_inv i1 t5
  have e5 : ∀ j, I5 104 j = I 104 j := fun j => by rw [t5.2 104 j (by omega)]; exact n1 104 j (by omega)
  have i5R : mInvR I5 := ⟨i5, mRo_eq hU.2.1 hU.1 (fun j _ => e5 j), mNb_eq hU.2.2.1 (fun j _ => e5 j)⟩
  -- between: rows in hand, and what the PLAN does
  have base : ∀ X : Nat → Nat → Int, (∀ q j, (q ≠ 104 ∨ j < 459 ∨ 926 ≤ j) → q ≠ 120 → X q j = I5 q j) → (∀ q j, (q ≠ 104 ∨ j < 459 ∨ 926 ≤ j) → q ≠ 114 → q ≠ 120 → (q ≠ 102 ∨ j ≠ 0) → X q j = I q j) := fun X h q j a b c e => by rw [h q j a c, t5.2 q j b]; exact n1 q j e
  have l134 : ∀ (m : Nat) (X : Nat → Nat → Int) (w : Int) (k : Nat), k + m = 9 → (k : Int) ≤ I 104 2 → mInvR X → (∀ q j, (q ≠ 104 ∨ j < 459 ∨ 926 ≤ j) → q ≠ 120 → X q j = I5 q j) → yW l zSS D cy zFk z (d + 4) 201 bc bs K 0 0 134 [(0, yr (some 102)), (1, yi x1), (2, yi w), (3, yi (k : Int))] [] (N, T, R, X) := by
    intro m
    induction m with
    | zero => intro X w k h1 h2; have := hI.1.2.2.2.2; omega
    | succ m ih =>
      intro X w k h1 h2 iX fX
      have gX := base X fX
      have c2 : X 104 2 = I 104 2 := gX 104 2 (by omega) (by omega) (by omega) (by omega)
      have h8 := hI.1.2.2.2.2
      refine B_201_134 hT hR ⟨fun _ => ?_, fun _ => ?_⟩
      · intro I2 e2
        have n2 : ∀ q j, (q ≠ 102 ∨ j ≠ 46) → I2 q j = X q j := fun q j h => by rw [e2, yU_ne _ _ (by omega)]
        have i2 : mInvR I2 := by rw [e2]; exact mInvR_fld iX _ _ _ (by decide) (by decide) (by decide)
        have m2 : 0 ≤ I2 104 458 ∧ I2 104 458 ≤ 500 := by rw [n2 104 458 (by omega), gX 104 458 (by omega) (by omega) (by omega) (by omega)]; exact hm
        have p2 : mPj I I2 := fun q j a b c e f => by rw [n2 q j (by omega)]; exact gX q j (by omega) c e (by omega)
        have u2 : mUnR I2 := by
          have a35 : I2 102 35 = I 102 35 := by rw [n2 102 35 (by omega)]; exact gX 102 35 (by omega) (by omega) (by omega) (by omega)
          refine mUnR_sl (fun j hj => ?_) a35 (fun j => ?_) hU i2.2.1 i2.2.2
          · rw [n2 104 j (by omega)]; exact gX 104 j (by omega) (by omega) (by omega) (by omega)
          · rw [n2 113 j (by omega)]; exact gX 113 j (by omega) (by omega) (by omega) (by omega)
        have plain : K (some (yi w)) (N, T, R, I2) := hk _ I2 i2.1 m2 u2 p2
        -- brought back
        have back : ∀ Y : Nat → Nat → Int, (∀ j, j < 468 → Y 114 j = I 104 (458 + j)) → mOr Y → (∀ q j, (q ≠ 104 ∨ j < 458 ∨ 926 ≤ j) → q ≠ 113 → q ≠ 114 → q ≠ 120 → (q ≠ 102 ∨ (j ≠ 0 ∧ j ≠ 35 ∧ j ≠ 46)) → Y q j = I q j) → mUnR Y → yW l zSS D cy zFk z (d + 3) 158 0 0 (fun r h' => ∃ I5, r = none ∧ h' = (N, T, R, I5) ∧ (K (some (yi w)) (N, T, R, I5))) 0 0 0 [(0, yr (some 102))] [] (N, T, R, Y) := by
          intro Y y114 oY fY uY
          refine r_back hT hR hN (fun I3 b1 b2 b3 b4 => ⟨_, rfl, rfl, ?_⟩)
          have r3 : ∀ j, I3 104 j = I 104 j := fun j => by
            by_cases h : 458 ≤ j ∧ j < 926
            · have e := b1 (j - 458) (by omega)
              rw [show 458 + (j - 458) = j by omega] at e
              rw [e, y114 _ (by omega), show 458 + (j - 458) = j by omega]
            · rw [b4 104 j (by omega) (by omega)]; exact fY 104 j (by omega) (by omega) (by omega) (by omega) (by omega)
          refine hk _ I3 (mInv_eq hI r3 (fun i hi => by rw [b4 111 i (by omega) (by omega), b4 112 i (by omega) (by omega)]; exact oY i hi)) (by rw [r3]; exact hm) ?_ (fun q j a b c e f => by rw [b4 q j (by omega) (by omega)]; exact fY q j (by omega) b c e (by omega))
          exact mUnR_sl (fun j hj => by rw [r3]; exact (fY 104 j (by omega) (by omega) (by omega) (by omega) (by omega)).symm) (b4 102 35 (by omega) (by omega)) (fun j => b4 113 j (by omega) (by omega)) uY (mRo_eq hU.2.1 hU.1 (fun j _ => r3 j)) (mNb_eq hU.2.2.1 (fun j _ => r3 j))
        have r114 : ∀ j, j < 468 → I2 114 j = I 104 (458 + j) := fun j hj => by
          rw [n2 114 j (by omega), fX 114 j (by omega) (by omega), t5.1 j hj]; exact n1 104 _ (by omega)
        have b2 := back I2 r114 i2.1.2.2.2.2.2.2 (fun q j a b c e f => by rw [n2 q j (by omega)]; exact gX q j (by omega) c e (by omega)) u2
        have two := (⟨fun _ => plain, fun _ => b2⟩ : (x1 ≠ 0 → K (some (yi w)) (N, T, R, I2)) ∧ (¬ (x1 ≠ 0) → _))
        refine ⟨fun _ => two, fun c1 => ⟨fun _ => two, fun _ => ?_⟩⟩
        refine r_keepR hT hR hN i2.1 m2 u2 (fun I9 u9 k9 f9 => ⟨_, rfl, rfl, ?_⟩)
        have i9 := (mKp_inv i2.1 f9).1
        have j9 : 1 ≤ I9 102 35 ∧ I9 102 35 ≤ 8 := by
          have := u2.2.2.2.1; have := u2.2.2.2.2.1
          rw [k9]; split <;> omega
        obtain ⟨o9, ho9⟩ : ∃ o : Nat, I9 102 35 = (o : Int) + 1 := ⟨(I9 102 35 - 1).toNat, by omega⟩
        have l202 : ∀ (m : Nat) (Y : Nat → Nat → Int) (i : Nat), i + m = 468 → (∀ j, j < i → Y 113 (468 * o9 + j) = I 104 (458 + j)) → (∀ j, j < 468 * o9 → Y 113 j = I9 113 j) → (∀ q j, q ≠ 113 → Y q j = I9 q j) → yW l zSS D cy zFk z (d + 4) 201 bc bs K 0 0 202 [(0, yr (some 102)), (1, yi x1), (2, yi w), (3, yi (i : Int))] [] (N, T, R, Y) := by
          intro m
          induction m with
          | zero =>
            intro Y i y1 y2 y3 y4
            have hx1 : x1 ≠ 0 := by omega
            refine B_201_202 hT hR ⟨fun _ => ⟨fun _ => ?_, fun q => absurd hx1 q⟩, fun q => absurd q (by omega)⟩
            have g4 : ∀ q j, q ≠ 113 → (q ≠ 102 ∨ j ≠ 35) → Y q j = I2 q j := fun q j a b => by rw [y4 q j a]; exact f9 q j a b
            have wlow : ∀ j, j < 458 → Y 104 j = I 104 j := fun j hj => by rw [g4 104 j (by omega) (by omega), n2 104 j (by omega)]; exact gX 104 j (by omega) (by omega) (by omega) (by omega)
            refine hk _ Y (mInv_eq i2.1 (fun j => g4 104 j (by omega) (by omega)) (fun i hi => by rw [g4 111 i (by omega) (by omega), g4 112 i (by omega) (by omega)]; exact i2.1.2.2.2.2.2.2 i hi)) (by rw [g4 104 458 (by omega) (by omega)]; exact m2) ⟨by rw [g4 104 2 (by omega) (by omega)]; exact i2.1.1.2.2.2.2.2, mRo_eq i2.2.1 i2.1.1.2.2.2.2.2 (fun j _ => g4 104 j (by omega) (by omega)), mNb_eq i2.2.2 (fun j _ => g4 104 j (by omega) (by omega)), by rw [y4 102 35 (by omega)]; omega, by rw [y4 102 35 (by omega)]; omega, fun u hu => ?_⟩ (fun q j a b c e f => by rw [g4 q j b (by omega)]; exact p2 q j a b c e f)
            rw [y4 102 35 (by omega), ho9] at hu
            by_cases eu : u = o9
            · subst eu
              exact mSq_at hU.1 wlow (fun j hj => y2 j (by omega)) (mSq_now hI hm hU.2.1 hU.2.2.1)
            · exact mSq_at u9.1 (fun j _ => y4 104 j (by omega)) (fun j hj => y3 _ (by omega)) (u9.2.2.2.2.2 u (by omega))
          | succ m ihm =>
            intro Y i y1 y2 y3 y4
            have y35 : Y 102 35 = (o9 : Int) + 1 := by rw [y4 102 35 (by omega)]; exact ho9
            have y114 : Y 114 i = I 104 (458 + i) := by rw [y4 114 i (by omega), f9 114 i (by omega) (by omega)]; exact r114 i (by omega)
            refine e_ri (k := 114) (n := 468) (j := i) (c0 := 1) (hT 114 rfl) (.inr (.inl rfl)) (by omega) (show 114 < N by omega) (fun q1 q2 => ?_)
            have q1 : -2147483648 ≤ Y 114 i := q1
            have q2 : Y 114 i < 2147483648 := q2
            refine B_201_202 hT hR ⟨fun q => absurd q (by omega), fun _ => ?_⟩
            rw [y35, ysub_eq (by omega) (by omega), show (o9 : Int) + 1 - 1 = (o9 : Int) by omega, ymul_eq (by omega) (by omega), yadd_eq (x := 468 * (o9 : Int)) (by omega) (by omega), yadd_eq (x := (i : Int)) (by omega) (by omega), show ((i : Int)).toNat = i by omega, show (468 * (o9 : Int) + (i : Int)).toNat = 468 * o9 + i by omega]
            refine ⟨by omega, by omega, by omega, by omega, ?_⟩
            intro I8 e8
            rw [ynar1_eq q1 q2] at e8
            refine ihm I8 (i + 1) (by omega) (fun j hj => ?_) (fun j hj => ?_) (fun q j a => ?_)
            · rw [e8]
              by_cases e : j = i
              · subst e; rw [yU_eq]; exact y114
              · rw [yU_ne _ _ (by omega)]; exact y2 j (by omega)
            · rw [e8, yU_ne _ _ (by omega)]; exact y3 j hj
            · rw [e8, yU_ne _ _ (by omega)]; exact y4 q j a
        exact l202 468 I9 0 rfl (fun j hj => absurd hj (by omega)) (fun _ _ => rfl) (fun _ _ _ => rfl)
      · rw [yadd_eq (x := 510) (by omega) (by omega), yadd_eq (x := (k : Int)) (by omega) (by omega)]
        have next : ∀ v : Int, ∀ I13, I13 = yU X 120 2 v → yW l zSS D cy zFk z (d + 4) 201 bc bs K 0 0 134 [(0, yr (some 102)), (1, yi x1), (2, yi w), (3, yi ((k + 1 : Nat) : Int))] [] (N, T, R, I13) := fun v I13 e => by
          rw [e]
          exact ih _ w (k + 1) (by omega) (by omega) (mInvR_fld iX _ _ _ (by decide) (by decide) (by decide)) (fun q j a b => by rw [yU_ne _ _ (by omega)]; exact fX q j a b)
        exact ⟨by omega, by omega, fun _ => next _, fun _ => next _⟩
  have l45 : ∀ (m : Nat) (X : Nat → Nat → Int) (w : Int) (i : Nat), i + m = 41 → (i : Int) ≤ I 104 926 → mInvR X → (∀ q j, (q ≠ 104 ∨ j < 459 ∨ 926 ≤ j) → q ≠ 120 → X q j = I5 q j) → yW l zSS D cy zFk z (d + 4) 201 bc bs K 0 0 45 [(0, yr (some 102)), (1, yi x1), (2, yi w), (3, yi (i : Int))] [] (N, T, R, X) := by
    intro m
    induction m with
    | zero => intro X w i h1 h2; have := hP.2.1; omega
    | succ m ih =>
      intro X w i h1 h2 iX fX
      have gX := base X fX
      have h40 := hP.2.1
      have c926 : X 104 926 = I 104 926 := gX 104 926 (by omega) (by omega) (by omega) (by omega)
      have fin : ∀ I2, I2 = yU X 120 2 (ynar 1 0) → yW l zSS D cy zFk z (d + 4) 201 bc bs K 0 0 134 [(0, yr (some 102)), (1, yi x1), (2, yi w), (3, yi 0)] [] (N, T, R, I2) := fun I2 e => by
        rw [e]
        exact l134 9 _ w 0 rfl (by have := hI.1.2.2.2.2; omega) (mInvR_fld iX _ _ _ (by decide) (by decide) (by decide)) (fun q j a b => by rw [yU_ne _ _ (by omega)]; exact fX q j a b)
      refine B_201_45 hT hR ⟨fun _ => fin, fun c1 => ⟨fun _ => fin, fun _ => ?_⟩⟩
      obtain ⟨pk, pd⟩ := hP.2.2 i (by omega)
      rw [ymul_eq (x := 2) (by omega) (by omega), yadd_eq (x := 927) (by omega) (by omega), yadd_eq (x := 928) (by omega) (by omega), yadd_eq (x := (i : Int)) (by omega) (by omega), show (927 + 2 * (i : Int)).toNat = 927 + 2 * i by omega, show (928 + 2 * (i : Int)).toNat = 928 + 2 * i by omega]
      have v1 : X 104 (927 + 2 * i) = I 104 (927 + 2 * i) := gX 104 _ (by omega) (by omega) (by omega) (by omega)
      have v2 : X 104 (928 + 2 * i) = I 104 (928 + 2 * i) := gX 104 _ (by omega) (by omega) (by omega) (by omega)
      rw [v1, v2]
      obtain ⟨kk, hkk⟩ : ∃ kk : Nat, I 104 (927 + 2 * i) = (kk : Int) := ⟨(I 104 (927 + 2 * i)).toNat, by omega⟩
      rw [hkk]
      refine ⟨by omega, by omega, by omega, by omega, r_doesR (d := d) hT hR (by omega) (by omega) pd iX.1 iX.2.1 iX.2.2 (fun r10 I9 i9 r9 nb9 f9 => ⟨_, _, rfl, rfl, ?_⟩)⟩
      have g9 : ∀ q j, (q ≠ 104 ∨ j < 459 ∨ 926 ≤ j) → q ≠ 120 → I9 q j = I5 q j := fun q j a b => by rw [f9 q j a]; exact fX q j a b
      intro I11 e11
      have i11 : mInvR I11 := by rw [e11]; exact mInvR_fld ⟨i9, r9, nb9⟩ _ _ _ (by decide) (by decide) (by decide)
      have g11 : ∀ q j, (q ≠ 104 ∨ j < 459 ∨ 926 ≤ j) → q ≠ 120 → I11 q j = I5 q j := fun q j a b => by rw [e11, yU_ne _ _ (by omega)]; exact g9 q j a b
      refine ⟨fun _ => ?_, fun _ => ih I11 _ (i + 1) (by omega) (by omega) i11 g11⟩
      intro I13 e13
      exact ih I13 w (i + 1) (by omega) (by omega) (by rw [e13]; exact mInvR_fld i11 _ _ _ (by decide) (by decide) (by decide)) (fun q j a b => by rw [e13, yU_ne _ _ (by omega)]; exact g11 q j a b)
  have l23 : ∀ (m : Nat) (X : Nat → Nat → Int) (i : Nat), i + m = 3 → mInvR X → (∀ q j, (q ≠ 104 ∨ j < 459 ∨ 926 ≤ j) → q ≠ 120 → X q j = I5 q j) → yW l zSS D cy zFk z (d + 4) 201 bc bs K 0 0 23 [(0, yr (some 102)), (1, yi x1), (2, yi (i : Int))] [] (N, T, R, X) := by
    intro m
    induction m with
    | zero => intro X i h1 iX fX; exact B_201_23 hT hR ⟨fun _ => l45 41 X (-1) 0 rfl hP.1 iX fX, fun q => absurd q (by omega)⟩
    | succ m ih =>
      intro X i h1 iX fX
      refine B_201_23 hT hR ⟨fun q => absurd q (by omega), fun _ => ?_⟩
      rw [yadd_eq (x := (i : Int)) (by omega) (by omega)]
      refine ⟨by omega, by omega, ?_⟩
      intro I4 e4
      exact ih I4 (i + 1) (by omega) (by rw [e4]; exact mInvR_fld iX _ _ _ (by decide) (by decide) (by decide)) (fun q j a b => by rw [e4, yU_ne _ _ (by omega)]; exact fX q j a b)
  exact l23 3 I5 0 rfl i5R (fun _ _ _ _ => rfl)
end Sm
