/-! THE REFERENCE's CONTRACTS: a PLAN is judged. -/
def mPj (I I' : Nat → Nat → Int) : Prop := ∀ k j, (k ≠ 104 ∨ j < 458 ∨ 926 ≤ j) → k ≠ 113 → k ≠ 114 → k ≠ 120 → (k ≠ 102 ∨ (j ≠ 0 ∧ j ≠ 28 ∧ j ≠ 29 ∧ j ≠ 35 ∧ j ≠ 46)) → I' k j = I k j
section Sm
variable {l : Launch} {D : va_G} {cy : Nat → ClassId} {z d bc bs N : Nat} {T : Nat → Nat × Nat} {R : Nat → Nat → Option Nat} {I : Nat → Nat → Int} {K : yKo}
theorem r_does (hT : yLT T) (hR : yLR R) {k : Nat} {x2 : Int} (hk8 : k < 8) (hkC : (k : Int) < 8) (h2 : 0 ≤ x2 ∧ x2 ≤ 3) (hI : mInv I) (hk : ∀ r I', mInv I' → (∀ q j, (q ≠ 104 ∨ j < 459 ∨ 926 ≤ j) → I' q j = I q j) → K (some (yi r)) (N, T, R, I')) : yW l zSS D cy zFk z (d + 3) 173 bc bs K 0 0 0 [(0, yr (some 102)), (1, yi (k : Int)), (2, yi x2)] [] (N, T, R, I) := by
  obtain ⟨a1, a2⟩ := hI.2.2.2.2.2.1 k hk8
  have ar := mInv_at hI a1
  refine B_173_0 hT hR ?_
  rw [yadd_eq (x := 470) (by omega) (by omega), yadd_eq (x := 486) (by omega) (by omega), yadd_eq (x := 478) (by omega) (by omega), yadd_eq (x := 334) (by omega) (by omega), yadd_eq (x := 510) (by omega) (by omega)]
  rw [show ((470 : Int) + (k : Int)).toNat = 470 + k by omega, show ((486 : Int) + (k : Int)).toNat = 486 + k by omega, show ((478 : Int) + (k : Int)).toNat = 478 + k by omega, show ((334 : Int) + (k : Int)).toNat = 334 + k by omega, show ((510 : Int) + (k : Int)).toNat = 510 + k by omega]
  have out : ∀ r, K (some (yi r)) (N, T, R, I) := fun r => hk r I hI (fun _ _ _ => rfl)
  refine ⟨by omega, by omega, fun c1 => ⟨by omega, by omega, ?_⟩, fun _ => out _⟩
  have hst := @mStep_rng I hI.1 (I 104 (470 + k)) x2
  refine r_stepTo (d := d) hT hR hI.1 c1 ar.2 (by omega) (by omega) ⟨_, _, rfl, rfl, fun c7 => ?_, fun _ => out _⟩
  generalize hto : mStep I (I 104 (470 + k)) x2 = to at *
  have hc : mCell (I 104 0) (I 104 1) to ∧ to < 100 := by rcases hst with e | e; omega; exact e
  have hroom := hI.2.2.1 to.toNat (by omega)
  refine r_hasRoom (d := d + 1) hT hR hI.1.2.2.2.2 c7 hc.2 hroom.1 hroom.2 (fun r10 _ => ⟨_, _, rfl, rfl, fun _ => ?_, fun _ => out _⟩)
  refine ⟨by omega, by omega, by omega, by omega, ?_⟩
  intro I16 e16
  rw [ynar1_eq (by omega) (by omega)] at e16
  have i16 : mInv I16 := by rw [e16]; exact mInv_set hI (by omega) (by omega) (by omega) (by omega) (fun _ _ => a1)
  have s16 : ∀ q j, (q ≠ 104 ∨ j < 459 ∨ 926 ≤ j) → I16 q j = I q j := fun q j h => by rw [e16, yU_ne _ _ (by omega)]
  refine ⟨by omega, by omega, ?_⟩
  intro I19 e19
  rw [ynar1_eq (by omega) (by omega)] at e19
  have c16 : mAt I16 to := by
    right; left; rw [s16 104 0 (by omega), s16 104 1 (by omega)]; exact hc.1
  have i19 : mInv I19 := by rw [e19]; exact mInv_set i16 (by omega) (by omega) (by omega) (fun _ _ => c16) (by omega)
  have s19 : ∀ q j, (q ≠ 104 ∨ j < 459 ∨ 926 ≤ j) → I19 q j = I q j := fun q j h => by rw [e19, yU_ne _ _ (by omega)]; exact s16 q j h
  refine ⟨by omega, by omega, by omega, by omega, ?_⟩
  intro I24 e24
  have i24 : mInv I24 := by rw [e24]; exact mInv_set i19 (by omega) (by omega) (by omega) (by omega) (by omega)
  have s24 : ∀ q j, (q ≠ 104 ∨ j < 459 ∨ 926 ≤ j) → I24 q j = I q j := fun q j h => by rw [e24, yU_ne _ _ (by omega)]; exact s19 q j h
  refine ⟨by omega, by omega, fun _ => ⟨by omega, by omega, ?_⟩, fun _ => hk _ I24 i24 s24⟩
  intro I30 e30
  rw [ynar1_eq (by omega) (by omega)] at e30
  have i30 : mInv I30 := by rw [e30]; exact mInv_set i24 (by omega) (by omega) (by omega) (fun _ _ => .inl rfl) (by omega)
  have s30 : ∀ q j, (q ≠ 104 ∨ j < 459 ∨ 926 ≤ j) → I30 q j = I q j := fun q j h => by rw [e30, yU_ne _ _ (by omega)]; exact s24 q j h
  refine ⟨by omega, by omega, ?_⟩
  intro I33 e33
  exact hk _ I33 (by rw [e33]; exact mInv_set i30 (by omega) (by omega) (by omega) (by omega) (by omega)) (fun q j h => by rw [e33, yU_ne _ _ (by omega)]; exact s30 q j h)
theorem r_judge (hT : yLT T) (hR : yLR R) (hN : 126 ≤ N) {x1 : Int} (hI : mInv I) (hm : 0 ≤ I 104 458 ∧ I 104 458 ≤ 500) (hU : mUn I) (hP : mPl I) (hk : ∀ r I', mInv I' → (0 ≤ I' 104 458 ∧ I' 104 458 ≤ 500) → mUn I' → mPj I I' → K (some (yi r)) (N, T, R, I')) : yW l zSS D cy zFk z (d + 4) 201 bc bs K 0 0 0 [(0, yr (some 102)), (1, yi x1)] [] (N, T, R, I) := by
  refine B_201_0 hT hR ?_
  intro I1 e1
  have n1 : ∀ k j, (k ≠ 102 ∨ j ≠ 0) → I1 k j = I k j := fun k j h => by rw [e1, yU_ne _ _ (by omega)]
  have i1 : mInv I1 := by rw [e1]; exact mInv_fld hI _ _ _ (by decide) (by decide) (by decide)
  have u1 : mUn I1 := mUn_sc (by rw [e1]; exact mSc_thrown I 0) hU
  have m1 : 0 ≤ I1 104 458 ∧ I1 104 458 ≤ 500 := by rw [n1 104 458 (by omega)]; exact hm
  refine w_191 hT hR (fun r3 q3 => ⟨_, _, rfl, rfl, fun _ => ?_, fun _ => hk _ I1 i1 m1 u1 (fun k j _ _ _ _ h => n1 k j (by omega))⟩)
  refine r_tries2 hT hR hN (fun I5 t5 => ⟨_, rfl, rfl, ?_⟩)
  have i5 := mTr_inv i1 t5
  -- between: rows in hand, and what the PLAN does
  have base : ∀ X : Nat → Nat → Int, (∀ q j, (q ≠ 104 ∨ j < 459 ∨ 926 ≤ j) → q ≠ 120 → X q j = I5 q j) → (∀ q j, (q ≠ 104 ∨ j < 459 ∨ 926 ≤ j) → q ≠ 114 → q ≠ 120 → (q ≠ 102 ∨ j ≠ 0) → X q j = I q j) := fun X h q j a b c e => by rw [h q j a c, t5.2 q j b]; exact n1 q j e
  have l134 : ∀ (m : Nat) (X : Nat → Nat → Int) (w : Int) (k : Nat), k + m = 9 → (k : Int) ≤ I 104 2 → mInv X → (∀ q j, (q ≠ 104 ∨ j < 459 ∨ 926 ≤ j) → q ≠ 120 → X q j = I5 q j) → yW l zSS D cy zFk z (d + 4) 201 bc bs K 0 0 134 [(0, yr (some 102)), (1, yi x1), (2, yi w), (3, yi (k : Int))] [] (N, T, R, X) := by
    intro m
    induction m with
    | zero => intro X w k h1 h2; have := hI.1.2.2.2.2; omega
    | succ m ih =>
      intro X w k h1 h2 iX fX
      have gX := base X fX
      have c2 : X 104 2 = I 104 2 := gX 104 2 (by omega) (by omega) (by omega) (by omega)
      have h8 := hI.1.2.2.2.2
      refine B_201_134 hT hR ⟨fun _ => ?_, fun _ => ?_⟩
      · intro I2 e2
        have n2 : ∀ q j, (q ≠ 102 ∨ j ≠ 46) → I2 q j = X q j := fun q j h => by rw [e2, yU_ne _ _ (by omega)]
        have i2 : mInv I2 := by rw [e2]; exact mInv_fld iX _ _ _ (by decide) (by decide) (by decide)
        have m2 : 0 ≤ I2 104 458 ∧ I2 104 458 ≤ 500 := by rw [n2 104 458 (by omega), gX 104 458 (by omega) (by omega) (by omega) (by omega)]; exact hm
        have p2 : mPj I I2 := fun q j a b c e f => by rw [n2 q j (by omega)]; exact gX q j (by omega) c e (by omega)
        have u2 : mUn I2 := by
          obtain ⟨v0, v8, vs⟩ := hU
          have a35 : I2 102 35 = I 102 35 := by rw [n2 102 35 (by omega)]; exact gX 102 35 (by omega) (by omega) (by omega) (by omega)
          refine ⟨by omega, by omega, fun u hu => ?_⟩
          refine mSl_at ?_ ?_ (fun j hj => ?_) (vs u (by omega))
          · rw [n2 104 0 (by omega)]; exact gX 104 0 (by omega) (by omega) (by omega) (by omega)
          · rw [n2 104 1 (by omega)]; exact gX 104 1 (by omega) (by omega) (by omega) (by omega)
          · show I2 113 _ = I 113 _
            rw [n2 113 _ (by omega)]; exact gX 113 _ (by omega) (by omega) (by omega) (by omega)
        have plain : K (some (yi w)) (N, T, R, I2) := hk _ I2 i2 m2 u2 p2
        -- brought back
        have back : ∀ Y : Nat → Nat → Int, (∀ j, j < 468 → Y 114 j = I 104 (458 + j)) → mOr Y → (∀ q j, (q ≠ 104 ∨ j < 458 ∨ 926 ≤ j) → q ≠ 113 → q ≠ 114 → q ≠ 120 → (q ≠ 102 ∨ (j ≠ 0 ∧ j ≠ 35 ∧ j ≠ 46)) → Y q j = I q j) → mUn Y → yW l zSS D cy zFk z (d + 3) 158 0 0 (fun r h' => ∃ I5, r = none ∧ h' = (N, T, R, I5) ∧ (K (some (yi w)) (N, T, R, I5))) 0 0 0 [(0, yr (some 102))] [] (N, T, R, Y) := by
          intro Y y114 oY fY uY
          refine r_back hT hR hN (fun I3 b1 b2 b3 b4 => ⟨_, rfl, rfl, ?_⟩)
          have r3 : ∀ j, I3 104 j = I 104 j := fun j => by
            by_cases h : 458 ≤ j ∧ j < 926
            · have e := b1 (j - 458) (by omega)
              rw [show 458 + (j - 458) = j by omega] at e
              rw [e, y114 _ (by omega), show 458 + (j - 458) = j by omega]
            · rw [b4 104 j (by omega) (by omega)]; exact fY 104 j (by omega) (by omega) (by omega) (by omega) (by omega)
          refine hk _ I3 (mInv_eq hI r3 (fun i hi => by rw [b4 111 i (by omega) (by omega), b4 112 i (by omega) (by omega)]; exact oY i hi)) (by rw [r3]; exact hm) ?_ (fun q j a b c e f => by rw [b4 q j (by omega) (by omega)]; exact fY q j (by omega) b c e (by omega))
          obtain ⟨v0, v8, vs⟩ := uY
          have a35 : I3 102 35 = Y 102 35 := b4 102 35 (by omega) (by omega)
          refine ⟨by omega, by omega, fun u hu => mSl_at ?_ ?_ (fun j hj => ?_) (vs u (by omega))⟩
          · rw [r3]; exact (fY 104 0 (by omega) (by omega) (by omega) (by omega) (by omega)).symm
          · rw [r3]; exact (fY 104 1 (by omega) (by omega) (by omega) (by omega) (by omega)).symm
          · exact b4 113 _ (by omega) (by omega)
        have r114 : ∀ j, j < 468 → I2 114 j = I 104 (458 + j) := fun j hj => by
          rw [n2 114 j (by omega), fX 114 j (by omega) (by omega), t5.1 j hj]; exact n1 104 _ (by omega)
        have b2 := back I2 r114 i2.2.2.2.2.2.2 (fun q j a b c e f => by rw [n2 q j (by omega)]; exact gX q j (by omega) c e (by omega)) u2
        have two := (⟨fun _ => plain, fun _ => b2⟩ : (x1 ≠ 0 → K (some (yi w)) (N, T, R, I2)) ∧ (¬ (x1 ≠ 0) → _))
        refine ⟨fun _ => two, fun c1 => ⟨fun _ => two, fun _ => ?_⟩⟩
        refine r_keep hT hR hN i2 m2 u2 (fun I9 u9 k9 f9 => ⟨_, rfl, rfl, ?_⟩)
        have i9 := (mKp_inv i2 f9).1
        have j9 : 1 ≤ I9 102 35 ∧ I9 102 35 ≤ 8 := by
          have := u2.1; have := u2.2.1
          rw [k9]; split <;> omega
        obtain ⟨o9, ho9⟩ : ∃ o : Nat, I9 102 35 = (o : Int) + 1 := ⟨(I9 102 35 - 1).toNat, by omega⟩
        have l202 : ∀ (m : Nat) (Y : Nat → Nat → Int) (i : Nat), i + m = 468 → (∀ j, j < i → Y 113 (468 * o9 + j) = I 104 (458 + j)) → (∀ j, j < 468 * o9 → Y 113 j = I9 113 j) → (∀ q j, q ≠ 113 → Y q j = I9 q j) → yW l zSS D cy zFk z (d + 4) 201 bc bs K 0 0 202 [(0, yr (some 102)), (1, yi x1), (2, yi w), (3, yi (i : Int))] [] (N, T, R, Y) := by
          intro m
          induction m with
          | zero =>
            intro Y i y1 y2 y3 y4
            have hx1 : x1 ≠ 0 := by omega
            refine B_201_202 hT hR ⟨fun _ => ⟨fun _ => ?_, fun q => absurd hx1 q⟩, fun q => absurd q (by omega)⟩
            have g4 : ∀ q j, q ≠ 113 → (q ≠ 102 ∨ j ≠ 35) → Y q j = I2 q j := fun q j a b => by rw [y4 q j a]; exact f9 q j a b
            have w0 : Y 104 0 = I 104 0 := by rw [g4 104 0 (by omega) (by omega), n2 104 0 (by omega)]; exact gX 104 0 (by omega) (by omega) (by omega) (by omega)
            have w1 : Y 104 1 = I 104 1 := by rw [g4 104 1 (by omega) (by omega), n2 104 1 (by omega)]; exact gX 104 1 (by omega) (by omega) (by omega) (by omega)
            refine hk _ Y (mInv_eq i2 (fun j => g4 104 j (by omega) (by omega)) (fun i hi => by rw [g4 111 i (by omega) (by omega), g4 112 i (by omega) (by omega)]; exact i2.2.2.2.2.2.2 i hi)) (by rw [g4 104 458 (by omega) (by omega)]; exact m2) ⟨by rw [y4 102 35 (by omega)]; omega, by rw [y4 102 35 (by omega)]; omega, fun u hu => ?_⟩ (fun q j a b c e f => by rw [g4 q j b (by omega)]; exact p2 q j a b c e f)
            rw [y4 102 35 (by omega), ho9] at hu
            by_cases eu : u = o9
            · subst eu
              exact mSl_at w0 w1 (fun j hj => y2 j (by omega)) (mSl_now hI hm)
            · refine mSl_at ?_ ?_ (fun j hj => y3 _ (by omega)) (u9.2.2 u (by omega))
              · exact y4 104 0 (by omega)
              · exact y4 104 1 (by omega)
          | succ m ihm =>
            intro Y i y1 y2 y3 y4
            have y35 : Y 102 35 = (o9 : Int) + 1 := by rw [y4 102 35 (by omega)]; exact ho9
            have y114 : Y 114 i = I 104 (458 + i) := by rw [y4 114 i (by omega), f9 114 i (by omega) (by omega)]; exact r114 i (by omega)
            refine e_ri (k := 114) (n := 468) (j := i) (c0 := 1) (hT 114 rfl) (.inr (.inl rfl)) (by omega) (show 114 < N by omega) (fun q1 q2 => ?_)
            have q1 : -2147483648 ≤ Y 114 i := q1
            have q2 : Y 114 i < 2147483648 := q2
            refine B_201_202 hT hR ⟨fun q => absurd q (by omega), fun _ => ?_⟩
            rw [y35, ysub_eq (by omega) (by omega), show (o9 : Int) + 1 - 1 = (o9 : Int) by omega, ymul_eq (by omega) (by omega), yadd_eq (x := 468 * (o9 : Int)) (by omega) (by omega), yadd_eq (x := (i : Int)) (by omega) (by omega), show ((i : Int)).toNat = i by omega, show (468 * (o9 : Int) + (i : Int)).toNat = 468 * o9 + i by omega]
            refine ⟨by omega, by omega, by omega, by omega, ?_⟩
            intro I8 e8
            rw [ynar1_eq q1 q2] at e8
            refine ihm I8 (i + 1) (by omega) (fun j hj => ?_) (fun j hj => ?_) (fun q j a => ?_)
            · rw [e8]
              by_cases e : j = i
              · subst e; rw [yU_eq]; exact y114
              · rw [yU_ne _ _ (by omega)]; exact y2 j (by omega)
            · rw [e8, yU_ne _ _ (by omega)]; exact y3 j hj
            · rw [e8, yU_ne _ _ (by omega)]; exact y4 q j a
        exact l202 468 I9 0 rfl (fun j hj => absurd hj (by omega)) (fun _ _ => rfl) (fun _ _ _ => rfl)
      · rw [yadd_eq (x := 510) (by omega) (by omega), yadd_eq (x := (k : Int)) (by omega) (by omega)]
        have next : ∀ v : Int, ∀ I13, I13 = yU X 120 2 v → yW l zSS D cy zFk z (d + 4) 201 bc bs K 0 0 134 [(0, yr (some 102)), (1, yi x1), (2, yi w), (3, yi ((k + 1 : Nat) : Int))] [] (N, T, R, I13) := fun v I13 e => by
          rw [e]
          exact ih _ w (k + 1) (by omega) (by omega) (mInv_fld iX _ _ _ (by decide) (by decide) (by decide)) (fun q j a b => by rw [yU_ne _ _ (by omega)]; exact fX q j a b)
        exact ⟨by omega, by omega, fun _ => next _, fun _ => next _⟩
  have l45 : ∀ (m : Nat) (X : Nat → Nat → Int) (w : Int) (i : Nat), i + m = 41 → (i : Int) ≤ I 104 926 → mInv X → (∀ q j, (q ≠ 104 ∨ j < 459 ∨ 926 ≤ j) → q ≠ 120 → X q j = I5 q j) → yW l zSS D cy zFk z (d + 4) 201 bc bs K 0 0 45 [(0, yr (some 102)), (1, yi x1), (2, yi w), (3, yi (i : Int))] [] (N, T, R, X) := by
    intro m
    induction m with
    | zero => intro X w i h1 h2; have := hP.2.1; omega
    | succ m ih =>
      intro X w i h1 h2 iX fX
      have gX := base X fX
      have h40 := hP.2.1
      have c926 : X 104 926 = I 104 926 := gX 104 926 (by omega) (by omega) (by omega) (by omega)
      have fin : ∀ I2, I2 = yU X 120 2 (ynar 1 0) → yW l zSS D cy zFk z (d + 4) 201 bc bs K 0 0 134 [(0, yr (some 102)), (1, yi x1), (2, yi w), (3, yi 0)] [] (N, T, R, I2) := fun I2 e => by
        rw [e]
        exact l134 9 _ w 0 rfl (by have := hI.1.2.2.2.2; omega) (mInv_fld iX _ _ _ (by decide) (by decide) (by decide)) (fun q j a b => by rw [yU_ne _ _ (by omega)]; exact fX q j a b)
      refine B_201_45 hT hR ⟨fun _ => fin, fun c1 => ⟨fun _ => fin, fun _ => ?_⟩⟩
      obtain ⟨pk, pd⟩ := hP.2.2 i (by omega)
      rw [ymul_eq (x := 2) (by omega) (by omega), yadd_eq (x := 927) (by omega) (by omega), yadd_eq (x := 928) (by omega) (by omega), yadd_eq (x := (i : Int)) (by omega) (by omega), show (927 + 2 * (i : Int)).toNat = 927 + 2 * i by omega, show (928 + 2 * (i : Int)).toNat = 928 + 2 * i by omega]
      have v1 : X 104 (927 + 2 * i) = I 104 (927 + 2 * i) := gX 104 _ (by omega) (by omega) (by omega) (by omega)
      have v2 : X 104 (928 + 2 * i) = I 104 (928 + 2 * i) := gX 104 _ (by omega) (by omega) (by omega) (by omega)
      rw [v1, v2]
      obtain ⟨kk, hkk⟩ : ∃ kk : Nat, I 104 (927 + 2 * i) = (kk : Int) := ⟨(I 104 (927 + 2 * i)).toNat, by omega⟩
      rw [hkk]
      refine ⟨by omega, by omega, by omega, by omega, r_does (d := d) hT hR (by omega) (by omega) pd iX (fun r10 I9 i9 f9 => ⟨_, _, rfl, rfl, ?_⟩)⟩
      have g9 : ∀ q j, (q ≠ 104 ∨ j < 459 ∨ 926 ≤ j) → q ≠ 120 → I9 q j = I5 q j := fun q j a b => by rw [f9 q j a]; exact fX q j a b
      intro I11 e11
      have i11 : mInv I11 := by rw [e11]; exact mInv_fld i9 _ _ _ (by decide) (by decide) (by decide)
      have g11 : ∀ q j, (q ≠ 104 ∨ j < 459 ∨ 926 ≤ j) → q ≠ 120 → I11 q j = I5 q j := fun q j a b => by rw [e11, yU_ne _ _ (by omega)]; exact g9 q j a b
      refine ⟨fun _ => ?_, fun _ => ih I11 _ (i + 1) (by omega) (by omega) i11 g11⟩
      intro I13 e13
      exact ih I13 w (i + 1) (by omega) (by omega) (by rw [e13]; exact mInv_fld i11 _ _ _ (by decide) (by decide) (by decide)) (fun q j a b => by rw [e13, yU_ne _ _ (by omega)]; exact g11 q j a b)
  have l23 : ∀ (m : Nat) (X : Nat → Nat → Int) (i : Nat), i + m = 3 → mInv X → (∀ q j, (q ≠ 104 ∨ j < 459 ∨ 926 ≤ j) → q ≠ 120 → X q j = I5 q j) → yW l zSS D cy zFk z (d + 4) 201 bc bs K 0 0 23 [(0, yr (some 102)), (1, yi x1), (2, yi (i : Int))] [] (N, T, R, X) := by
    intro m
    induction m with
    | zero => intro X i h1 iX fX; exact B_201_23 hT hR ⟨fun _ => l45 41 X (-1) 0 rfl hP.1 iX fX, fun q => absurd q (by omega)⟩
    | succ m ih =>
      intro X i h1 iX fX
      refine B_201_23 hT hR ⟨fun q => absurd q (by omega), fun _ => ?_⟩
      rw [yadd_eq (x := (i : Int)) (by omega) (by omega)]
      refine ⟨by omega, by omega, ?_⟩
      intro I4 e4
      exact ih I4 (i + 1) (by omega) (by rw [e4]; exact mInv_fld iX _ _ _ (by decide) (by decide) (by decide)) (fun q j a b => by rw [e4, yU_ne _ _ (by omega)]; exact fX q j a b)
  exact l23 3 I5 0 rfl i5 (fun _ _ _ _ => rfl)
end Sm
