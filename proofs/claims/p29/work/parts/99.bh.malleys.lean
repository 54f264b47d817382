/-! THE REFERENCE's ALLEYS, to the letter -/
section Xs
variable {l : Launch} {D : va_G} {cy : Nat → ClassId} {z d bc bs N : Nat} {T : Nat → Nat × Nat} {R : Nat → Nat → Option Nat} {I : Nat → Nat → Int} {K : yKo}
/-- the land is taken over -/
theorem x_156l (hT : yLT T) (hR : yLR R) (hN : 126 ≤ N) (hO : mOr I) {Y : Nat → Nat → Int} (hY : mH Y) (fY : ∀ k j, ¬ mAw k j → Y k j = I k j) (vY : Y 102 2 = 0 ∧ 0 ≤ Y 102 14 ∧ Y 102 14 ≤ 10000)
    (hk : ∀ r I', r = Y 102 19 → I' 102 15 = Y 102 15 → I' 104 2 = Y 105 2 → (∀ j, j < 8 → I' 107 j = Y 107 (8 + j)) → (I' 102 2 = 0 ∧ 0 ≤ I' 102 14 ∧ I' 102 14 ≤ 10000) → ((∀ k j, ¬ mAw k j → I' k j = I k j) ∨ ((∀ k j, ¬ mAw k j → k ≠ 104 → (k ≠ 102 ∨ j ≠ 35) → I' k j = I k j) ∧ mInv I' ∧ I' 102 35 = 0 ∧ ∃ H, mH H ∧ ∀ j, j < 1188 → I' 104 j = mAl (fun j => H 105 j) j)) → K (some (yi r)) (N, T, R, I')) :
    yW l zSS D cy zFk z (d + 6) 156 bc bs K 0 0 113 [(0, yr (some 102)), (1, yi 0)] [] (N, T, R, Y) := by
  -- starts
  have l214 : ∀ (m : Nat) (X : Nat → Nat → Int) (i : Nat), i + m = 8 → (∀ j, j < 1188 → X 104 j = (if j < 458 then Y 105 j else if 462 ≤ j ∧ j < 462 + i then Y 105 (350 + (j - 462)) else if 526 ≤ j ∧ j < 626 then Y 105 (358 + (j - 526)) else 0)) → (∀ k j, k ≠ 104 → k ≠ 107 → X k j = Y k j) → (∀ j, j < 8 → X 107 j = Y 107 (8 + j)) → yW l zSS D cy zFk z (d + 6) 156 bc bs K 0 0 214 [(0, yr (some 102)), (1, yi (i : Int))] [] (N, T, R, X) := by
    intro m
    induction m with
    | zero =>
      intro X i h1 h2 h3 h7
      have hi : i = 8 := by omega
      subst hi
      refine B_156_214 hT hR ⟨fun _ => ?_, fun c => absurd c (by omega)⟩
      refine r_begins2 hT hR (fun I2 b2 s2 => ⟨_, rfl, rfl, ?_⟩)
      intro I3 e3
      have s3 : ∀ k j, k ≠ 104 → k ≠ 107 → (k ≠ 102 ∨ j ≠ 35) → I3 k j = Y k j := fun k j a b c => by
        rw [e3, yU_ne _ _ (by omega), s2 k j a]; exact h3 k j a b
      have r3 : ∀ j, j < 1188 → I3 104 j = mAl (fun j => Y 105 j) j := fun j hj => by
        rw [e3, yU_ne _ _ (by omega), b2 j]
        exact mBg_cg (h2 j hj)
      have v35 : I3 102 35 = 0 := by rw [e3, yU_eq]
      have hO3 : mOr I3 := fun i hi => by
        rw [s3 111 i (by decide) (by decide) (.inl (by decide)), s3 112 i (by decide) (by decide) (.inl (by decide)), fY 111 i (by unfold mAw; omega), fY 112 i (by unfold mAw; omega)]; exact hO i hi
      refine hk _ I3 (s3 102 19 (by decide) (by decide) (.inr (by decide))) (s3 102 15 (by decide) (by decide) (.inr (by decide))) ?_ (fun j hj => by rw [e3, yU_ne _ _ (by omega), s2 107 j (by decide)]; exact h7 j hj) ?_ (.inr ⟨fun k j a b c => ?_, mAl_inv hY hO3 r3, v35, Y, hY, r3⟩)
      · rw [r3 2 (by omega)]
        unfold mAl mBg
        rw [if_neg (by omega), if_neg (by omega), if_neg (by omega), if_neg (by omega), if_neg (by omega), if_neg (by omega), if_neg (by omega), if_neg (by omega)]
        show (if (2 : Nat) < 458 then Y 105 2 else _) = Y 105 2
        rw [if_pos (by omega)]
      · rw [s3 102 2 (by decide) (by decide) (.inr (by decide)), s3 102 14 (by decide) (by decide) (.inr (by decide))]; exact vY
      · rw [s3 k j b (fun q => a (by unfold mAw; omega)) c]; exact fY k j a
    | succ m ih =>
      intro X i h1 h2 h3 h7
      refine e_ri (k := 104) (n := 1188) (j := 350 + i) (c0 := 1) (hT 104 rfl) (.inr (.inl rfl)) (by omega) (show 104 < N by omega) (fun q1 q2 => ?_)
      have q1 : -2147483648 ≤ X 104 (350 + i) := q1
      have q2 : X 104 (350 + i) < 2147483648 := q2
      refine B_156_214 hT hR ⟨fun c => absurd c (by omega), fun _ => ?_⟩
      rw [yadd_eq (x := 350) (by omega) (by omega), yadd_eq (x := 462) (by omega) (by omega), yadd_eq (x := (i : Int)) (by omega) (by omega)]
      have x1 : ((350 : Int) + (i : Int)).toNat = 350 + i := by omega
      have x2 : ((462 : Int) + (i : Int)).toNat = 462 + i := by omega
      rw [x1, x2]
      refine ⟨by omega, by omega, by omega, by omega, ?_⟩
      intro I8 e8
      rw [ynar1_eq q1 q2, h2 (350 + i) (by omega), if_pos (by omega)] at e8
      refine ih I8 (i + 1) (by omega) (fun j hj => ?_) (fun k j a b => ?_) (fun j hj => by rw [e8, yU_ne _ _ (by omega)]; exact h7 j hj)
      · rw [e8]
        by_cases e : j = 462 + i
        · subst e
          rw [yU_eq, if_neg (by omega), if_pos (by omega), show 350 + (462 + i - 462) = 350 + i by omega]
        · rw [yU_ne _ _ (by omega), h2 j hj]
          by_cases c1 : j < 458
          · rw [if_pos c1, if_pos c1]
          · rw [if_neg c1, if_neg c1]
            by_cases c2 : 462 ≤ j ∧ j < 462 + i
            · rw [if_pos c2, if_pos (by omega)]
            · rw [if_neg c2, if_neg (c := 462 ≤ j ∧ j < 462 + (i + 1)) (by omega)]
      · rw [e8, yU_ne _ _ (by omega)]; exact h3 k j a b
  -- lanes
  have l180 : ∀ (m : Nat) (X : Nat → Nat → Int) (i : Nat), i + m = 100 → (∀ j, j < 1188 → X 104 j = (if j < 458 then Y 105 j else if 526 ≤ j ∧ j < 526 + i then Y 105 (358 + (j - 526)) else 0)) → (∀ k j, k ≠ 104 → k ≠ 107 → X k j = Y k j) → (∀ j, j < 8 → X 107 j = Y 107 (8 + j)) → yW l zSS D cy zFk z (d + 6) 156 bc bs K 0 0 180 [(0, yr (some 102)), (1, yi (i : Int))] [] (N, T, R, X) := by
    intro m
    induction m with
    | zero =>
      intro X i h1 h2 h3 h7
      refine B_156_180 hT hR ⟨fun _ => ?_, fun c => absurd c (by omega)⟩
      refine l214 8 X 0 rfl (fun j hj => ?_) h3 h7
      rw [h2 j hj]
      by_cases c1 : j < 458
      · rw [if_pos c1, if_pos c1]
      · rw [if_neg c1, if_neg c1, if_neg (c := 462 ≤ j ∧ j < 462 + 0) (by omega)]
        by_cases c2 : 526 ≤ j ∧ j < 626
        · rw [if_pos (by omega), if_pos c2]
        · rw [if_neg (by omega), if_neg c2]
    | succ m ih =>
      intro X i h1 h2 h3 h7
      refine e_ri (k := 104) (n := 1188) (j := 358 + i) (c0 := 1) (hT 104 rfl) (.inr (.inl rfl)) (by omega) (show 104 < N by omega) (fun q1 q2 => ?_)
      have q1 : -2147483648 ≤ X 104 (358 + i) := q1
      have q2 : X 104 (358 + i) < 2147483648 := q2
      refine B_156_180 hT hR ⟨fun c => absurd c (by omega), fun _ => ?_⟩
      rw [yadd_eq (x := 358) (by omega) (by omega), yadd_eq (x := 526) (by omega) (by omega), yadd_eq (x := (i : Int)) (by omega) (by omega)]
      have x1 : ((358 : Int) + (i : Int)).toNat = 358 + i := by omega
      have x2 : ((526 : Int) + (i : Int)).toNat = 526 + i := by omega
      rw [x1, x2]
      refine ⟨by omega, by omega, by omega, by omega, ?_⟩
      intro I6 e6
      rw [ynar1_eq q1 q2, h2 (358 + i) (by omega), if_pos (by omega)] at e6
      refine ih I6 (i + 1) (by omega) (fun j hj => ?_) (fun k j a b => ?_) (fun j hj => by rw [e6, yU_ne _ _ (by omega)]; exact h7 j hj)
      · rw [e6]
        by_cases e : j = 526 + i
        · subst e
          rw [yU_eq, if_neg (by omega), if_pos (by omega), show 358 + (526 + i - 526) = 358 + i by omega]
        · rw [yU_ne _ _ (by omega), h2 j hj]
          by_cases c1 : j < 458
          · rw [if_pos c1, if_pos c1]
          · rw [if_neg c1, if_neg c1]
            by_cases c2 : 526 ≤ j ∧ j < 526 + i
            · rw [if_pos c2, if_pos (by omega)]
            · rw [if_neg c2, if_neg (by omega)]
      · rw [e6, yU_ne _ _ (by omega)]; exact h3 k j a b
  -- names
  have l151 : ∀ (m : Nat) (X : Nat → Nat → Int) (i : Nat), i + m = 8 → (∀ j, j < 1188 → X 104 j = (if j < 458 then Y 105 j else 0)) → (∀ k j, k ≠ 104 → k ≠ 107 → X k j = Y k j) → (∀ j, j < i → X 107 j = Y 107 (8 + j)) → (∀ j, 8 ≤ j → X 107 j = Y 107 j) → yW l zSS D cy zFk z (d + 6) 156 bc bs K 0 0 151 [(0, yr (some 102)), (1, yi (i : Int))] [] (N, T, R, X) := by
    intro m
    induction m with
    | zero =>
      intro X i h1 h2 h3 h7 h8
      refine B_156_151 hT hR ⟨fun _ => ?_, fun c => absurd c (by omega)⟩
      refine l180 100 X 0 rfl (fun j hj => ?_) h3 (fun j hj => h7 j (by omega))
      rw [h2 j hj]
      by_cases c1 : j < 458
      · rw [if_pos c1, if_pos c1]
      · rw [if_neg c1, if_neg c1, if_neg (by omega)]
    | succ m ih =>
      intro X i h1 h2 h3 h7 h8
      refine B_156_151 hT hR ⟨fun c => absurd c (by omega), fun _ => ?_⟩
      rw [yadd_eq (x := 8) (by omega) (by omega), yadd_eq (x := (i : Int)) (by omega) (by omega), show ((i : Int)).toNat = i by omega, show ((8 : Int) + (i : Int)).toNat = 8 + i by omega]
      refine ⟨by omega, by omega, by omega, by omega, ?_⟩
      intro I6 e6
      refine ih I6 (i + 1) (by omega) (fun j hj => ?_) (fun k j a b => ?_) (fun j hj => by
        rw [e6]
        by_cases e : j = i
        · subst e; rw [yU_eq]; exact h8 _ (by omega)
        · rw [yU_ne _ _ (by omega)]; exact h7 j (by omega)) (fun j hj => by rw [e6, yU_ne _ _ (by omega)]; exact h8 j hj)
      · rw [e6, yU_ne _ _ (by omega)]; exact h2 j hj
      · rw [e6, yU_ne _ _ (by omega)]; exact h3 k j a b
  have l113 : ∀ (m : Nat) (X : Nat → Nat → Int) (i : Nat), i + m = 1188 → (∀ j, j < i → X 104 j = (if j < 458 then Y 105 j else 0)) → (∀ k j, k ≠ 104 → X k j = Y k j) → yW l zSS D cy zFk z (d + 6) 156 bc bs K 0 0 113 [(0, yr (some 102)), (1, yi (i : Int))] [] (N, T, R, X) := by
    intro m
    induction m with
    | zero =>
      intro X i h1 h2 h3
      exact B_156_113 hT hR ⟨fun _ => l151 8 X 0 rfl (fun j hj => h2 j (by omega)) (fun k j a _ => h3 k j a) (fun j hj => absurd hj (Nat.not_lt_zero _)) (fun j _ => h3 107 j (by decide)), fun c => absurd c (by omega)⟩
    | succ m ih =>
      intro X i h1 h2 h3
      have next : ∀ v : Int, v = (if i < 458 then Y 105 i else 0) → yW l zSS D cy zFk z (d + 6) 156 bc bs K 0 0 113 [(0, yr (some 102)), (1, yi ((i + 1 : Nat) : Int))] [] (N, T, R, yU X 104 i v) := by
        intro v hv
        refine ih _ (i + 1) (by omega) (fun j hj => ?_) (fun k j a => ?_)
        · by_cases e : j = i
          · subst e; rw [yU_eq]; exact hv
          · rw [yU_ne _ _ (by omega)]; exact h2 j (by omega)
        · rw [yU_ne _ _ (by omega)]; exact h3 k j a
      by_cases ci : i < 458
      · refine e_ri (k := 105) (n := 458) (j := i) (c0 := 1) (hT 105 rfl) (.inr (.inl rfl)) (by omega) (show 105 < N by omega) (fun q1 q2 => ?_)
        have q1 : -2147483648 ≤ X 105 i := q1
        have q2 : X 105 i < 2147483648 := q2
        refine B_156_113 hT hR ⟨fun c => absurd c (by omega), fun _ => ⟨fun c => absurd c (by omega), fun _ => ?_⟩⟩
        rw [yadd_eq (x := (i : Int)) (by omega) (by omega), show ((i : Int)).toNat = i by omega]
        refine ⟨by omega, by omega, by omega, by omega, ?_⟩
        intro I10 e10
        rw [ynar1_eq q1 q2, h3 105 i (by decide)] at e10
        rw [e10]
        exact next _ (by rw [if_pos ci])
      · refine B_156_113 hT hR ⟨fun c => absurd c (by omega), fun _ => ⟨fun _ => ?_, fun c => absurd c (by omega)⟩⟩
        rw [yadd_eq (x := (i : Int)) (by omega) (by omega), show ((i : Int)).toNat = i by omega]
        refine ⟨by omega, by omega, ?_⟩
        intro I5 e5
        rw [ynar1_eq (x := 0) (by omega) (by omega)] at e5
        rw [e5]
        exact next _ (by rw [if_neg ci])
  exact l113 1188 Y 0 rfl (fun j hj => absurd hj (by omega)) (fun _ _ _ => rfl)

/-- alleys -/
theorem x_156 (hT : yLT T) (hR : yLR R) (hN : 126 ≤ N) {n : Nat} (hn2 : I 102 2 = (n : Int)) (hn : n ≤ 940) (h14 : 0 ≤ I 102 14 ∧ I 102 14 ≤ 10000) (hO : mOr I) (hb : ∀ j, j < n → -128 ≤ I 103 j ∧ I 103 j < 128) (hw : ∀ i, i < 24 → I 108 i = rCd i)
    (hk : ∀ r I', r = kAns (zAl (I 103) n) → I' 102 15 = kFc (zAl (I 103) n) → (∀ f, zAl (I 103) n = .inl f → I' 104 2 = I 104 2 ∧ ∀ j, j < 8 → I' 107 j = I 107 j) → (∀ S c, zAl (I 103) n = .inr (S, c) → I' 104 2 = (S.ch : Int) ∧ mNm I' 0 S.ch S.nm) → (I' 102 2 = 0 ∧ 0 ≤ I' 102 14 ∧ I' 102 14 ≤ 10000) → ((∀ k j, ¬ mAw k j → I' k j = I k j) ∨ ((∀ k j, ¬ mAw k j → k ≠ 104 → (k ≠ 102 ∨ j ≠ 35) → I' k j = I k j) ∧ mInv I' ∧ I' 102 35 = 0 ∧ ∃ H, mH H ∧ ∀ j, j < 1188 → I' 104 j = mAl (fun j => H 105 j) j)) → K (some (yi r)) (N, T, R, I')) :
    yW l zSS D cy zFk z (d + 6) 156 bc bs K 0 0 0 [(0, yr (some 102))] [] (N, T, R, I) := by
  obtain ⟨t, ht⟩ : ∃ t, I 103 = t := ⟨_, rfl⟩
  rw [ht] at hk
  have hb : ∀ j, j < n → -128 ≤ t j ∧ t j < 128 := by rw [← ht]; exact hb
  obtain ⟨G, hG⟩ : ∃ G, zAl t n = G := ⟨_, rfl⟩
  rw [hG] at hk
  have lm : ∀ p, p ≤ n → (tk t n 900 p).2.1 ≤ n := fun p hp => tk_pl hp
  -- LINE by LINE
  have l68 : ∀ (m c p : Nat) (S : Ld) (X : Nat → Nat → Int), c + m = 941 → c ≤ p → p ≤ n → mRd X t n 900 p → mLr X S → mLz X S → X 102 19 = (c : Int) → X 102 2 = 0 → (∀ k j, ¬ mAw k j → X k j = I k j) → (∀ j, j < 8 → X 107 j = I 107 j) → G = kAll (tk t n 900) m S c p → yW l zSS D cy zFk z (d + 6) 156 bc bs K 0 0 68 [(0, yr (some 102))] [] (N, T, R, X) := by
    intro m
    induction m with
    | zero => intro c p S X hm cp pn; omega
    | succ m ih =>
      intro c p S X hm cp pn r L W x19 x2 fX x7 ek
      have r0 := r
      have t0 : X 103 = t := by rw [← ht]; exact funext fun j => fX 103 j (by unfold mAw; omega)
      have hw0 : ∀ i, i < 24 → X 108 i = rCd i := fun i hi => by rw [fX 108 i (by unfold mAw; omega)]; exact hw i hi
      obtain ⟨-, g11, -, -, -, -, -, -, -, g14⟩ := mTk_tk r.2.2
      rw [kAll] at ek
      refine B_156_68 hT hR ⟨fun c0 => ?_, fun c0 => ?_⟩
      · have z0 : (tk t n 900 p).1 = 0 := by rw [g11] at c0; omega
        rw [if_pos z0] at ek
        exact x_156l hT hR hN hO (mLr_mH L) fX ⟨x2, g14⟩ (fun r I' e e15 e2 e7 a b => hk r I' (by rw [e, x19, ek]; rfl) (by rw [e15, r0.2.1.2, ek]; rfl) (fun f e => by rw [ek] at e; cases e) (fun S' c' e => by
          rw [ek] at e
          cases e
          refine ⟨e2.trans L.2.2.2.2.1.1, L.2.2.2.2.1.2, fun i hi => ?_⟩
          have c8 := L.2.2.2.2.1.2
          have g := (L.2.2.2.2.2.1 i hi).1
          rw [show 0 + i = i by omega, e7 i (by omega)]
          exact g) a b)
      · have z0 : (tk t n 900 p).1 ≠ 0 := fun q => c0 (by rw [g11, q]; rfl)
        rw [if_neg z0] at ek
        refine x_211 (d := d) hT hR r hn hb t0 hw0 L W ⟨fun f I' e a fl => ⟨_, _, rfl, rfl, fun _ => ?_, fun q => absurd rfl q⟩, fun S' p' I2 e a r2 L2 W2 => ⟨_, _, rfl, rfl, fun q => absurd q (by decide), fun _ => ?_⟩⟩
        · rw [e] at ek
          obtain ⟨b1, b2, b3⟩ := kLine_bad (tk_go t n 900) lm pn e
          refine hk _ I' ?_ (by rw [fl.1, ek]; rfl) (fun _ _ => ⟨by rw [a 104 2 (by omega)]; exact fX 104 2 (by unfold mAw; omega), fun j hj => by rw [a 107 j (by omega)]; exact x7 j hj⟩) (fun S' c' e => by rw [ek] at e; cases e) ⟨by rw [a 102 2 (by omega)]; exact x2, fl.2.2⟩ (.inl (fun k j h => by rw [a k j (by unfold mAw at h; omega)]; exact fX k j h))
          rw [fl.2.1, ysub_eq (by omega) (by omega), ek]
          rfl
        have go := kLine_go (tk_go t n 900) pn e
        rw [e] at ek
        dsimp only at ek
        have f2 : ∀ k j, ¬ mAw k j → I2 k j = I k j := fun k j h => by rw [a k j (by unfold mAw at h; omega)]; exact fX k j h
        have t2 : I2 103 = t := by rw [← ht]; exact funext fun j => f2 103 j (by unfold mAw; omega)
        have x72 : ∀ j, j < 8 → I2 107 j = I 107 j := fun j hj => by rw [a 107 j (by omega)]; exact x7 j hj
        have x22 : I2 102 2 = 0 := by rw [a 102 2 (by omega)]; exact x2
        refine x_236 (d := d + 3) hT hR r2 hn hb t2 (fun f I' e2 a2 fl => ⟨_, _, rfl, rfl, fun q => absurd rfl q, fun _ => ?_⟩) (fun p2 I5 e2 a2 r5 => ⟨_, _, rfl, rfl, fun _ I8 e8 => ?_, fun q => absurd (by decide : (1 : Int) ≠ 0) q⟩)
        · rw [e2] at ek
          have fle : f.2 ≤ n := by
            unfold kSign at e2
            split at e2
            · cases e2
            · cases e2; exact lm _ go.2
          refine hk _ I' ?_ (by rw [fl.1, ek]; rfl) (fun _ _ => ⟨by rw [a2 104 2 (by omega)]; exact f2 104 2 (by unfold mAw; omega), fun j hj => by rw [a2 107 j (by omega)]; exact x72 j hj⟩) (fun S' c' e => by rw [ek] at e; cases e) ⟨by rw [a2 102 2 (by omega)]; exact x22, fl.2.2⟩ (.inl (fun k j h => by rw [a2 k j (by unfold mAw at h; omega)]; exact f2 k j h))
          rw [fl.2.1, ysub_eq (by omega) (by omega), ek]
          rfl
        · have lt : p' < p2 ∧ p2 ≤ n := by
            obtain ⟨-, q1, q2, -, q3, -⟩ := tk_ok (t := t) (lim := 900) go.2
            unfold kSign at e2
            split at e2
            · rename_i w
              cases e2
              exact ⟨q3 w.1, q2⟩
            · cases e2
          rw [e2] at ek
          dsimp only at ek
          have fr : ∀ x y, ¬ (x = 102 ∧ y = 19) → I8 x y = I5 x y := fun x y g => by rw [e8, yU_ne _ _ g]
          have r8 : mRd I8 t n 900 p2 := mRd_cg r5 (fun b hb => fr 102 b (by omega))
          have L8 : mLr I8 S' := mLr_cg (mLr_fr L2 a2) (fun x y g => fr x y (by omega))
          have W8 : mLz I8 S' := mLz_cg W2 (by rw [fr 102 22 (by omega)]; exact a2 102 22 (by omega)) (by rw [fr 102 23 (by omega)]; exact a2 102 23 (by omega)) rfl rfl
          have c19 : I5 102 19 = (c : Int) := by rw [a2 102 19 (by omega), a 102 19 (by omega)]; exact x19
          exact ih (c + 1) p2 S' I8 (by omega) (by omega) lt.2 r8 L8 W8 (by rw [e8, yU_eq, c19, yadd_eq (by omega) (by omega)]; rfl) (by rw [fr 102 2 (by omega), a2 102 2 (by omega)]; exact x22) (fun k j h => by rw [fr k j (by unfold mAw at h; omega), a2 k j (by unfold mAw at h; omega)]; exact f2 k j h) (fun j hj => by rw [fr 107 j (by omega), a2 107 j (by omega)]; exact x72 j hj) ek
  refine B_156_0 hT hR (fun I1 e1 => B_244_0 hT hR (fun I2 e2 I3 e3 I4 e4 I5 e5 => ⟨_, rfl, rfl, fun I6 e6 I7 e7 I8 e8 I9 e9 I10 e10 I11 e11 => ?_⟩))
  have v15 : I11 102 15 = 0 := by rw [e11, yU_ne _ _ (by omega), e10, yU_ne _ _ (by omega), e9, yU_ne _ _ (by omega), e8, yU_ne _ _ (by omega), e7, yU_ne _ _ (by omega), e6, yU_eq]
  have f7' : ∀ j, I11 107 j = I 107 j := fun j => by rw [e11, yU_ne _ _ (by omega), e10, yU_ne _ _ (by omega), e9, yU_ne _ _ (by omega), e8, yU_ne _ _ (by omega), e7, yU_ne _ _ (by omega), e6, yU_ne _ _ (by omega), e5, yU_ne _ _ (by omega), e4, yU_ne _ _ (by omega), e3, yU_ne _ _ (by omega), e2, yU_ne _ _ (by omega), e1, yU_ne _ _ (by omega)]
  have v : I11 102 2 = 0 ∧ I11 102 3 = (n : Int) ∧ I11 102 4 = 0 ∧ I11 102 5 = 900 ∧ I11 102 19 = 0 ∧ I11 102 20 = 0 ∧ I11 102 21 = 0 ∧ I11 102 22 = 0 ∧ I11 102 23 = 0 ∧ I11 102 14 = I 102 14 := by
    exact ⟨by rw [e11, yU_ne _ _ (by omega), e10, yU_ne _ _ (by omega), e9, yU_ne _ _ (by omega), e8, yU_ne _ _ (by omega), e7, yU_ne _ _ (by omega), e6, yU_ne _ _ (by omega), e5, yU_ne _ _ (by omega), e4, yU_ne _ _ (by omega), e3, yU_eq], by rw [e11, yU_ne _ _ (by omega), e10, yU_ne _ _ (by omega), e9, yU_ne _ _ (by omega), e8, yU_ne _ _ (by omega), e7, yU_ne _ _ (by omega), e6, yU_ne _ _ (by omega), e5, yU_ne _ _ (by omega), e4, yU_ne _ _ (by omega), e3, yU_ne _ _ (by omega), e2, yU_eq, e1, yU_ne _ _ (by omega)]; exact hn2, by rw [e11, yU_ne _ _ (by omega), e10, yU_ne _ _ (by omega), e9, yU_ne _ _ (by omega), e8, yU_ne _ _ (by omega), e7, yU_ne _ _ (by omega), e6, yU_ne _ _ (by omega), e5, yU_ne _ _ (by omega), e4, yU_eq], by rw [e11, yU_ne _ _ (by omega), e10, yU_ne _ _ (by omega), e9, yU_ne _ _ (by omega), e8, yU_ne _ _ (by omega), e7, yU_ne _ _ (by omega), e6, yU_ne _ _ (by omega), e5, yU_eq], by rw [e11, yU_ne _ _ (by omega), e10, yU_ne _ _ (by omega), e9, yU_ne _ _ (by omega), e8, yU_ne _ _ (by omega), e7, yU_eq], by rw [e11, yU_ne _ _ (by omega), e10, yU_ne _ _ (by omega), e9, yU_ne _ _ (by omega), e8, yU_eq], by rw [e11, yU_ne _ _ (by omega), e10, yU_ne _ _ (by omega), e9, yU_eq], by rw [e11, yU_ne _ _ (by omega), e10, yU_eq], by rw [e11, yU_eq], by rw [e11, yU_ne _ _ (by omega), e10, yU_ne _ _ (by omega), e9, yU_ne _ _ (by omega), e8, yU_ne _ _ (by omega), e7, yU_ne _ _ (by omega), e6, yU_ne _ _ (by omega), e5, yU_ne _ _ (by omega), e4, yU_ne _ _ (by omega), e3, yU_ne _ _ (by omega), e2, yU_ne _ _ (by omega), e1, yU_ne _ _ (by omega)]⟩
  have f11 : ∀ k j, ¬ mAw k j → I11 k j = I k j := fun k j h => by
    unfold mAw at h
    rw [e11, yU_ne _ _ (by omega), e10, yU_ne _ _ (by omega), e9, yU_ne _ _ (by omega), e8, yU_ne _ _ (by omega), e7, yU_ne _ _ (by omega), e6, yU_ne _ _ (by omega), e5, yU_ne _ _ (by omega), e4, yU_ne _ _ (by omega), e3, yU_ne _ _ (by omega), e2, yU_ne _ _ (by omega), e1, yU_ne _ _ (by omega)]
  obtain ⟨v2, v3, v4, v5, v19, v20, v21, v22, v23, v14⟩ := v
  have l44 : ∀ (m : Nat) (X : Nat → Nat → Int) (i : Nat), i + m = 458 → (∀ j, j < i → X 105 j = 0) → (∀ k j, k ≠ 105 → X k j = I11 k j) → yW l zSS D cy zFk z (d + 6) 156 bc bs K 0 0 44 [(0, yr (some 102)), (1, yi (i : Int))] [] (N, T, R, X) := by
    intro m
    induction m with
    | zero =>
      intro X i h1 h2 h3
      have fX : ∀ k j, ¬ mAw k j → X k j = I k j := fun k j h => by rw [h3 k j (by unfold mAw at h; omega)]; exact f11 k j h
      have tX : X 103 = t := by rw [← ht]; exact funext fun j => fX 103 j (by unfold mAw; omega)
      refine B_156_44 hT hR ⟨fun _ => ?_, fun c => absurd c (by omega)⟩
      refine x_182 (d := d + 4) hT hR (n := n) (lim := 900) (p := 0) (by rw [h3 102 3 (by decide)]; exact v3) hn (by rw [h3 102 5 (by decide)]; exact v5) (by rw [h3 102 4 (by decide)]; exact v4) (Nat.zero_le _) (by rw [tX]; exact hb) (by rw [h3 102 14 (by decide), v14]; exact h14) (fun I9 f9 q9 => ⟨_, rfl, rfl, ?_⟩)
      rw [tX] at q9
      have g : ∀ y, (y < 4 ∨ (4 < y ∧ y < 11) ∨ (17 < y)) → I9 102 y = I11 102 y := fun y hy => by rw [f9 102 y (by omega)]; exact h3 102 y (by decide)
      have r9 : mRd I9 t n 900 0 := ⟨by rw [g 3 (by omega)]; exact v3, ⟨by rw [g 5 (by omega)]; exact v5, by rw [f9 102 15 (by omega), h3 102 15 (by decide)]; exact v15⟩, q9⟩
      have z9 : ∀ j, j < 458 → I9 105 j = 0 := fun j hj => by rw [f9 105 j (by omega)]; exact h2 j (by omega)
      refine l68 941 0 0 Ld0 I9 rfl (Nat.le_refl _) (Nat.zero_le _) r9 (mLr_0 z9 (by rw [g 20 (by omega)]; exact v20) (by rw [g 21 (by omega)]; exact v21)) ⟨⟨fun _ => rfl, fun _ => by rw [g 22 (by omega)]; exact v22⟩, ⟨fun _ => rfl, fun _ => by rw [g 23 (by omega)]; exact v23⟩⟩ (by rw [g 19 (by omega)]; exact v19) (by rw [g 2 (by omega)]; exact v2) (fun k j h => ?_) (fun j _ => by rw [f9 107 j (by omega), h3 107 j (by decide)]; exact f7' j) hG.symm
      rw [f9 k j (by unfold mAw at h; omega)]
      exact fX k j h
    | succ m ih =>
      intro X i h1 h2 h3
      refine B_156_44 hT hR ⟨fun c => absurd c (by omega), fun _ => ?_⟩
      rw [yadd_eq (x := (i : Int)) (by omega) (by omega), show ((i : Int)).toNat = i by omega, ynar1_eq (x := 0) (by omega) (by omega)]
      refine ⟨by omega, by omega, ?_⟩
      intro I5 e5
      refine ih I5 (i + 1) (by omega) (fun j hj => ?_) (fun k j a => ?_)
      · rw [e5]
        by_cases e : j = i
        · subst e; rw [yU_eq]
        · rw [yU_ne _ _ (by omega)]; exact h2 j (by omega)
      · rw [e5, yU_ne _ _ (by omega)]; exact h3 k j a
  exact l44 458 I11 0 rfl (fun j hj => absurd hj (by omega)) (fun _ _ _ => rfl)
end Xs
