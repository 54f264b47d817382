/-! PLAN of the reference, to the letter -/
section Xy
variable {l : Launch} {D : va_G} {cy : Nat → ClassId} {z d bc bs N : Nat} {T : Nat → Nat × Nat} {R : Nat → Nat → Option Nat} {I : Nat → Nat → Int} {K : yKo} {t : Nat → Int} {n lim p ch : Nat} {nm : Nat → Int}
/-- find, among the NAMES that are -/
theorem x_180n (hT : yLT T) (hR : yLR R) (h : mRd I t n lim p) (w : (tk t n lim p).1 = 1) (L : mNm I 0 ch nm) (hk : K (some (yi (kFind (nLd ch nm) (tk t n lim p).2.2.1))) (N, T, R, I)) :
    yW l zSS D cy zFk z d 180 bc bs K 0 0 0 [(0, yr (some 102)), (1, yi 0), (2, yi (ch : Int))] [] (N, T, R, I) := by
  obtain ⟨c8, F⟩ := L
  obtain ⟨-, -, -, -, g17, -⟩ := mTk_tk h.2.2
  obtain ⟨e17, ww⟩ := g17 w
  have r2 := isW_rng ww
  have loop : ∀ (m c : Nat), c + m = ch → (∀ j, j < c → nm j ≠ (tk t n lim p).2.2.1) → yW l zSS D cy zFk z d 180 bc bs K 0 0 2 [(0, yr (some 102)), (1, yi 0), (2, yi (ch : Int)), (3, yi (c : Int))] [] (N, T, R, I) := by
    intro m
    induction m with
    | zero =>
      intro c hm no
      rw [kFind_none (S := nLd ch nm) (fun j hj => no j (by have hj : j < ch := hj; omega))] at hk
      exact B_180_2 hT hR ⟨fun _ => hk, fun c1 => absurd (by omega) c1⟩
    | succ m ih =>
      intro c hm no
      obtain ⟨gn, gw⟩ := F c (by omega)
      have r1 := isW_rng gw
      have cmp := ylcmp_eq (x := nm c) (y := (tk t n lim p).2.2.1) ⟨by omega, by omega⟩ ⟨by omega, by omega⟩
      refine B_180_2 hT hR ⟨fun c1 => absurd c1 (by omega), fun _ => ?_⟩
      rw [yadd_eq (x := 0) (by omega) (by omega), show ((0 : Int) + (c : Int)).toNat = 0 + c by omega, gn, e17]
      refine ⟨by omega, by omega, fun c2 => ?_, fun c2 => ?_⟩
      · have := ih (c + 1) (by omega) (fun j hj => by
          by_cases e : j = c
          · subst e; exact fun q => c2 (cmp.mpr q)
          · exact no j (by omega))
        rw [yadd_eq (by omega) (by omega)]
        exact this
      · have e : nm c = (tk t n lim p).2.2.1 := cmp.mp (by omega)
        rw [kFind_some (S := nLd ch nm) (c := c) (show c < ch by omega) e no] at hk
        exact hk
  exact B_180_0 hT hR (loop ch 0 (by omega) (fun j hj => absurd hj (Nat.not_lt_zero _)))
theorem x_177 (hT : yLT T) (hR : yLR R) (h : mRd I t n lim p) (hn : n ≤ 940) (hp : p ≤ n) {x1 : Int} (hk : ∀ I', mFt I I' → mFl I' (x1, (tk t n lim p).2.1) → K (some (yi (-1 - (((tk t n lim p).2.1 : Nat) : Int)))) (N, T, R, I')) :
    yW l zSS D cy zFk z (d + 1) 177 bc bs K 0 0 0 [(0, yr (some 102)), (1, yi x1)] [] (N, T, R, I) := by
  have pl := tk_pl (t := t) (lim := lim) hp
  refine B_177_0 hT hR (x_159 hT hR h (fun I1 f1 fl => ⟨_, _, rfl, rfl, ?_⟩))
  rw [fl.2.1, ysub_eq (by omega) (by omega)]
  exact hk I1 f1 fl
/-- what PLAN may change -/
theorem x_227 (hT : yLT T) (hR : yLR R) (hN : 126 ≤ N) (hn2 : I 102 2 = (n : Int)) (hn : n ≤ 940) (h14 : 0 ≤ I 102 14 ∧ I 102 14 ≤ 10000) (hb : ∀ j, j < n → -128 ≤ I 103 j ∧ I 103 j < 128) (hw : ∀ i, i < 24 → I 108 i = rCd i) (hc : I 104 2 = (ch : Int)) (L : mNm I 0 ch nm)
    (hk : ∀ r I', r = kAnsP (zPl' (I 103) n ch nm) → (I' 102 2 = 0 ∧ 0 ≤ I' 102 14 ∧ I' 102 14 ≤ 10000) → I' 102 15 = kFc (zPl' (I 103) n ch nm) → ((∃ f, zPl' (I 103) n ch nm = .inl f) ∧ (∀ k j, ¬ mPw k j → I' k j = I k j)) ∨ (∃ c g, zPl' (I 103) n ch nm = .inr (c, g) ∧ (∀ k j, ¬ mPw k j → (k ≠ 104 ∨ j < 926 ∨ 1007 ≤ j) → I' k j = I k j) ∧ c ≤ 40 ∧ I' 104 926 = (c : Int) ∧ ∀ i, i < c → I' 104 (927 + 2 * i) = (((g i).1 : Nat) : Int) ∧ I' 104 (928 + 2 * i) = (g i).2 ∧ (g i).1 < 8 ∧ 0 ≤ (g i).2 ∧ (g i).2 ≤ 3) → K (some (yi r)) (N, T, R, I')) :
    yW l zSS D cy zFk z (d + 3) 227 bc bs K 0 0 0 [(0, yr (some 102))] [] (N, T, R, I) := by
  obtain ⟨t, ht⟩ : ∃ t, I 103 = t := ⟨_, rfl⟩
  rw [ht] at hk
  have hb : ∀ j, j < n → -128 ≤ t j ∧ t j < 128 := by rw [← ht]; exact hb
  obtain ⟨G, hG⟩ : ∃ G, zPl' t n ch nm = G := ⟨_, rfl⟩
  rw [hG] at hk
  have lm : ∀ p, p ≤ n → (tk t n 400 p).2.1 ≤ n := fun p hp => tk_pl hp
  have ls : ∀ q, q ≤ n → (tk t n 400 q).1 = 3 → q < (tk t n 400 q).2.2.2 := fun q hq w => (tk_ok (t := t) (lim := 400) hq).2.2.2.2.1 w
  -- it is taken over
  have l153 : ∀ (c : Nat) (g : Nat → Nat × Int) (Y : Nat → Nat → Int), G = .inr (c, g) → c ≤ 40 → (∀ i, i < c → Y 106 (2 * i) = (((g i).1 : Nat) : Int) ∧ Y 106 (2 * i + 1) = (g i).2 ∧ (g i).1 < 8 ∧ 0 ≤ (g i).2 ∧ (g i).2 ≤ 3) → (∀ k j, ¬ mPw k j → (k ≠ 104 ∨ j ≠ 926) → Y k j = I k j) → Y 104 926 = (c : Int) → (Y 102 2 = 0 ∧ 0 ≤ Y 102 14 ∧ Y 102 14 ≤ 10000) → Y 102 15 = 0 →
      ∀ (m : Nat) (X : Nat → Nat → Int) (i : Nat), i + m = 2 * c → (∀ j, j < i → X 104 (927 + j) = Y 106 j) → (∀ k j, (k ≠ 104 ∨ j < 927 ∨ 1007 ≤ j) → X k j = Y k j) → yW l zSS D cy zFk z (d + 3) 227 bc bs K 0 0 153 [(0, yr (some 102)), (1, yi (c : Int)), (2, yi (i : Int))] [] (N, T, R, X) := by
    intro c g Y eG hc40 hY fY y926 vY v15 m
    induction m with
    | zero =>
      intro X i h1 h2 h3
      refine B_227_153 hT hR ⟨fun _ => ?_, fun c1 => absurd c1 (by rw [ymul_eq (by omega) (by omega)]; omega)⟩
      have x926 : X 104 926 = (c : Int) := by rw [h3 104 926 (by omega)]; exact y926
      refine hk _ X (by rw [eG]; rfl) ?_ (by rw [h3 102 15 (by omega), v15, eG]; rfl) (.inr ⟨c, g, eG, fun k j a b => ?_, hc40, x926, fun q hq => ?_⟩)
      · rw [h3 102 2 (by omega), h3 102 14 (by omega)]; exact vY
      · rw [h3 k j (by omega)]; exact fY k j a (by omega)
      · rw [h2 (2 * q) (by omega), show 928 + 2 * q = 927 + (2 * q + 1) by omega, h2 (2 * q + 1) (by omega)]
        exact hY q hq
    | succ m ih =>
      intro X i h1 h2 h3
      refine e_ri (k := 106) (n := 135) (j := i) (c0 := 1) (hT 106 rfl) (.inr (.inl rfl)) (by omega) (show 106 < N by omega) (fun q1 q2 => ?_)
      have q1 : -2147483648 ≤ X 106 i := q1
      have q2 : X 106 i < 2147483648 := q2
      refine B_227_153 hT hR ⟨fun c1 => absurd c1 (by rw [ymul_eq (by omega) (by omega)]; omega), fun _ => ?_⟩
      rw [yadd_eq (x := 927) (by omega) (by omega), yadd_eq (x := (i : Int)) (by omega) (by omega), show ((i : Int)).toNat = i by omega, show ((927 : Int) + (i : Int)).toNat = 927 + i by omega]
      refine ⟨by omega, by omega, by omega, by omega, ?_⟩
      intro I6 e6
      rw [ynar1_eq q1 q2, h3 106 i (by omega)] at e6
      refine ih I6 (i + 1) (by omega) (fun j hj => ?_) (fun k j a => ?_)
      · rw [e6]
        by_cases e : j = i
        · subst e; rw [yU_eq]
        · rw [yU_ne _ _ (by omega)]; exact h2 j (by omega)
      · rw [e6, yU_ne _ _ (by omega)]; exact h3 k j a
  have l23 : ∀ (m c p : Nat) (g : Nat → Nat × Int) (X : Nat → Nat → Int), c + m = 42 → c ≤ 40 → p ≤ n → mRd X t n 400 p → X 102 2 = 0 → (∀ k j, ¬ mPw k j → X k j = I k j) → (∀ i, i < c → X 106 (2 * i) = (((g i).1 : Nat) : Int) ∧ X 106 (2 * i + 1) = (g i).2 ∧ (g i).1 < 8 ∧ 0 ≤ (g i).2 ∧ (g i).2 ≤ 3) → G = kPlan (tk t n 400) (nLd ch nm) m c g p → yW l zSS D cy zFk z (d + 3) 227 bc bs K 0 0 23 [(0, yr (some 102)), (1, yi (c : Int))] [] (N, T, R, X) := by
    intro m
    induction m with
    | zero => intro c p g X hm hc; omega
    | succ m ih =>
      intro c p g X hm hc40 pn r x2 fX xg ek
      have x15 := r.2.1.2
      have t0 : X 103 = t := by rw [← ht]; exact funext fun j => fX 103 j (by unfold mPw; omega)
      have w0 : ∀ i, i < 24 → X 108 i = rCd i := fun i hi => by rw [fX 108 i (by unfold mPw; omega)]; exact hw i hi
      have L0 : mNm X 0 ch nm := ⟨L.1, fun i hi => by rw [fX 107 (0 + i) (by unfold mPw; omega)]; exact L.2 i hi⟩
      have ch0 : X 104 2 = (ch : Int) := by rw [fX 104 2 (by unfold mPw; omega)]; exact hc
      obtain ⟨-, g11, -, -, -, -, -, -, -, g14⟩ := mTk_tk r.2.2
      rw [kPlan] at ek
      -- a FAULT
      have bad : ∀ (J : Nat → Nat → Int) (k : Int) (pp : Nat), mRd J t n 400 pp → pp ≤ n → mFt X J → kPst (tk t n 400) (nLd ch nm) c p = .inl (k, (tk t n 400 pp).2.1) → (tk t n 400 p).1 ≠ 0 → yW l zSS D cy zFk z (d + 2) 177 0 0 (fun r h' => ∃ r25 I24, r = some (yi r25) ∧ h' = (N, T, R, I24) ∧ (K (some (yi r25)) (N, T, R, I24))) 0 0 0 [(0, yr (some 102)), (1, yi k)] [] (N, T, R, J) := fun J k pp hJ hpp fJ e nz => by
        rw [if_neg nz, e] at ek
        refine x_177 hT hR hJ hn hpp (fun I' f fl => ⟨_, _, rfl, rfl, hk _ I' (by rw [ek]; rfl) ⟨by rw [f 102 2 (by omega), fJ 102 2 (by omega)]; exact x2, fl.2.2⟩ (by rw [fl.1, ek]; rfl) (.inl ⟨⟨_, ek⟩, fun a b h => by rw [f a b (by unfold mPw at h; omega), fJ a b (by unfold mPw at h; omega)]; exact fX a b h⟩)⟩)
      refine B_227_23 hT hR ⟨fun c0 I2 e2 => ?_, fun c0 => ?_⟩
      · have z0 : (tk t n 400 p).1 = 0 := by rw [g11] at c0; omega
        rw [if_pos z0] at ek
        rw [ynar1_eq (by omega) (by omega)] at e2
        have n2 : ∀ k j, (k ≠ 104 ∨ j ≠ 926) → I2 k j = X k j := fun k j h => by rw [e2, yU_ne _ _ (by omega)]
        refine l153 c g I2 ek hc40 (fun i hi => ?_) (fun k j a b => by rw [n2 k j b]; exact fX k j a) (by rw [e2, yU_eq]) ?_ (by rw [n2 102 15 (by omega)]; exact x15) (2 * c) I2 0 (by omega) (fun j hj => absurd hj (by omega)) (fun _ _ _ => rfl)
        · rw [n2 106 _ (by omega), n2 106 _ (by omega)]; exact xg i hi
        · rw [n2 102 2 (by omega), n2 102 14 (by omega)]; exact ⟨x2, g14⟩
      · have nz : (tk t n 400 p).1 ≠ 0 := fun q => c0 (by rw [g11, q]; rfl)
        have F0 : mFt X X := fun _ _ _ => rfl
        refine x_194 hT hR r w0 (fun r4 h4 => ⟨_, _, rfl, rfl, fun c4 => ?_, fun c4 => ?_⟩)
        · have en : kIsName (tk t n 400) p := (h4.resolve_right (fun q => c4 q.1)).2
          rw [ch0]
          refine x_180n hT hR r en.1 L0 ⟨_, _, rfl, rfl, fun c7 => ?_, fun c7 => ?_⟩
          · obtain ⟨c', cc, ec⟩ : ∃ c' : Nat, c' < ch ∧ kFind (nLd ch nm) (tk t n 400 p).2.2.1 = (c' : Int) := by
              unfold kFind at c7 ⊢
              cases hq : (List.range (nLd ch nm).ch).find? (fun i => decide ((nLd ch nm).nm i = (tk t n 400 p).2.2.1)) with
              | none => rw [hq] at c7; exact absurd c7 (show ¬ ((0 : Int) ≤ -1) by decide)
              | some q => exact ⟨q, List.mem_range.mp (List.mem_of_find?_eq_some hq), rfl⟩
            have kn : kName (tk t n 400) (nLd ch nm) p = .inr c' := by unfold kName; rw [if_neg (fun k => k en), if_neg (by rw [ec]; omega), ec]; rfl
            have c8 := L.1
            rw [ec]
            refine ⟨fun c40 => ?_, fun c40 => bad X 4 p r pn F0 (by unfold kPst; rw [kn]; dsimp only; rw [if_pos (by omega)]) nz⟩
            have n40 : ¬ 40 ≤ c := by omega
            refine x_go hT hR r hn hb t0 (fun I1 f1 _ r1 => ⟨_, rfl, rfl, ?_⟩)
            have t1 := mFt_t f1 t0
            have pe := (tk_go t n 400 p pn).2
            refine x_172 hT hR r1 (fun rd hd => ⟨_, _, rfl, rfl, fun cd => ?_, fun cd => bad I1 1 _ r1 pe f1 (by
              have nd := (hd.resolve_left (fun g => by omega)).2
              unfold kPst; rw [kn]; dsimp only; rw [if_neg n40]; unfold kDir; rw [if_neg nd]) nz⟩)
            obtain ⟨v0, v3, w1, wi⟩ := hd.resolve_right (fun g => by omega)
            have kd : kDir (tk t n 400) (tk t n 400 p).2.2.2 = .inr (rd, (tk t n 400 (tk t n 400 p).2.2.2).2.2.2) := by
              unfold kDir
              rw [if_pos ⟨w1, by omega, by omega⟩, wi, show rd + 12 - 12 = rd by omega]
            rw [ymul_eq (by omega) (by omega), yadd_eq (x := 2 * (c : Int)) (y := 1) (by omega) (by omega), yadd_eq (x := (c : Int)) (y := 1) (by omega) (by omega), show ((2 : Int) * (c : Int)).toNat = 2 * c by omega, show ((2 : Int) * (c : Int) + 1).toNat = 2 * c + 1 by omega]
            refine ⟨by omega, by omega, fun I2 e2 => ⟨by omega, by omega, fun I3 e3 => ?_⟩⟩
            have fr : ∀ x y, ¬ (x = 106 ∧ (y = 2 * c ∨ y = 2 * c + 1)) → I3 x y = I1 x y := fun x y q => by rw [e3, yU_ne _ _ (by omega), e2, yU_ne _ _ (by omega)]
            have r3 := mRd_up (mRd_up r1 e2 (by omega)) e3 (by omega)
            have t3 := m3_up (m3_up t1 e2 (by omega)) e3 (by omega)
            have v1' : I3 106 (2 * c) = (c' : Int) := by rw [e3, yU_ne _ _ (by omega), e2, yU_eq]; exact ynar1_eq (by omega) (by omega)
            have v2' : I3 106 (2 * c + 1) = rd := by rw [e3, yU_eq]; exact ynar1_eq (by omega) (by omega)
            refine x_go hT hR r3 hn hb t3 (fun I4 f4 _ r4 => ⟨_, rfl, rfl, ?_⟩)
            have t4 := mFt_t f4 t3
            have pe2 := (tk_go t n 400 _ pe).2
            have F4 : ∀ a b, ¬ mPw a b → I4 a b = I a b := fun a b h => by rw [f4 a b (by unfold mPw at h; omega), fr a b (by unfold mPw at h; omega), f1 a b (by unfold mPw at h; omega)]; exact fX a b h
            have z4 : I4 102 2 = 0 := by rw [f4 102 2 (by omega), fr 102 2 (by omega), f1 102 2 (by omega)]; exact x2
            refine x_236 (d := d) hT hR r4 hn hb t4 (fun f I5 e5 f5 fl => ⟨_, _, rfl, rfl, fun q => absurd rfl q, fun _ => ?_⟩) (fun p3 I5 e5 f5 r5 => ⟨_, _, rfl, rfl, fun _ => ?_, fun q => absurd (by decide : (1 : Int) ≠ 0) q⟩)
            · have kp : kPst (tk t n 400) (nLd ch nm) c p = .inl f := by unfold kPst; rw [kn]; dsimp only; rw [if_neg n40, kd]; dsimp only; rw [e5]
              have fb := kPst_bad (tk_go t n 400) lm pn kp
              rw [if_neg nz, kp] at ek
              have f2n := fb.2.2
              refine hk _ I5 ?_ ⟨by rw [f5 102 2 (by omega)]; exact z4, fl.2.2⟩ (by rw [fl.1, ek]; rfl) (.inl ⟨⟨_, ek⟩, fun a b h => by rw [f5 a b (by unfold mPw at h; omega)]; exact F4 a b h⟩)
              rw [fl.2.1, ysub_eq (by omega) (by omega), ek]
              rfl
            · have kp : kPst (tk t n 400) (nLd ch nm) c p = .inr ((c', rd), p3) := by unfold kPst; rw [kn]; dsimp only; rw [if_neg n40, kd]; dsimp only; rw [e5]
              have go := kPst_go (tk_go t n 400) pn ls kp
              rw [if_neg nz, kp] at ek
              dsimp only at ek
              exact ih (c + 1) p3 (fun i => if i = c then (c', rd) else g i) I5 (by omega) (by omega) go.2.1 r5 (by rw [f5 102 2 (by omega)]; exact z4) (fun a b h => by rw [f5 a b (by unfold mPw at h; omega)]; exact F4 a b h) (fun i hi => by
                have k6 : ∀ y, I5 106 y = I3 106 y := fun y => by rw [f5 106 y (by omega), f4 106 y (by omega)]
                rw [k6, k6]
                by_cases q : i = c
                · subst q
                  rw [if_pos rfl, v1', v2']
                  exact ⟨rfl, rfl, by show c' < 8; omega, v0, v3⟩
                · rw [if_neg q, fr 106 (2 * i) (by omega), fr 106 (2 * i + 1) (by omega), f1 106 (2 * i) (by omega), f1 106 (2 * i + 1) (by omega)]
                  exact xg i (by omega)) ek
          · have cf : kFind (nLd ch nm) (tk t n 400 p).2.2.1 = -1 := by
              unfold kFind at c7 ⊢
              cases hq : (List.range (nLd ch nm).ch).find? (fun i => decide ((nLd ch nm).nm i = (tk t n 400 p).2.2.1)) with
              | none => rfl
              | some q =>
                rw [hq] at c7
                exact absurd (show (0 : Int) ≤ ((q : Nat) : Int) by omega) c7
            exact bad X 3 p r pn F0 (by unfold kPst kName; rw [if_neg (fun k => k en), if_pos cf]) nz
        · have en : ¬ kIsName (tk t n 400) p := (h4.resolve_left (fun g => by omega)).2
          exact bad X 1 p r pn F0 (by unfold kPst kName; rw [if_pos en]) nz
  refine B_227_0 hT hR (fun I1 e1 => B_244_0 hT hR (fun I2 e2 I3 e3 I4 e4 I5 e5 => ⟨_, rfl, rfl, fun I6 e6 => ?_⟩))
  have f6 : ∀ k j, ¬ (k = 102 ∧ (j = 0 ∨ (2 ≤ j ∧ j ≤ 5) ∨ j = 15)) → I6 k j = I k j := fun k j h => by
    rw [e6, yU_ne _ _ (by omega), e5, yU_ne _ _ (by omega), e4, yU_ne _ _ (by omega), e3, yU_ne _ _ (by omega), e2, yU_ne _ _ (by omega), e1, yU_ne _ _ (by omega)]
  have v3 : I6 102 3 = (n : Int) := by rw [e6, yU_ne _ _ (by omega), e5, yU_ne _ _ (by omega), e4, yU_ne _ _ (by omega), e3, yU_ne _ _ (by omega), e2, yU_eq, e1, yU_ne _ _ (by omega)]; exact hn2
  have v2 : I6 102 2 = 0 := by rw [e6, yU_ne _ _ (by omega), e5, yU_ne _ _ (by omega), e4, yU_ne _ _ (by omega), e3, yU_eq]
  have v4 : I6 102 4 = 0 := by rw [e6, yU_ne _ _ (by omega), e5, yU_ne _ _ (by omega), e4, yU_eq]
  have v5 : I6 102 5 = 400 := by rw [e6, yU_ne _ _ (by omega), e5, yU_eq]
  have v15 : I6 102 15 = 0 := by rw [e6, yU_eq]
  have t6 : I6 103 = t := by rw [← ht]; exact funext fun j => f6 103 j (by omega)
  refine x_182 (d := d + 1) hT hR (n := n) (lim := 400) (p := 0) v3 hn v5 v4 (Nat.zero_le _) (by rw [t6]; exact hb) (by rw [f6 102 14 (by omega)]; exact h14) (fun I7 f7 q7 => ⟨_, rfl, rfl, ?_⟩)
  rw [t6] at q7
  exact l23 42 0 0 (fun _ => (0, 0)) I7 rfl (Nat.zero_le _) (Nat.zero_le _) ⟨by rw [f7 102 3 (by omega)]; exact v3, ⟨by rw [f7 102 5 (by omega)]; exact v5, by rw [f7 102 15 (by omega)]; exact v15⟩, q7⟩ (by rw [f7 102 2 (by omega)]; exact v2) (fun k j h => by rw [f7 k j (by unfold mPw at h; omega)]; exact f6 k j (by unfold mPw at h; omega)) (fun i hi => absurd hi (Nat.not_lt_zero _)) hG.symm
end Xy
