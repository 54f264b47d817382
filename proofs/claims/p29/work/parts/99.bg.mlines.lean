/-! THE REFERENCE reads a LINE, to the letter: line -/
section Xu
variable {l : Launch} {D : va_G} {cy : Nat → ClassId} {z d bc bs N : Nat} {T : Nat → Nat × Nat} {R : Nat → Nat → Option Nat} {I : Nat → Nat → Int} {K : yKo} {t : Nat → Int} {n lim p : Nat} {S : Ld}
theorem mLo_tr {J : Nat → Nat → Int} {k : Rs (Ld × Nat)} (h : mLo T R N K I t n lim k) (f : mFl2 I J) : mLo T R N K J t n lim k :=
  ⟨fun g I' e a b => h.1 g I' e (mFl2_tr f a) b, fun S' p' I' e a b c w => h.2 S' p' I' e (mFl2_tr f a) b c w⟩
/-- the WAYS of the LAW -/
theorem x_211w (hT : yLT T) (hR : yLR R) (hn : n ≤ 940) (hb : ∀ j, j < n → -128 ≤ t j ∧ t j < 128) : ∀ (m : Nat) (S : Ld) (p : Nat) (I : Nat → Nat → Int), S.laws + m = 4 → I 103 = t → mRd I t n lim p → mLr I S → I 102 23 ≠ 0 → (I 102 22 = 0 ↔ S.w = 0) → mLo T R N K I t n lim (kWays (tk t n lim) m S p) →
    yW l zSS D cy zFk z (d + 5) 211 bc bs K 0 0 458 [(0, yr (some 102)), (1, yi (wHd S))] [] (N, T, R, I) := by
  intro m
  induction m with
  | zero =>
    intro S p I hm ht h L w23 w22 hk
    have := L.2.2.2.2.2.2.2.2.2.1
    omega
  | succ m ih =>
    intro S p I hm ht h L w23 w22 hk
    obtain ⟨hf, ho⟩ := id hk
    obtain ⟨j1, j2, j3, j4⟩ := L.2.2.2.2.2.2.2.2
    have wy : ∀ w : Nat, w < 3 → ¬ (0 < S.laws ∧ (tk t n lim p).1 = 3 ∧ (tk t n lim p).2.2.1 = 59) → (tk t n lim p).1 = 1 → rIx (tk t n lim p).2.2.1 = (w : Int) + 9 → yW l zSS D cy zFk z (d + 4) 164 0 0 (fun r h' => ∃ r13 I12, r = some (yi r13) ∧ h' = (N, T, R, I12) ∧ ((r13 = 0 → 0 ≤ (yadd 7 (I12 105 6)) ∧ (yadd 7 (I12 105 6)) < 458 ∧ (∀ I17, I17 = yU I12 105 ((yadd 7 (I12 105 6)).toNat) (ynar 1 (w : Int)) → (∀ I18, I18 = yU I17 105 6 (ynar 1 (yadd (I17 105 6) 1)) → (yW l zSS D cy zFk z (d + 4) 182 0 0 (fun r h' => ∃ I19, r = none ∧ h' = (N, T, R, I19) ∧ (yW l zSS D cy zFk z (d + 5) 211 bc bs K 0 0 458 [(0, yr (some 102)), (1, yi (yor (wHd S) (yshl 1 (w : Int))))] [] (N, T, R, I19))) 0 0 0 [(0, yr (some 102))] [] (N, T, R, I18))))) ∧ (¬ (r13 = 0) → yW l zSS D cy zFk z (d + 4) 159 0 0 (fun r h' => ∃ r21 I20, r = some (yi r21) ∧ h' = (N, T, R, I20) ∧ ((r21 = 0 ∨ r21 = 1) ∧ K (some (yi r21)) (N, T, R, I20))) 0 0 0 [(0, yr (some 102)), (1, yi 3)] [] (N, T, R, I12)))) 0 0 0 [(0, yi (wHd S)), (1, yi (w : Int))] [] (N, T, R, I) := by
      intro w hw ns k1 ix
      have bit := wHd_bit S hw
      have isw : (tk t n lim p).1 = 1 ∧ 9 ≤ rIx (tk t n lim p).2.2.1 ∧ rIx (tk t n lim p).2.2.1 ≤ 11 := ⟨k1, by omega, by omega⟩
      refine w_164 hT hR (fun r hr => ⟨_, _, rfl, rfl, fun c => ?_, fun c => ?_⟩)
      · have nh : kHas S ((w : Int) + 9) = false := by
          cases e : kHas S ((w : Int) + 9) with
          | false => rfl
          | true => rw [e, if_pos rfl] at bit; omega
        have l3 : S.laws < 3 := by
          apply Classical.byContradiction
          intro g
          have := kHas_3 (S := S) (by omega) (fun i hi => (j3 i hi).2) j4 (v := (w : Int) + 9) (by omega)
          rw [nh] at this
          cases this
        rw [j1, yadd_eq (x := 7) (by omega) (by omega), show ((7 : Int) + (S.laws : Int)).toNat = 7 + S.laws by omega]
        refine ⟨by omega, by omega, fun I1 e1 I2 e2 => ?_⟩
        have fr : ∀ x y, ¬ (x = 105 ∧ (y = 6 ∨ y = 7 + S.laws)) → I2 x y = I x y := fun x y q => by rw [e2, yU_ne _ _ (by omega), e1, yU_ne _ _ (by omega)]
        have r2 := mRd_up (mRd_up h e1 (by omega)) e2 (by omega)
        have t2 := m3_up (m3_up ht e1 (by omega)) e2 (by omega)
        have v7 : I2 105 (7 + S.laws) = (w : Int) + 9 - 9 := by rw [e2, yU_ne _ _ (by omega), e1, yU_eq, ynar1_eq (by omega) (by omega)]; omega
        have v6 : I2 105 6 = ((S.laws + 1 : Nat) : Int) := by rw [e2, yU_eq, e1, yU_ne _ _ (by omega), j1, yadd_eq (by omega) (by omega), ynar1_eq (by omega) (by omega)]; rfl
        have L2 : mLr I2 (uWay S ((w : Int) + 9)) := mLr_way L l3 (by omega) nh (fun x y _ q => fr x y q) v7 v6
        have kw : kWays (tk t n lim) (m + 1) S p = kWays (tk t n lim) m (uWay S ((w : Int) + 9)) (tk t n lim p).2.2.2 := by
          rw [kWays, if_neg ns, if_neg (fun q => q isw), ix, if_neg (fun q => by
            rcases q with q | q
            · omega
            · rw [nh] at q; exact absurd q (by decide))]
        refine x_go hT hR r2 hn hb t2 (fun I3 f3 _ r3 => ⟨_, rfl, rfl, ?_⟩)
        rw [wHd_way S hw nh]
        exact ih (uWay S ((w : Int) + 9)) _ I3 (by show S.laws + 1 + m = 4; omega) (mFt_t f3 t2) r3 (mLr_fr L2 f3) (by rw [f3 102 23 (by omega), fr 102 23 (by omega)]; exact w23) (by rw [f3 102 22 (by omega), fr 102 22 (by omega)]; exact w22) (by rw [← kw]; exact mLo_tr hk (fun x y q => (f3 x y (by omega)).trans (fr x y (by omega))))
      · have yh : kHas S ((w : Int) + 9) = true := by
          cases e : kHas S ((w : Int) + 9) with
          | true => rfl
          | false => rw [e, if_neg (by decide)] at bit; omega
        exact x_159 hT hR h (fun I' f fl => ⟨_, _, rfl, rfl, .inl rfl, hf _ I' (by rw [kWays, if_neg ns, if_neg (fun q => q isw), ix, if_pos (.inr yh)]) (mFl2_of f) fl⟩)
    have s471 : ¬ (0 < S.laws ∧ (tk t n lim p).1 = 3 ∧ (tk t n lim p).2.2.1 = 59) → yW l zSS D cy zFk z (d + 5) 211 bc bs K 0 0 471 [(0, yr (some 102)), (1, yi (wHd S))] [] (N, T, R, I) := by
      intro ns
      refine B_211_471 hT hR (x_199 hT hR h 9 (by omega) rfl (fun r2 h2 => ⟨_, _, rfl, rfl, fun c2 => x_199 hT hR h 10 (by omega) rfl (fun r5 h5 => ⟨_, _, rfl, rfl, fun c5 => x_199 hT hR h 11 (by omega) rfl (fun r8 h8 => ⟨_, _, rfl, rfl, fun c8 => ?_, fun c8 => ?_⟩), fun c5 => ?_⟩), fun c2 => ?_⟩))
      · have n9 := (h2.resolve_left (fun g => by omega)).2
        have n10 := (h5.resolve_left (fun g => by omega)).2
        have n11 := (h8.resolve_left (fun g => by omega)).2
        have w : ¬ ((tk t n lim p).1 = 1 ∧ 9 ≤ rIx (tk t n lim p).2.2.1 ∧ rIx (tk t n lim p).2.2.1 ≤ 11) := by
          intro ⟨a, b, c⟩
          rcases (show rIx (tk t n lim p).2.2.1 = 9 ∨ rIx (tk t n lim p).2.2.1 = 10 ∨ rIx (tk t n lim p).2.2.1 = 11 by omega) with e | e | e
          · exact n9 ⟨a, e⟩
          · exact n10 ⟨a, e⟩
          · exact n11 ⟨a, e⟩
        exact x_159 hT hR h (fun I' f fl => ⟨_, _, rfl, rfl, .inl rfl, hf _ I' (by rw [kWays, if_neg ns, if_pos w]) (mFl2_of f) fl⟩)
      · have g := (h8.resolve_right (fun g => c8 g.1)).2
        exact wy 2 (by omega) ns g.1 g.2
      · have g := (h5.resolve_right (fun g => c5 g.1)).2
        exact wy 1 (by omega) ns g.1 g.2
      · have g := (h2.resolve_right (fun g => c2 g.1)).2
        exact wy 0 (by omega) ns g.1 g.2
    refine B_211_458 hT hR ⟨fun c => s471 (fun q => wHd_n0 q.1 (j3 0 q.1).2 c), fun c => x_196 hT hR h (fun r hr => ⟨_, _, rfl, rfl, fun c2 => ?_, fun c2 => s471 (fun q => ?_)⟩)⟩
    · have g := (hr.resolve_right (fun g => c2 g.1)).2
      have l0 : 0 < S.laws := Nat.pos_of_ne_zero (fun q => c (wHd_0 q))
      exact ho S p I (by rw [kWays, if_pos ⟨l0, g⟩]) (fun _ _ _ => rfl) h L ⟨w22, ⟨fun q => absurd q w23, fun q => by omega⟩⟩
    · rcases hr with ⟨a, _⟩ | ⟨_, a⟩
      · omega
      · exact a q.2
set_option maxHeartbeats 1000000 in
/-- line -/
theorem x_211 (hT : yLT T) (hR : yLR R) (h : mRd I t n lim p) (hn : n ≤ 940) (hb : ∀ j, j < n → -128 ≤ t j ∧ t j < 128) (ht : I 103 = t) (hw : ∀ i, i < 24 → I 108 i = rCd i) (L : mLr I S) (W : mLz I S)
    (hk : mLo T R N K I t n lim (kLine (tk t n lim) S p)) :
    yW l zSS D cy zFk z (d + 5) 211 bc bs K 0 0 0 [(0, yr (some 102))] [] (N, T, R, I) := by
  have q : ∀ k, kLine (tk t n lim) S p = k → mLo T R N (fun r h' => ∃ r3 I2, r = some (yi r3) ∧ h' = (N, T, R, I2) ∧ ((r3 = 0 ∨ r3 = 1) ∧ K (some (yi r3)) (N, T, R, I2))) I t n lim k := fun k e =>
    ⟨fun f I' e2 a b => ⟨_, _, rfl, rfl, .inl rfl, hk.1 f I' (e.trans e2) a b⟩, fun S' p' I' e2 a b c w => ⟨_, _, rfl, rfl, .inr rfl, hk.2 S' p' I' (e.trans e2) a b c w⟩⟩
  have bad : ∀ (J : Nat → Nat → Int) (k : Int) (pp : Nat), mRd J t n lim pp → mFl2 I J → kLine (tk t n lim) S p = .inl (k, (tk t n lim pp).2.1) → yW l zSS D cy zFk z (d + 4) 159 0 0 (fun r h' => ∃ r70 I69, r = some (yi r70) ∧ h' = (N, T, R, I69) ∧ ((r70 = 0 ∨ r70 = 1) ∧ K (some (yi r70)) (N, T, R, I69))) 0 0 0 [(0, yr (some 102)), (1, yi k)] [] (N, T, R, J) := fun J k pp hJ fJ e =>
    x_159 hT hR hJ (fun I' f fl => ⟨_, _, rfl, rfl, .inl rfl, hk.1 _ I' e (mFl2_tr fJ (mFl2_of f)) fl⟩)
  have F0 : mFl2 I I := fun _ _ _ => rfl
  have n4 : ∀ i : Nat, 9 < i → (tk t n lim p).1 = 1 → rIx (tk t n lim p).2.2.1 = (i : Int) → True := fun _ _ _ _ => trivial
  -- START, SICK
  have s277 : ((tk t n lim p).1 = 1 ∧ rIx (tk t n lim p).2.2.1 = 6) ∨ ((tk t n lim p).1 = 1 ∧ rIx (tk t n lim p).2.2.1 = 7) → yW l zSS D cy zFk z (d + 5) 211 bc bs K 0 0 277 [(0, yr (some 102))] [] (N, T, R, I) := by
    intro hs
    refine B_211_277 hT hR (x_199 hT hR h 7 (by omega) rfl (fun rs hrs => ⟨_, _, rfl, rfl, ?_⟩))
    refine x_go hT hR h hn hb ht (fun I1 f1 _ r1 => ⟨_, rfl, rfl, ?_⟩)
    have t1 := mFt_t f1 ht
    have L1 := mLr_fr L f1
    obtain ⟨p1, hp1⟩ : ∃ q, (tk t n lim p).2.2.2 = q := ⟨_, rfl⟩
    rw [hp1] at r1
    have eC : I1 105 2 = (S.ch : Int) := L1.2.2.2.2.1.1
    have c9 := L1.2.2.2.2.1.2
    -- which of the two
    have kk : (rs = 1 ∧ kLine (tk t n lim) S p = kSick (tk t n lim) S p) ∨ (rs = 0 ∧ kLine (tk t n lim) S p = kStart (tk t n lim) S p) := by
      rcases hs with ⟨a, e⟩ | ⟨a, e⟩
      · refine .inr ⟨?_, by unfold kLine; rw [if_neg (fun z => z a), e]; rfl⟩
        rcases hrs with ⟨_, _, g⟩ | ⟨g, _⟩
        · rw [e] at g; exact absurd g (by decide)
        · exact g
      · refine .inl ⟨?_, by unfold kLine; rw [if_neg (fun z => z a), e]; rfl⟩
        rcases hrs with ⟨g, _⟩ | ⟨_, g⟩
        · exact g
        · exact absurd ⟨a, e⟩ g
    have kb : ∀ f, kName (tk t n lim) S p1 = .inl f → kLine (tk t n lim) S p = .inl f := fun f e => by
      rcases kk with ⟨_, g⟩ | ⟨_, g⟩
      · rw [g]; unfold kSick; rw [hp1, e]
      · rw [g]; unfold kStart; rw [hp1, e]
    refine x_194 hT hR r1 (fun i hi => by rw [f1 108 i (by omega)]; exact hw i hi) (fun r5 h5 => ⟨_, _, rfl, rfl, fun c5 => ?_, fun c5 => ?_⟩)
    · have en : kIsName (tk t n lim) p1 := (h5.resolve_right (fun g => c5 g.1)).2
      rw [eC]
      refine x_180 hT hR r1 en.1 L1 ⟨_, _, rfl, rfl, fun c7 => ?_, fun c7 => ?_⟩
      · have cf : kFind S (tk t n lim p1).2.2.1 = -1 := by
          unfold kFind at c7 ⊢
          cases hq : (List.range S.ch).find? (fun i => decide (S.nm i = (tk t n lim p1).2.2.1)) with
          | none => rfl
          | some q =>
            rw [hq] at c7
            have c7 : ((q : Nat) : Int) < 0 := c7
            omega
        exact B_211_351 hT hR (bad I1 3 p1 r1 (mFl2_of f1) (kb _ (by unfold kName; rw [if_neg (fun k => k en), if_pos cf])))
      · obtain ⟨c, cc, ec⟩ : ∃ c : Nat, c < S.ch ∧ kFind S (tk t n lim p1).2.2.1 = (c : Int) := by
          unfold kFind at c7 ⊢
          cases hq : (List.range S.ch).find? (fun i => decide (S.nm i = (tk t n lim p1).2.2.1)) with
          | none => rw [hq] at c7; exact absurd (show ((-1 : Int) < 0) by decide) c7
          | some q => exact ⟨q, List.mem_range.mp (List.mem_of_find?_eq_some hq), rfl⟩
        have kn : kName (tk t n lim) S p1 = .inr c := by unfold kName; rw [if_neg (fun k => k en), if_neg (by rw [ec]; omega), ec]; rfl
        rw [ec]
        have c8 : c < 8 := by omega
        obtain ⟨g1, g2, g3⟩ := L1.2.2.2.2.2.2.1 c c8
        -- behind the NAME
        have s357 : (rs = 1 → S.sk c = false) → (rs = 0 → S.st c = -1) → yW l zSS D cy zFk z (d + 5) 211 bc bs K 0 0 357 [(0, yr (some 102)), (1, yi rs), (2, yi (c : Int))] [] (N, T, R, I1) := by
          intro a1 a0
          refine B_211_357 hT hR (x_go hT hR r1 hn hb t1 (fun I2 f2 _ r2 => ⟨_, rfl, rfl, fun z0 I3 e3 => ?_, fun z0 => ?_⟩))
          · have g := (kk.resolve_left (fun g => by omega)).2
            have f3 : ∀ x y, ¬ (x = 102 ∧ y = 21) → I3 x y = I2 x y := fun x y q => by rw [e3, yU_ne _ _ q]
            have r3 : mRd I3 t n lim (tk t n lim p1).2.2.2 := mRd_cg r2 (fun b hb => f3 102 b (by omega))
            have t3 := m3_up (mFt_t f2 t1) e3 (by omega)
            refine x_245 hT hR r3 hn hb t3 (fun f I4 e4 f4 fl => ⟨_, _, rfl, rfl, fun q => absurd rfl q, fun _ => hk.1 f I4 (by rw [g]; unfold kStart; rw [hp1, kn]; dsimp only; rw [if_neg (fun q => q (a0 z0)), e4]) (fun x y q => (f4 x y (by omega)).trans ((f3 x y (by omega)).trans (mFt_tr f1 f2 x y (by omega)))) fl⟩) (fun v p2 I4 e4 f4 r4 g18 v0 v1 v2 v3 => ⟨_, _, rfl, rfl, fun _ => ?_, fun q => absurd (by decide : (1 : Int) ≠ 0) q⟩)
            rw [g18, yadd_eq (x := 350) (by omega) (by omega), show ((350 : Int) + (c : Int)).toNat = 350 + c by omega]
            refine ⟨by omega, by omega, fun I5 e5 => ?_⟩
            have fr : ∀ x y, ¬ (x = 105 ∧ y = 350 + c) → ¬ (x = 102 ∧ y = 21) → ¬ (x = 102 ∧ (y = 4 ∨ (11 ≤ y ∧ y ≤ 18))) → I5 x y = I1 x y := fun x y q1 q2 q3 => by rw [e5, yU_ne _ _ (by omega), f4 x y q3, f3 x y q2, f2 x y q3]
            have L5 : mLr I5 (uStart S c v) := mLr_start L1 c8 v0 (fun x y q0 q1 q2 => fr x y q1 q2 (by omega)) (by rw [e5, yU_eq]; exact ynar1_eq (by omega) (by omega)) (by rw [e5, yU_ne _ _ (by omega), f4 102 21 (by omega), e3, yU_eq, f2 102 21 (by omega)])
            exact hk.2 (uStart S c v) p2 I5 (by rw [g]; unfold kStart; rw [hp1, kn]; dsimp only; rw [if_neg (fun q => q (a0 z0)), e4]) (fun x y q => (fr x y (by omega) (by omega) (by omega)).trans (f1 x y (by omega))) (mRd_up r4 e5 (by omega)) L5 (mLz_cg W (by rw [fr 102 22 (by omega) (by omega) (by omega)]; exact f1 102 22 (by omega)) (by rw [fr 102 23 (by omega) (by omega) (by omega)]; exact f1 102 23 (by omega)) rfl rfl)
          · have g := kk.resolve_right (fun g => z0 g.1)
            rw [yadd_eq (x := 342) (by omega) (by omega), show ((342 : Int) + (c : Int)).toNat = 342 + c by omega]
            refine ⟨by omega, by omega, fun I5 e5 => ?_⟩
            have fr : ∀ x y, ¬ (x = 105 ∧ y = 342 + c) → I5 x y = I2 x y := fun x y q1 => by rw [e5, yU_ne _ _ (by omega)]
            have L5 : mLr I5 (uSick S c) := mLr_sick (mLr_fr L1 f2) c8 (fun x y _ q1 => fr x y q1) (by rw [e5, yU_eq]; exact ynar1_eq (by omega) (by omega))
            exact hk.2 (uSick S c) (tk t n lim p1).2.2.2 I5 (by rw [g.2]; unfold kSick; rw [hp1, kn]; dsimp only; rw [if_neg (by rw [a1 g.1]; decide)]) (fun x y q => (fr x y (by omega)).trans (mFt_tr f1 f2 x y (by omega))) (mRd_up r2 e5 (by omega)) L5 (mLz_cg W (by rw [fr 102 22 (by omega)]; exact mFt_tr f1 f2 102 22 (by omega)) (by rw [fr 102 23 (by omega)]; exact mFt_tr f1 f2 102 23 (by omega)) rfl rfl)
        refine ⟨fun z0 => ?_, fun z0 => ?_⟩
        · have g := (kk.resolve_left (fun g => by omega)).2
          refine w_164 hT hR (fun r12 h12 => ⟨_, _, rfl, rfl, fun c12 => e_lo [0, 1, 2] rfl (s357 (fun q => by omega) (fun _ => ?_)), fun c12 => B_211_351 hT hR (bad I1 3 p1 r1 (mFl2_of f1) ?_)⟩)
          · apply Classical.byContradiction
            intro q
            rw [if_neg q] at g3
            rw [h12.1, g3] at c12
            exact absurd c12 (by decide)
          · have q : S.st c ≠ -1 := fun q => by
              rw [if_pos q] at g3
              rw [h12.1, g3] at c12
              exact absurd rfl c12
            rw [g]
            unfold kStart
            rw [hp1, kn]
            dsimp only
            rw [if_pos q]
        · have g := kk.resolve_right (fun g => z0 g.1)
          rw [yadd_eq (x := 342) (by omega) (by omega), show ((342 : Int) + (c : Int)).toNat = 342 + c by omega, g2]
          refine ⟨by omega, by omega, fun cs => e_lo [0, 1, 2] rfl (s357 (fun _ => ?_) (fun q => by omega)), fun cs => B_211_351 hT hR (bad I1 3 p1 r1 (mFl2_of f1) ?_)⟩
          · cases e : S.sk c with
            | false => rfl
            | true => rw [e, if_pos rfl] at cs; exact absurd rfl cs
          · have q : S.sk c = true := by
              cases e : S.sk c with
              | true => rfl
              | false => rw [e, if_neg (by decide)] at cs; exact absurd (by decide) cs
            rw [g.2]
            unfold kSick
            rw [hp1, kn]
            dsimp only
            rw [if_pos q]
    · have en : ¬ kIsName (tk t n lim) p1 := (h5.resolve_left (fun g => by omega)).2
      exact bad I1 1 p1 r1 (mFl2_of f1) (kb _ (by unfold kName; rw [if_pos en]))
  refine B_211_0 hT hR (x_199 hT hR h 0 (by omega) rfl (fun r0 h0 => ⟨_, _, rfl, rfl, fun c0 => x_199 hT hR h 1 (by omega) rfl (fun r1 h1 => ⟨_, _, rfl, rfl, fun c1 => x_199 hT hR h 2 (by omega) rfl (fun r2 h2 => ⟨_, _, rfl, rfl, fun c2 => x_199 hT hR h 3 (by omega) rfl (fun r3 h3 => ⟨_, _, rfl, rfl, fun c3 => x_199 hT hR h 4 (by omega) rfl (fun r4 h4 => ⟨_, _, rfl, rfl, fun c4 => x_199 hT hR h 5 (by omega) rfl (fun r5 h5 => ⟨_, _, rfl, rfl, fun c5 => x_199 hT hR h 6 (by omega) rfl (fun r6 h6 => ⟨_, _, rfl, rfl, fun c6 => s277 (.inl ?_), fun c6 => x_199 hT hR h 7 (by omega) rfl (fun r7 h7 => ⟨_, _, rfl, rfl, fun c7 => x_199 hT hR h 8 (by omega) rfl (fun r8 h8 => ⟨_, _, rfl, rfl, fun c8 => ?_, fun c8 => ?_⟩), fun c7 => s277 (.inr ?_)⟩)⟩), fun c5 => ?_⟩), fun c4 => ?_⟩), fun c3 => ?_⟩), fun c2 => ?_⟩), fun c1 => ?_⟩), fun c0 => ?_⟩))
  -- START
  · exact (h6.resolve_right (fun g => c6 g.1)).2
  -- LAW
  · obtain ⟨a, e⟩ := (h8.resolve_right (fun g => c8 g.1)).2
    have kl : kLine (tk t n lim) S p = kLaw (tk t n lim) S p := by unfold kLine; rw [if_neg (fun z => z a), e]; rfl
    refine ⟨fun c => fun I1 e1 => ?_, fun c => bad I 3 p h F0 (by rw [kl]; unfold kLaw; rw [if_pos (fun z => c (W.2.mpr z))])⟩
    have l0 := W.2.mp c
    have fr : ∀ x y, ¬ (x = 102 ∧ y = 23) → I1 x y = I x y := fun x y g => by rw [e1, yU_ne _ _ g]
    have r1 : mRd I1 t n lim p := mRd_cg h (fun b hb => fr 102 b (by omega))
    have t1 := m3_up ht e1 (by omega)
    refine x_go hT hR r1 hn hb t1 (fun I2 f2 _ r2 => ⟨_, rfl, rfl, ?_⟩)
    have L2 : mLr I2 S := mLr_fr (mLr_cg L (fun x y q => fr x y (by omega))) f2
    have := x_211w hT hR hn hb (K := K) (l := l) (D := D) (cy := cy) (z := z) (d := d) (bc := bc) (bs := bs) (lim := lim) 4 S _ I2 (by omega) (mFt_t f2 t1) r2 L2 (by rw [f2 102 23 (by omega), e1, yU_eq]; decide) (by rw [f2 102 22 (by omega), fr 102 22 (by omega)]; exact W.1) (by
      have e4 : kLine (tk t n lim) S p = kWays (tk t n lim) 4 S (tk t n lim p).2.2.2 := by rw [kl]; unfold kLaw; rw [if_neg (fun q => q l0)]
      rw [← e4]
      exact mLo_tr hk (fun x y q => (f2 x y (by omega)).trans (fr x y (by omega))))
    rw [wHd_0 l0] at this
    exact this
  -- none of them
  · refine bad I 1 p h F0 ?_
    have z0 := (h0.resolve_left (fun g => by omega)).2
    have z1 := (h1.resolve_left (fun g => by omega)).2
    have z2 := (h2.resolve_left (fun g => by omega)).2
    have z3 := (h3.resolve_left (fun g => by omega)).2
    have z4 := (h4.resolve_left (fun g => by omega)).2
    have z5 := (h5.resolve_left (fun g => by omega)).2
    have z6 := (h6.resolve_left (fun g => by omega)).2
    have z7 := (h7.resolve_left (fun g => by omega)).2
    have z8 := (h8.resolve_left (fun g => by omega)).2
    unfold kLine
    by_cases a : (tk t n lim p).1 = 1
    · rw [if_neg (fun z => z a), if_neg (fun z : rIx (tk t n lim p).2.2.1 = 0 => z0 ⟨a, z⟩), if_neg (fun z : rIx (tk t n lim p).2.2.1 = 1 => z1 ⟨a, z⟩), if_neg (fun z : rIx (tk t n lim p).2.2.1 = 2 => z2 ⟨a, z⟩), if_neg (fun z : rIx (tk t n lim p).2.2.1 = 3 => z3 ⟨a, z⟩), if_neg (fun z : rIx (tk t n lim p).2.2.1 = 4 => z4 ⟨a, z⟩), if_neg (fun z : rIx (tk t n lim p).2.2.1 = 5 => z5 ⟨a, z⟩), if_neg (fun z : rIx (tk t n lim p).2.2.1 = 6 => z6 ⟨a, z⟩), if_neg (fun z : rIx (tk t n lim p).2.2.1 = 7 => z7 ⟨a, z⟩), if_neg (fun z : rIx (tk t n lim p).2.2.1 = 8 => z8 ⟨a, z⟩)]
    · rw [if_pos a]
  -- SICK
  · exact (h7.resolve_right (fun g => c7 g.1)).2
  -- CHAIR
  · obtain ⟨a, e⟩ := (h5.resolve_right (fun g => c5 g.1)).2
    exact x_229 hT hR h hn hb ht hw L W (q _ (by unfold kLine; rw [if_neg (fun z => z a), e]; rfl))
  -- LANE
  · obtain ⟨a, e⟩ := (h4.resolve_right (fun g => c4 g.1)).2
    have kl : kLine (tk t n lim) S p = kLane (tk t n lim) S p := by unfold kLine; rw [if_neg (fun z => z a), e]; rfl
    obtain ⟨_, _, _, _, _, _, d7, d8⟩ := L.2.2.2.1
    rw [d7]
    refine ⟨fun c => ?_, fun c => bad I 4 p h F0 (by rw [kl]; unfold kLane; rw [if_pos (by omega)])⟩
    have lt : ¬ 20 ≤ S.told 4 := by omega
    refine x_go hT hR h hn hb ht (fun I1 f1 _ r1 => ⟨_, rfl, rfl, ?_⟩)
    have t1 := mFt_t f1 ht
    have L1 := mLr_fr L f1
    refine x_212 hT hR r1 hn hb t1 L1 (fun f I2 e2 f2 fl => ⟨_, _, rfl, rfl, fun q => absurd rfl q, fun _ => hk.1 f I2 (by rw [kl]; unfold kLane; rw [if_neg lt, e2]) (mFl2_of (mFt_tr f1 f2)) fl⟩) (fun b p1 I2 e2 f2 r2 g18 a1 ac => ⟨_, _, rfl, rfl, fun _ => ?_, fun q => absurd (by decide : (1 : Int) ≠ 0) q⟩)
    have t2 := mFt_t f2 t1
    have L2 := mLr_fr L1 f2
    obtain ⟨la, lb, lc⟩ := L2.2.2.1 b a1
    have bn : ((b : Int)).toNat = b := by omega
    rw [g18, yadd_eq (x := 358) (by omega) (by omega), show ((358 : Int) + (b : Int)).toNat = 358 + b by omega, la]
    refine ⟨by omega, by omega, fun cl => ?_, fun cl => bad I2 3 p1 r2 (mFl2_of (mFt_tr f1 f2)) (by rw [kl]; unfold kLane; rw [if_neg lt, e2]; dsimp only; rw [bn, if_pos (by omega)])⟩
    refine x_go hT hR r2 hn hb t2 (fun I3 f3 _ r3 => ⟨_, rfl, rfl, ?_⟩)
    have t3 := mFt_t f3 t2
    have L3 := mLr_fr L2 f3
    refine x_172 hT hR r3 (fun r47 h47 => ⟨_, _, rfl, rfl, fun cd => ?_, fun cd => bad I3 1 _ r3 (mFl2_of (mFt_tr f1 (mFt_tr f2 f3))) (by
      have nd := (h47.resolve_left (fun g => by omega)).2
      rw [kl]; unfold kLane; rw [if_neg lt, e2]; dsimp only; rw [bn, if_neg (by omega)]; unfold kDir; rw [if_neg nd])⟩)
    obtain ⟨v0, v3, w1, wi⟩ := h47.resolve_right (fun g => by omega)
    have kd : kDir (tk t n lim) (tk t n lim p1).2.2.2 = .inr (r47, (tk t n lim (tk t n lim p1).2.2.2).2.2.2) := by
      unfold kDir
      rw [if_pos ⟨w1, by omega, by omega⟩, wi, show r47 + 12 - 12 = r47 by omega]
    refine ⟨by omega, by omega, fun I4 e4 I5 e5 => ?_⟩
    have fr : ∀ x y, ¬ (x = 105 ∧ y = 358 + b) → ¬ (x = 102 ∧ y = 20) → I5 x y = I3 x y := fun x y q1 q2 => by rw [e5, yU_ne _ _ q2, e4, yU_ne _ _ q1]
    have r5 : mRd I5 t n lim (tk t n lim p1).2.2.2 := mRd_cg r3 (fun b hb => fr 102 b (by omega) (by omega))
    have t5 : I5 103 = t := by rw [← t3]; exact funext fun j => fr 103 j (by omega) (by omega)
    have L5 : mLr I5 (uLane S b r47) := mLr_lane L3 a1 ⟨v0, v3⟩ (by omega) (fun x y _ q1 q2 => fr x y q1 q2) (by rw [e5, yU_ne _ _ (by omega), e4, yU_eq, yadd_eq (by omega) (by omega), ynar1_eq (by omega) (by omega)]) (by rw [e5, yU_eq, e4, yU_ne _ _ (by omega), f3 102 20 (by omega), f2 102 20 (by omega), f1 102 20 (by omega), d7, yadd_eq (by omega) (by omega)]; rfl)
    refine x_go hT hR r5 hn hb t5 (fun I6 f6 _ r6 => ⟨_, rfl, rfl, ?_⟩)
    have w22 : ∀ y, (y = 22 ∨ y = 23) → I6 102 y = I 102 y := fun y q => by rw [f6 102 y (by omega), fr 102 y (by omega) (by omega), f3 102 y (by omega), f2 102 y (by omega), f1 102 y (by omega)]
    exact hk.2 (uLane S b r47) _ I6 (by rw [kl]; unfold kLane; rw [if_neg lt, e2]; dsimp only; rw [bn, if_neg (by omega), kd]) (fun x y g => (f6 x y (by omega)).trans ((fr x y (by omega) (by omega)).trans (mFt_tr f1 (mFt_tr f2 f3) x y (by omega)))) r6 (mLr_fr L5 f6) (mLz_cg W (w22 22 (.inl rfl)) (w22 23 (.inr rfl)) rfl rfl)
  -- WIDE, STAIRS, WALL
  · obtain ⟨a, e⟩ := (h3.resolve_right (fun g => c3 g.1)).2
    exact x_230 hT hR h hn hb ht L W (s := 3) (b := 210) (most := 12) (.inr (.inr ⟨rfl, rfl, rfl⟩)) (q _ (by unfold kLine; rw [if_neg (fun z => z a), e]; rfl))
  · obtain ⟨a, e⟩ := (h2.resolve_right (fun g => c2 g.1)).2
    exact x_230 hT hR h hn hb ht L W (s := 2) (b := 110) (most := 12) (.inr (.inl ⟨rfl, rfl, rfl⟩)) (q _ (by unfold kLine; rw [if_neg (fun z => z a), e]; rfl))
  · obtain ⟨a, e⟩ := (h1.resolve_right (fun g => c1 g.1)).2
    exact x_230 hT hR h hn hb ht L W (s := 1) (b := 10) (most := 40) (.inl ⟨rfl, rfl, rfl⟩) (q _ (by unfold kLine; rw [if_neg (fun z => z a), e]; rfl))
  -- LAND
  · obtain ⟨a, e⟩ := (h0.resolve_right (fun g => c0 g.1)).2
    have kl : kLine (tk t n lim) S p = kSize (tk t n lim) S p := by unfold kLine; rw [if_neg (fun z => z a), e]; rfl
    refine ⟨fun c => fun I1 e1 => ?_, fun c => bad I 3 p h F0 (by rw [kl]; unfold kSize; rw [if_pos (fun z => c (W.1.mpr z))])⟩
    have w0 := W.1.mp c
    have fr : ∀ x y, ¬ (x = 102 ∧ y = 22) → I1 x y = I x y := fun x y g => by rw [e1, yU_ne _ _ g]
    have r1 : mRd I1 t n lim p := mRd_cg h (fun b hb => fr 102 b (by omega))
    have t1 := m3_up ht e1 (by omega)
    refine x_go hT hR r1 hn hb t1 (fun I2 f2 _ r2 => ⟨_, rfl, rfl, ?_⟩)
    have t2 := mFt_t f2 t1
    have L2 : mLr I2 S := mLr_fr (mLr_cg L (fun x y q => fr x y (by omega))) f2
    have F2 : mFl2 I I2 := fun x y g => (f2 x y (by omega)).trans (fr x y (by omega))
    refine B_211_34 hT hR ⟨fun c => absurd c (by decide), fun _ => ?_⟩
    refine x_245 hT hR r2 hn hb t2 (fun f I3 e3 f3 fl => ⟨_, _, rfl, rfl, fun q => absurd rfl q, fun _ => hk.1 f I3 (by rw [kl]; unfold kSize; rw [if_neg (fun q => q w0), e3]) (mFl2_tr F2 (mFl2_of f3)) fl⟩) (fun w p1 I3 e3 f3 r3 g18 v0 v1 v2 v3 => ⟨_, _, rfl, rfl, fun _ => ?_, fun q => absurd (by decide : (1 : Int) ≠ 0) q⟩)
    rw [g18, show yadd 0 0 = 0 from yadd_eq (by omega) (by omega), show yadd 0 1 = 1 from yadd_eq (by omega) (by omega)]
    refine ⟨by omega, by omega, fun I4 e4 => ?_⟩
    have r4 := mRd_up r3 e4 (by omega)
    have t4 := m3_up (mFt_t f3 t2) e4 (by omega)
    refine B_211_34 hT hR ⟨fun c => absurd c (by decide), fun _ => ?_⟩
    have F4 : mFl2 I I4 := fun x y g => by rw [e4, yU_ne _ _ (by omega), f3 x y (by omega)]; exact F2 x y g
    refine x_245 hT hR r4 hn hb t4 (fun f I5 e5 f5 fl => ⟨_, _, rfl, rfl, fun q => absurd rfl q, fun _ => hk.1 f I5 (by rw [kl]; unfold kSize; rw [if_neg (fun q => q w0), e3]; dsimp only; rw [e5]) (mFl2_tr F4 (mFl2_of f5)) fl⟩) (fun hh p2 I5 e5 f5 r5 h18 u0 u1 u2 u3 => ⟨_, _, rfl, rfl, fun _ => ?_, fun q => absurd (by decide : (1 : Int) ≠ 0) q⟩)
    rw [h18, show yadd 0 1 = 1 from yadd_eq (by omega) (by omega), show yadd 1 1 = 2 from yadd_eq (by omega) (by omega)]
    refine ⟨by omega, by omega, fun I6 e6 => ?_⟩
    have r6 := mRd_up r5 e6 (by omega)
    have g6 : ∀ x y, ¬ (x = 105 ∧ y < 2) → ¬ (x = 102 ∧ (y = 4 ∨ (11 ≤ y ∧ y ≤ 18))) → I6 x y = I2 x y := fun x y q1 q2 => by
      rw [e6, yU_ne _ _ (fun g => q1 ⟨g.1, by rw [g.2]; decide⟩), f5 x y q2, e4, yU_ne _ _ (fun g => q1 ⟨g.1, by rw [g.2]; decide⟩), f3 x y q2]
    have L6 : mLr I6 (uSize S w hh) := mLr_size L2 w0 (by omega) (by omega) (fun x y q0 q1 => g6 x y q1 (by omega)) (by rw [e6, yU_ne _ _ (by decide), f5 105 0 (by omega), e4]; show yU I3 105 0 _ 105 0 = w; rw [yU_eq]; exact ynar1_eq (by omega) (by omega)) (by rw [e6]; show yU I5 105 1 _ 105 1 = hh; rw [yU_eq]; exact ynar1_eq (by omega) (by omega))
    have w22 : I6 102 22 = 1 ∧ I6 102 23 = I 102 23 := by
      rw [g6 102 22 (by omega) (by omega), g6 102 23 (by omega) (by omega), f2 102 22 (by omega), f2 102 23 (by omega), fr 102 23 (by omega), e1, yU_eq]
      exact ⟨rfl, rfl⟩
    refine B_211_34 hT hR ⟨fun _ => ?_, fun c => absurd (by decide) c⟩
    refine hk.2 (uSize S w hh) p2 I6 (by rw [kl]; unfold kSize; rw [if_neg (fun q => q w0), e3]; dsimp only; rw [e5]) (fun x y g => (g6 x y (by omega) (by omega)).trans (F2 x y g)) r6 L6 ⟨⟨fun q => by rw [w22.1] at q; exact absurd q (by decide), fun q => ?_⟩, by rw [w22.2]; exact W.2⟩
    have q : w = 0 := q
    omega
end Xu
