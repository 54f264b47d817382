/-! THE REFERENCE's CONTRACTS: the knot, 8: the search keeps its first knot. -/
section Sm
variable {l : Launch} {D : va_G} {cy : Nat → ClassId} {z d bc bs N : Nat} {T : Nat → Nat × Nat} {R : Nat → Nat → Option Nat} {I : Nat → Nat → Int} {K : yKo}
theorem r_reachesQ (hT : yLT T) (hR : yLR R) {J : Nat → Nat → Int} {W A m h v s s' mv : Nat} (b : mBf J I W A m h v) (hh : (h : Int) < I 102 41) (hs : I 116 h = (s : Int)) (hm12 : m ≤ 3) (hv' : mVs A m s') (hu : mSu J W m s s' mv)
    (hk : ∀ I', mBf J I' W A m h v → mBw I I' → (I 102 41 ≤ I' 102 41 ∧ I' 116 0 = I 116 0) → I' 116 h = (s : Int) → I' 115 s' ≠ 0 → K none (N, T, R, I')) : yW l zSS D cy zFk z d 228 bc bs K 0 0 0 [(0, yr (some 102)), (1, yi (s' : Int)), (2, yi (h : Int)), (3, yi (mv : Int))] [] (N, T, R, I) := by
  have b0 := b
  obtain ⟨q, a1, a2, a3, a4, a5, a6, a7, a8, a9⟩ := b
  have h5 := hv'.1
  have hmv := mSu_mv hu
  have hq5 : q ≤ 50653 := by rw [← a4]; exact mCt_le _ _
  refine B_228_0 hT hR ⟨by omega, by omega, fun c0 => ?_, fun c0 => hk I b0 (fun _ _ _ _ _ => rfl) ⟨Int.le_refl _, rfl⟩ hs ?_⟩
  · rw [show ((s' : Int)).toNat = s' by omega] at c0
    have hlt : q < 50653 := by rw [← a4]; exact mCt_lt (g := fun j => I 115 j) c0 50653 h5
    rw [ymul_eq (x := 12) (by omega) (by omega), yadd_eq (x := 1) (by omega) (by omega), yadd_eq (x := 1 + 12 * (h : Int)) (by omega) (by omega), ynar1_eq (by omega) (by omega), show ((s' : Int)).toNat = s' by omega]
    refine ⟨by omega, by omega, ?_⟩
    intro I6 e6
    have v6 : I6 102 41 = (q : Int) := by rw [e6, yU_ne _ _ (by omega)]; exact a1
    rw [v6, show ((q : Int)).toNat = q by omega, ynar1_eq (by omega) (by omega)]
    refine ⟨by omega, by omega, ?_⟩
    intro I9 e9 I10 e10
    have v9 : I9 102 41 = (q : Int) := by rw [e9, yU_ne _ _ (by omega)]; exact v6
    rw [v9, yadd_eq (by omega) (by omega)] at e10
    have w41 : I10 102 41 = (q : Int) + 1 := by rw [e10, yU_eq]
    have wq : I10 116 q = (s' : Int) := by rw [e10, yU_ne _ _ (by omega), e9, yU_eq]
    have wn : ∀ j, j ≠ q → I10 116 j = I 116 j := fun j hj => by rw [e10, yU_ne _ _ (by omega), e9, yU_ne _ _ (by omega), e6, yU_ne _ _ (by omega)]
    have us : I10 115 s' = 1 + 12 * (h : Int) + (mv : Int) := by rw [e10, yU_ne _ _ (by omega), e9, yU_ne _ _ (by omega), e6, yU_eq]
    have un : ∀ j, j ≠ s' → I10 115 j = I 115 j := fun j hj => by rw [e10, yU_ne _ _ (by omega), e9, yU_ne _ _ (by omega), e6, yU_ne _ _ (by omega)]
    have nz : ∀ j, I 115 j ≠ 0 → I10 115 j = I 115 j := fun j hj => un j (fun e => by subst e; exact hj c0)
    refine hk I10 ⟨q + 1, by omega, by omega, by omega, ?_, fun i hi => ?_, fun s2 h2 h3 => ?_, fun i i' s1 s2 h1 h2 h3 h4 => ?_, fun j hj s1 s2 mv2 h1 h2 => ?_, fun s1 s2 mv2 h1 h2 h3 => ?_⟩ (fun k j x1 x2 x3 => by rw [e10, yU_ne _ _ (by omega), e9, yU_ne _ _ (by omega), e6, yU_ne _ _ (by omega)]) ⟨by omega, wn 0 (by omega)⟩ (by rw [wn h (by omega)]; exact hs) (by omega)
    · rw [mCt_up (g := fun j => I 115 j) (c := s') c0 (by show I10 115 s' ≠ 0; omega) (fun j hj => un j hj) 50653, a4, if_pos h5]
    · by_cases e : i = q
      · subst e
        refine ⟨s', h, mv, wq, hv', us, Nat.le_refl _, by omega, fun e0 => by omega, fun _ => ⟨by omega, hmv, s, by rw [wn h (by omega)]; exact hs, hu⟩⟩
      · obtain ⟨s1, p, mv1, g1, g2, g3, g4, g5, g6, g7⟩ := a5 i (by omega)
        refine ⟨s1, p, mv1, by rw [wn i e]; exact g1, g2, by rw [nz s1 (by omega)]; exact g3, g4, g5, g6, fun h0 => ?_⟩
        obtain ⟨k1, k2, t, k3, k4⟩ := g7 h0
        exact ⟨k1, k2, t, by rw [wn p (by omega)]; exact k3, k4⟩
    · by_cases e : s2 = s'
      · subst e; exact ⟨q, by omega, wq⟩
      · rw [un s2 e] at h3
        obtain ⟨i, hi, hqi⟩ := a6 s2 h2 h3
        exact ⟨i, by omega, by rw [wn i (by omega)]; exact hqi⟩
    · by_cases e : i' = q
      · subst e
        have es : s2 = s' := by rw [wq] at h4; omega
        subst es
        by_cases e2 : i = i'
        · subst e2
          have : s1 = s2 := by rw [wq] at h3; omega
          subst this; exact Int.le_refl _
        · rw [wn i e2] at h3
          obtain ⟨s3, p, mv1, g1, g2, g3, g4, g5, -⟩ := a5 i (by omega)
          have : s3 = s1 := by omega
          subst this
          rw [nz s3 (by omega), us, g3]; omega
      · rw [wn i (by omega)] at h3
        rw [wn i' e] at h4
        obtain ⟨s3, p, mv1, g1, g2, g3, -⟩ := a5 i (by omega)
        obtain ⟨s4, p', mv2, k1, k2, k3, -⟩ := a5 i' (by omega)
        have x1 : s3 = s1 := by omega
        have x2 : s4 = s2 := by omega
        subst x1; subst x2
        rw [nz s3 (by omega), nz s4 (by omega)]
        exact a7 i i' s3 s4 h1 (by omega) h3 h4
    · rw [wn j (by omega)] at h1
      have g := a8 j hj s1 s2 mv2 h1 h2
      rw [nz s2 g.1]; exact g
    · rw [wn h (by omega)] at h2
      have g := a9 s1 s2 mv2 h1 h2 h3
      rw [nz s2 g]; exact g
  · rw [show ((s' : Int)).toNat = s' by omega] at c0; omega
theorem r_spreadsKnotQ (hT : yLT T) (hR : yLR R) {J : Nat → Nat → Int} {W H m h : Nat} (hI : mInv J) (hW : J 104 0 = (W : Int)) (hH : J 104 1 = (H : Int)) (hA : W * H ≤ 36) (hm : J 102 40 = (m : Int)) (hm3 : m ≤ 3) (hwho : ∀ k, k < m → 0 ≤ J 117 k ∧ J 117 k < 8) (fI : mBw J I) (b : mBf J I W (W * H) m h 0) (hq : (h : Int) < I 102 41)
    (hk : ∀ I', mBf J I' W (W * H) m (h + 1) 0 → mBw J I' → (I 102 41 ≤ I' 102 41 ∧ I' 116 0 = I 116 0) → K none (N, T, R, I')) : yW l zSS D cy zFk z (d + 3) 238 bc bs K 0 0 0 [(0, yr (some 102)), (1, yi (h : Int))] [] (N, T, R, I) := by
  have hM := hI.1
  have hw10 : W ≤ 10 := by have := hM.2.1; omega
  have hh10 : H ≤ 10 := by have := hM.2.2.2.1; omega
  -- the knot that is looked at
  obtain ⟨s, hs, hv⟩ : ∃ s : Nat, I 116 h = (s : Int) ∧ mVs (W * H) m s := by
    obtain ⟨q, a1, a2, a3, a4, a5, -⟩ := b
    obtain ⟨s, p, mv, b1, b2, -⟩ := a5 h (by omega)
    exact ⟨s, b1, b2⟩
  have h5 : h < 50653 := by
    obtain ⟨q, a1, a2, a3, a4, -⟩ := b
    have := mCt_le (fun j => I 115 j) 50653
    omega
  have hs5 := hv.1
  have fix : ∀ X : Nat → Nat → Int, mBw J X → (∀ j, X 104 j = J 104 j) ∧ (∀ j, X 117 j = J 117 j) ∧ X 102 40 = (m : Int) := fun X f => ⟨fun j => f 104 j (by decide) (by decide) (.inl (by decide)), fun j => f 117 j (by decide) (by decide) (.inl (by decide)), by rw [f 102 40 (by decide) (by decide) (.inr (by decide))]; exact hm⟩
  have vs' : ∀ s' mv, mSu J W m s s' mv → mVs (W * H) m s' := fun s' mv hu => mSu_vs hM hW hH hA hm3 hv hu
  have l9 : ∀ (n : Nat) (X : Nat → Nat → Int) (k : Nat), k + n = m → mBf J X W (W * H) m h (4 * k) → mBw J X → (I 102 41 ≤ X 102 41 ∧ X 116 0 = I 116 0) → X 116 h = (s : Int) → yW l zSS D cy zFk z (d + 3) 238 bc bs K 0 0 9 [(0, yr (some 102)), (1, yi (h : Int)), (2, yi (s : Int)), (3, yi (k : Int))] [] (N, T, R, X) := by
    intro n
    induction n with
    | zero =>
      intro X k h1 bX fX qX sX
      have hkm : k = m := by omega
      subst hkm
      obtain ⟨x104, x117, x40⟩ := fix X fX
      refine B_238_9 hT hR ⟨fun _ => ?_, fun q => absurd q (by omega)⟩
      refine hk X (mBf_next bX (by omega) (fun s1 s' mv e1 hu => ?_)) fX qX
      have : s1 = s := by omega
      subst this
      exact (vs' s' mv hu).1
    | succ n ih =>
      intro X k h1 bX fX qX sX
      obtain ⟨x104, x117, x40⟩ := fix X fX
      have hkm : k < m := by omega
      have dk37 := mDg_37 hs5 (show k < 3 by omega)
      have dkv := (hv.2 k (by omega)).1 hkm
      refine B_238_9 hT hR ⟨fun q => absurd q (by omega), fun _ => ?_⟩
      refine r_digit hT hR hs5 ⟨_, _, rfl, rfl, ?_⟩
      refine r_cellOf (W := W) (H := H) hT hR (by rw [x104]; exact hW) hw10 hA dkv ⟨_, _, rfl, rfl, ?_⟩
      -- DIR by DIR
      have l217 : ∀ Y : Nat → Nat → Int, mBf J Y W (W * H) m h (4 * k + 4) → mBw J Y → (I 102 41 ≤ Y 102 41 ∧ Y 116 0 = I 116 0) → Y 116 h = (s : Int) → yW l zSS D cy zFk z (d + 3) 238 bc bs K 0 0 217 [(0, yr (some 102)), (1, yi (h : Int)), (2, yi (s : Int)), (3, yi (k : Int))] [] (N, T, R, Y) := by
        intro Y bY fY qY sY
        refine B_238_217 hT hR ?_
        rw [yadd_eq (x := (k : Int)) (by omega) (by omega)]
        exact ih Y (k + 1) (by omega) (by rw [show 4 * (k + 1) = 4 * k + 4 by omega]; exact bY) fY qY sY
      have l31 : ∀ (n : Nat) (Y : Nat → Nat → Int) (dir : Nat), dir + n = 4 → mBf J Y W (W * H) m h (4 * k + dir) → mBw J Y → (I 102 41 ≤ Y 102 41 ∧ Y 116 0 = I 116 0) → Y 116 h = (s : Int) → yW l zSS D cy zFk z (d + 3) 238 bc bs K 0 0 31 [(0, yr (some 102)), (1, yi (h : Int)), (2, yi (s : Int)), (3, yi (k : Int)), (4, yi (mCe W (mDg s k))), (5, yi (dir : Int))] [] (N, T, R, Y) := by
        intro n
        induction n with
        | zero =>
          intro Y dir e1 bY fY qY sY
          exact B_238_31 hT hR ⟨fun _ => l217 Y (by rw [show 4 * k + 4 = 4 * k + dir by omega]; exact bY) fY qY sY, fun q => absurd q (by omega)⟩
        | succ n ihd =>
          intro Y dir e1 bY fY qY sY
          obtain ⟨y104, y117, y40⟩ := fix Y fY
          refine B_238_31 hT hR ⟨fun q => absurd q (by omega), fun _ => ⟨fun cneg => ?_, fun cpos => ?_⟩⟩
          · have d36 : mDg s k = 36 := by
              apply Classical.byContradiction
              intro q
              unfold mCe at cneg
              rw [if_neg q] at cneg; omega
            refine l217 Y (mBf_v bY (fun s1 s' mv m1 m2 e2 hu => ?_)) fY qY sY
            exfalso
            obtain ⟨k2, dir2, u1, u2, u3, u4, -⟩ := hu
            have : k2 = k := by omega
            subst this
            have : s1 = s := by omega
            subst this
            exact u4 d36
          · have d36 : mDg s k ≠ 36 := fun q => by
              unfold mCe at cpos
              rw [if_pos q] at cpos; omega
            have cellc := mCe_cell hw10 (show mDg s k < W * H by omega) d36
            have c100 := mCell_100 (W := (W : Int)) (H := (H : Int)) (by omega) (by omega) cellc
            have dimY : mDim Y := by unfold mDim; rw [y104, y104, y104]; exact hM
            have l211 : ∀ Z : Nat → Nat → Int, mBf J Z W (W * H) m h (4 * k + (dir + 1)) → mBw J Z → (I 102 41 ≤ Z 102 41 ∧ Z 116 0 = I 116 0) → Z 116 h = (s : Int) → yW l zSS D cy zFk z (d + 3) 238 bc bs K 0 0 211 [(0, yr (some 102)), (1, yi (h : Int)), (2, yi (s : Int)), (3, yi (k : Int)), (4, yi (mCe W (mDg s k))), (5, yi (dir : Int))] [] (N, T, R, Z) := by
              intro Z bZ fZ qZ sZ
              refine B_238_211 hT hR ?_
              rw [yadd_eq (x := (dir : Int)) (by omega) (by omega)]
              exact ihd Z (dir + 1) (by omega) bZ fZ qZ sZ
            -- a STEP that is none
            have none_ : (¬ (0 ≤ mStep J (mCe W (mDg s k)) (dir : Int) ∧ (mKn W s k (mStep J (mCe W (mDg s k)) (dir : Int)) m : Int) ≤ J 104 (210 + (mStep J (mCe W (mDg s k)) (dir : Int)).toNat))) → yW l zSS D cy zFk z (d + 3) 238 bc bs K 0 0 211 [(0, yr (some 102)), (1, yi (h : Int)), (2, yi (s : Int)), (3, yi (k : Int)), (4, yi (mCe W (mDg s k))), (5, yi (dir : Int))] [] (N, T, R, Y) := fun hn => by
              refine l211 Y (mBf_v bY (fun s1 s' mv m1 m2 e2 hu => ?_)) fY qY sY
              exfalso
              obtain ⟨k2, dir2, u1, u2, u3, u4, u5, u6, u7⟩ := hu
              have a1 : k2 = k := by omega
              subst a1
              have a2 : dir2 = dir := by omega
              subst a2
              have a3 : s1 = s := by omega
              subst a3
              exact hn ⟨u5, u6⟩
            refine r_stepTo (d := d) hT hR dimY (by omega) c100.2 (by omega) (by omega) ⟨_, _, rfl, rfl, ?_⟩
            rw [mStep_cg y104]
            have hst := @mStep_rng J hM (mCe W (mDg s k)) (dir : Int)
            refine ⟨fun c0 => ?_, fun c0 => none_ (fun q => c0 q.1)⟩
            have tc : mCell (J 104 0) (J 104 1) (mStep J (mCe W (mDg s k)) (dir : Int)) ∧ mStep J (mCe W (mDg s k)) (dir : Int) < 100 := by
              rcases hst with e | e
              · omega
              · exact e
            have tc' : mCell (W : Int) (H : Int) (mStep J (mCe W (mDg s k)) (dir : Int)) := by rw [← hW, ← hH]; exact tc.1
            -- the STEP is done
            have l185 : ∀ p : Nat, p = (if mStep J (mCe W (mDg s k)) (dir : Int) = J 104 (334 + (J 117 k).toNat) then 36 else mPc W (mStep J (mCe W (mDg s k)) (dir : Int))) → (mKn W s k (mStep J (mCe W (mDg s k)) (dir : Int)) m : Int) ≤ J 104 (210 + (mStep J (mCe W (mDg s k)) (dir : Int)).toNat) → yW l zSS D cy zFk z (d + 3) 238 bc bs K 0 0 185 [(0, yr (some 102)), (1, yi (h : Int)), (2, yi (s : Int)), (3, yi (k : Int)), (4, yi (mCe W (mDg s k))), (5, yi (dir : Int)), (8, yi (mBy k : Int))] [yi (p : Int)] (N, T, R, Y) := by
              intro p hp hroom
              have hp36 : p ≤ 36 := by
                rw [hp]
                split
                · omega
                · have := (mPc_lt tc' hA).2; omega
              obtain ⟨s', e2, l2, -, -⟩ := mDg_set (p := p) hs5 (show k < 3 by omega) (by omega)
              have hu : mSu J W m s s' (4 * k + dir) := ⟨k, dir, hkm, by omega, rfl, d36, c0, hroom, by rw [e2, hp]⟩
              have hby : (mBy k : Int) * ((p : Int) - (mDg s k : Int)) = (s' : Int) - (s : Int) := by omega
              refine B_238_185 hT hR (r_digit hT hR hs5 ⟨_, _, rfl, rfl, ?_⟩)
              rw [ysub_eq (by omega) (by omega), ymul_eq (by rw [hby]; omega) (by rw [hby]; omega), hby, yadd_eq (by omega) (by omega), ymul_eq (x := 4) (by omega) (by omega), yadd_eq (x := 4 * (k : Int)) (by omega) (by omega), show (s : Int) + ((s' : Int) - (s : Int)) = (s' : Int) by omega, show 4 * (k : Int) + (dir : Int) = ((4 * k + dir : Nat) : Int) by omega]
              refine r_reachesQ hT hR (s := s) bY (by omega) sY hm3 (vs' s' _ hu) hu (fun Z bZ wZ qZ sZ nz => ⟨_, rfl, rfl, ?_⟩)
              refine l211 Z (mBf_v bZ (fun s1 s2 mv m1 m2 e3 hu2 => ?_)) (fun q j x1 x2 x3 => by rw [wZ q j x1 x2 x3]; exact fY q j x1 x2 x3) ⟨by omega, qZ.2.trans qY.2⟩ sZ
              obtain ⟨k2, dir2, u1, u2, u3, u4, u5, u6, u7⟩ := hu2
              have a1 : k2 = k := by omega
              subst a1
              have a2 : dir2 = dir := by omega
              subst a2
              have a3 : s1 = s := by omega
              subst a3
              have a4 : s2 = s' := by rw [← hp, ← e2] at u7; omega
              subst a4
              exact nz
            have l152 : (mKn W s k (mStep J (mCe W (mDg s k)) (dir : Int)) m : Int) ≤ J 104 (210 + (mStep J (mCe W (mDg s k)) (dir : Int)).toNat) → yW l zSS D cy zFk z (d + 3) 238 bc bs K 0 0 152 [(0, yr (some 102)), (1, yi (h : Int)), (2, yi (s : Int)), (3, yi (k : Int)), (4, yi (mCe W (mDg s k))), (5, yi (dir : Int)), (6, yi (mStep J (mCe W (mDg s k)) (dir : Int)))] [yi (mBy k : Int)] (N, T, R, Y) := by
              intro hroom
              have hwk := hwho k hkm
              refine B_238_152 hT hR ?_
              rw [show ((k : Int)).toNat = k by omega, y117, yadd_eq (x := 334) (by omega) (by omega), y104, show (334 + J 117 k).toNat = 334 + (J 117 k).toNat by omega]
              refine ⟨by omega, by omega, by omega, by omega, fun cb => ?_, fun cb => ?_⟩
              · refine r_placeOf (W := W) hT hR (by rw [y104]; exact hW) hw10 tc.2 ⟨_, _, rfl, rfl, ?_⟩
                exact l185 _ (by rw [if_neg cb]) hroom
              · exact l185 36 (by rw [if_pos (by omega)]) hroom
            -- how many are there
            have l66 : ∀ (n : Nat) (q : Nat), q + n = m → yW l zSS D cy zFk z (d + 3) 238 bc bs K 0 0 66 [(0, yr (some 102)), (1, yi (h : Int)), (2, yi (s : Int)), (3, yi (k : Int)), (4, yi (mCe W (mDg s k))), (5, yi (dir : Int)), (6, yi (mStep J (mCe W (mDg s k)) (dir : Int))), (7, yi (mKn W s k (mStep J (mCe W (mDg s k)) (dir : Int)) q : Int)), (8, yi (q : Int))] [] (N, T, R, Y) := by
              have kn_le : ∀ q, mKn W s k (mStep J (mCe W (mDg s k)) (dir : Int)) q ≤ q := by
                intro q
                induction q with
                | zero => exact Nat.le_refl _
                | succ q ihq => unfold mKn; split <;> omega
              intro n
              induction n with
              | zero =>
                intro q e2
                have : q = m := by omega
                subst this
                refine B_238_66 hT hR ⟨fun _ => ?_, fun x => absurd x (by omega)⟩
                rw [yadd_eq (x := 210) (by omega) (by omega), y104, show (210 + mStep J (mCe W (mDg s k)) (dir : Int)).toNat = 210 + (mStep J (mCe W (mDg s k)) (dir : Int)).toNat by omega]
                refine ⟨by omega, by omega, fun hroom => ?_, fun hroom => none_ (fun x => hroom x.2)⟩
                have g := l152 hroom
                refine ⟨fun k0 => ⟨fun k1 => ?_, fun k1 => ?_⟩, fun k0 => ?_⟩
                · rw [show (mBy k : Int) = 1369 by unfold mBy; rw [if_neg (by omega), if_neg (by omega)]; rfl] at g; exact g
                · rw [show (mBy k : Int) = 37 by unfold mBy; rw [if_neg (by omega), if_pos (by omega)]; rfl] at g; exact g
                · rw [show (mBy k : Int) = 1 by unfold mBy; rw [if_pos (by omega)]; rfl] at g; exact g
              | succ n ihq =>
                intro q e2
                have hle := kn_le q
                have l103 : ∀ t : Nat, t ≤ 1 → t = (if q ≠ k ∧ mCe W (mDg s q) = mStep J (mCe W (mDg s k)) (dir : Int) then 1 else 0) → yW l zSS D cy zFk z (d + 3) 238 bc bs K 0 0 103 [(0, yr (some 102)), (1, yi (h : Int)), (2, yi (s : Int)), (3, yi (k : Int)), (4, yi (mCe W (mDg s k))), (5, yi (dir : Int)), (6, yi (mStep J (mCe W (mDg s k)) (dir : Int))), (8, yi (q : Int))] [yi (t : Int), yi (mKn W s k (mStep J (mCe W (mDg s k)) (dir : Int)) q : Int)] (N, T, R, Y) := by
                  intro t ht hte
                  refine B_238_103 hT hR ?_
                  rw [yadd_eq (x := (mKn W s k (mStep J (mCe W (mDg s k)) (dir : Int)) q : Int)) (by omega) (by omega), yadd_eq (x := (q : Int)) (by omega) (by omega)]
                  have g := ihq (q + 1) (by omega)
                  rw [show mKn W s k (mStep J (mCe W (mDg s k)) (dir : Int)) (q + 1) = mKn W s k (mStep J (mCe W (mDg s k)) (dir : Int)) q + t by rw [hte]; rfl] at g
                  exact g
                refine B_238_66 hT hR ⟨fun x => absurd x (by omega), fun _ => ⟨fun eqk => ?_, fun nek => ?_⟩⟩
                · exact B_238_102 hT hR (l103 0 (by omega) (by rw [if_neg (fun x => x.1 (by omega))]))
                · refine r_digit hT hR hs5 ⟨_, _, rfl, rfl, ?_⟩
                  refine r_cellOf (W := W) (H := H) hT hR (by rw [y104]; exact hW) hw10 hA ((hv.2 q (by omega)).1 (by omega)) ⟨_, _, rfl, rfl, fun ne => ?_, fun eq => ?_⟩
                  · exact B_238_102 hT hR (l103 0 (by omega) (by rw [if_neg (fun x => ne x.2)]))
                  · exact l103 1 (by omega) (by rw [if_pos ⟨by omega, by omega⟩])
            exact l66 m 0 (by omega)
      exact l31 4 X 0 rfl bX fX qX sX
  refine B_238_0 hT hR ⟨by omega, by omega, ?_⟩
  rw [show ((h : Int)).toNat = h by omega, hs]
  exact l9 m I 0 (by omega) b fI ⟨Int.le_refl _, rfl⟩ hs
end Sm
