/-! THE REFERENCE's CONTRACTS: UNTIED. -/
section Sm
variable {l : Launch} {D : va_G} {cy : Nat → ClassId} {z d bc bs N : Nat} {T : Nat → Nat × Nat} {R : Nat → Nat → Option Nat} {I : Nat → Nat → Int} {K : yKo}
def mUw (I I' : Nat → Nat → Int) : Prop := ∀ k j, k ≠ 115 → k ≠ 116 → k ≠ 117 → k ≠ 118 → (k ≠ 102 ∨ (j ≠ 0 ∧ j ≠ 40 ∧ j ≠ 41 ∧ j ≠ 42)) → I' k j = I k j
theorem r_untied (hT : yLT T) (hR : yLR R) (hI : mInv I) (hRm : mRm I) (hNb : mNb I) (h42 : 0 ≤ I 102 42 ∧ I 102 42 ≤ 400) (hk : ∀ r I', 0 ≤ I' 102 42 → I' 102 42 ≤ 400 → mUw I I' → K (some (yi r)) (N, T, R, I')) : yW l zSS D cy zFk z (d + 4) 251 bc bs K 0 0 0 [(0, yr (some 102))] [] (N, T, R, I) := by
  have hM := hI.1
  obtain ⟨W, hW⟩ : ∃ W : Nat, I 104 0 = (W : Int) := ⟨(I 104 0).toNat, by have := hM.1; omega⟩
  obtain ⟨H, hH⟩ : ∃ H : Nat, I 104 1 = (H : Int) := ⟨(I 104 1).toNat, by have := hM.2.2.1; omega⟩
  have hw10 : W ≤ 10 := by have := hM.2.1; omega
  have hh10 : H ≤ 10 := by have := hM.2.2.2.1; omega
  have h8 := hM.2.2.2.2
  -- the search, from rows that begin it
  have search : ∀ (J : Nat → Nat → Int) (m st : Nat), mUw I J → J 102 42 = I 102 42 → W * H ≤ 36 → m ≤ 3 → J 102 40 = (m : Int) → (∀ k, k < m → 0 ≤ J 117 k ∧ J 117 k < 8) → (∃ P, kR J W (W * H) st P) → (∀ t, t < m → mDg st t ≠ 36 → mCe W (mDg st t) ≠ J 104 (334 + (J 117 t).toNat)) →
      ∀ (f : Nat) (X : Nat → Nat → Int) (i : Nat), 50653 - i < f → mBf J X W (W * H) m i 0 → mBw J X → X 116 0 = (st : Int) → yW l zSS D cy zFk z (d + 4) 251 bc bs K 0 0 187 [(0, yr (some 102)), (1, yi 50652), (3, yi (i : Int))] [] (N, T, R, X) := by
    intro J m st fJ J42 hA hm3 hm hwho hP hnb f
    have J104 : ∀ j, J 104 j = I 104 j := fun j => fJ 104 j (by decide) (by decide) (by decide) (by decide) (.inl (by decide))
    have iJ : mInv J := mInv_eq hI J104 (fun u hu => by rw [fJ 111 u (by decide) (by decide) (by decide) (by decide) (.inl (by decide)), fJ 112 u (by decide) (by decide) (by decide) (by decide) (.inl (by decide))]; exact hI.2.2.2.2.2.2 u hu)
    have JW : J 104 0 = (W : Int) := by rw [J104]; exact hW
    have JH : J 104 1 = (H : Int) := by rw [J104]; exact hH
    induction f with
    | zero => intro X i h; exact absurd h (Nat.not_lt_zero _)
    | succ f ih =>
      intro X i hf bX wX eX
      have fX : mUw I X := fun k j a b c e g => by rw [wX k j a b (by omega)]; exact fJ k j a b c e g
      have X42 : X 102 42 = I 102 42 := by rw [wX 102 42 (by decide) (by decide) (.inr (by decide))]; exact J42
      obtain ⟨q, a1, q5, hKr⟩ := mBf_kr bX
      refine B_251_187 hT hR ⟨fun _ => hk _ X (by omega) (by omega) fX, fun c1 => ?_⟩
      rw [show ((i : Int)).toNat = i by omega]
      refine ⟨by omega, by omega, fun cne => ?_, fun ceq => ?_⟩
      · refine r_spreadsKnotQ (d := d) hT hR (J := J) (W := W) (H := H) (m := m) iJ JW JH hA hm hm3 hwho wX bX (by omega) (fun Y bY wY qY => ⟨_, rfl, rfl, ?_⟩)
        rw [yadd_eq (x := (i : Int)) (by omega) (by omega)]
        exact ih Y (i + 1) (by omega) bY wY (by rw [qY.2]; exact eX)
      · have hg : X 116 i = 50652 := by omega
        obtain ⟨s0, p0, mv0, z1, z2, -⟩ := hKr 0 (by omega)
        have hvs : ∀ s s' mv, mVs (W * H) m s → mSu J W m s s' mv → mVs (W * H) m s' := fun s s' mv hv hu => mSu_vs iJ.1 JW JH hA hm3 hv hu
        obtain ⟨r, hr⟩ := mBf_chain bX i 50652 s0 (by omega) hg z1
        have v0 : mVs (W * H) m s0 := by
          obtain ⟨q', b1, b2, b3, b4, b5, -⟩ := bX
          obtain ⟨s, p, mv, c1, c2, -⟩ := b5 0 (by omega)
          have : s = s0 := by omega
          subst this; exact c2
        have es : s0 = st := by omega
        subst es
        obtain ⟨P, hP⟩ := hP
        obtain ⟨L, hL, hc⟩ := mCh_short iJ JW JH hA hm3 v0 hP hnb hr
        have dep := mBf_depth bX (by omega) hg z1 hc hvs
        refine r_knotRow hT hR (q := q) q5 hKr (by omega) (by omega) (fun r I' v0 v4 f' => ⟨_, _, rfl, rfl, ?_⟩)
        exact hk r I' v0 v4 (fun k j a b c e g => by rw [f' k j e (by omega)]; exact fX k j a b c e g)
  -- the first knot
  have l125 : ∀ (Y : Nat → Nat → Int) (m : Nat), mUw I Y → Y 102 42 = I 102 42 → W * H ≤ 36 → m ≤ 3 → Y 102 40 = (m : Int) → (∀ k, k < m → 0 ≤ Y 117 k ∧ Y 117 k < 8 ∧ Y 117 k < I 104 2 ∧ 0 ≤ I 104 (470 + (Y 117 k).toNat)) → (∀ a b, a < b → b < m → Y 117 a < Y 117 b) → (∀ j, j < 50653 → Y 115 j = 0) → yW l zSS D cy zFk z (d + 4) 251 bc bs K 0 0 125 [(0, yr (some 102)), (1, yi 50652), (2, yi 0), (3, yi 2)] [] (N, T, R, Y) := by
    intro Y m fY Y42 hA hm3 hm hwho hin hz
    have Y104 : ∀ j, Y 104 j = I 104 j := fun j => fY 104 j (by decide) (by decide) (by decide) (by decide) (.inl (by decide))
    have fin : ∀ d0 d1 d2 : Nat, (∀ t : Nat × Nat, t = (0, d0) ∨ t = (1, d1) ∨ t = (2, d2) → (t.1 < m → t.2 < W * H) ∧ (m ≤ t.1 → t.2 = 36)) → (∀ t : Nat × Nat, t = (0, d0) ∨ t = (1, d1) ∨ t = (2, d2) → t.1 < m → mCe W t.2 = I 104 (470 + (Y 117 t.1).toNat)) → yW l zSS D cy zFk z (d + 4) 251 bc bs K 0 0 125 [(0, yr (some 102)), (1, yi 50652), (2, yi (37 * (37 * (d2 : Int) + (d1 : Int)) + (d0 : Int))), (3, yi (-1))] [] (N, T, R, Y) := by
      intro d0 d1 d2 hd hd'
      have e0 := hd (0, d0) (.inl rfl)
      have e1 := hd (1, d1) (.inr (.inl rfl))
      have e2 := hd (2, d2) (.inr (.inr rfl))
      have c0 : 0 < m → mCe W d0 = I 104 (470 + (Y 117 0).toNat) := hd' (0, d0) (.inl rfl)
      have c1 : 1 < m → mCe W d1 = I 104 (470 + (Y 117 1).toNat) := hd' (1, d1) (.inr (.inl rfl))
      have c2 : 2 < m → mCe W d2 = I 104 (470 + (Y 117 2).toNat) := hd' (2, d2) (.inr (.inr rfl))
      have e0 : (0 < m → d0 < W * H) ∧ (m ≤ 0 → d0 = 36) := e0
      have e1 : (1 < m → d1 < W * H) ∧ (m ≤ 1 → d1 = 36) := e1
      have e2 : (2 < m → d2 < W * H) ∧ (m ≤ 2 → d2 = 36) := e2
      have h0 : d0 ≤ 36 := by rcases Nat.lt_or_ge 0 m with c | c; have := e0.1 c; omega; have := e0.2 c; omega
      have h1 : d1 ≤ 36 := by rcases Nat.lt_or_ge 1 m with c | c; have := e1.1 c; omega; have := e1.2 c; omega
      have h2 : d2 ≤ 36 := by rcases Nat.lt_or_ge 2 m with c | c; have := e2.1 c; omega; have := e2.2 c; omega
      obtain ⟨g0, g1, g2⟩ := mDg_of (a := d0) (b := d1) (c := d2) (by omega) (by omega)
      rw [show 37 * (37 * (d2 : Int) + (d1 : Int)) + (d0 : Int) = ((d0 + d1 * 37 + d2 * 1369 : Nat) : Int) by omega]
      generalize hst : d0 + d1 * 37 + d2 * 1369 = st at *
      have st5 : st < 50653 := by omega
      have hv : mVs (W * H) m st := by
        refine ⟨st5, fun k hk3 => ?_⟩
        rcases (show k = 0 ∨ k = 1 ∨ k = 2 by omega) with rfl | rfl | rfl
        · rw [g0]; exact ⟨fun c => .inr (e0.1 c), e0.2⟩
        · rw [g1]; exact ⟨fun c => .inr (e1.1 c), e1.2⟩
        · rw [g2]; exact ⟨fun c => .inr (e2.1 c), e2.2⟩
      have at_ : ∀ t, t < m → mDg st t < W * H ∧ mCe W (mDg st t) = I 104 (470 + (Y 117 t).toNat) := fun t ht => by
        rcases (show t = 0 ∨ t = 1 ∨ t = 2 by omega) with rfl | rfl | rfl
        · rw [g0]; exact ⟨e0.1 ht, c0 ht⟩
        · rw [g1]; exact ⟨e1.1 ht, c1 ht⟩
        · rw [g2]; exact ⟨e2.1 ht, c2 ht⟩
      have hnb : ∀ t, t < m → mDg st t ≠ 36 → mCe W (mDg st t) ≠ Y 104 (334 + (Y 117 t).toNat) := fun t ht _ => by
        obtain ⟨w1, w2, w3, w4⟩ := hwho t ht
        rw [(at_ t ht).2, Y104]
        exact hNb (Y 117 t).toNat (by omega) (by omega) w4
      have hP : ∃ P, kR Y W (W * H) st P := by
        refine kR_start hm3 (fun t ht => (at_ t ht).1) (fun t t3 ht => (hv.2 t t3).2 ht) (fun t ht => by have := (at_ t ht).1; omega) (fun a b ab bm e => ?_) (fun a b c ab bc cm e1 e2 => ?_)
        · obtain ⟨a1, a2⟩ := at_ a (by omega)
          obtain ⟨b1, b2⟩ := at_ b bm
          obtain ⟨w1, w2, w3, w4⟩ := hwho a (by omega)
          obtain ⟨y1, y2, y3, y4⟩ := hwho b bm
          have lt := hin a b ab bm
          rw [a2, Y104]
          exact hRm.1 (Y 117 a).toNat (Y 117 b).toNat (by omega) (by omega) (by omega) w4 (by rw [← a2, ← b2, e])
        · obtain ⟨a1, a2⟩ := at_ a (by omega)
          obtain ⟨b1, b2⟩ := at_ b (by omega)
          obtain ⟨k1, k2⟩ := at_ c cm
          obtain ⟨w1, w2, w3, w4⟩ := hwho a (by omega)
          obtain ⟨y1, y2, y3, y4⟩ := hwho b (by omega)
          obtain ⟨z1, z2, z3, z4⟩ := hwho c cm
          have l1 := hin a b ab (by omega)
          have l2 := hin b c bc cm
          exact hRm.2 (Y 117 a).toNat (Y 117 b).toNat (Y 117 c).toNat (by omega) (by omega) (by omega) (by omega) w4 (by rw [← a2, ← b2, e1]) (by rw [← b2, ← k2, e2])
      refine B_251_125 hT hR ⟨fun _ => ?_, fun q => absurd q (by omega)⟩
      intro I2 x2
      have n2 : ∀ k j, (k ≠ 102 ∨ j ≠ 41) → I2 k j = Y k j := fun k j h => by rw [x2, yU_ne _ _ (by omega)]
      have v2 : I2 102 41 = 0 := by rw [x2, yU_eq]
      refine B_228_0 hT hR ?_
      rw [show ((st : Int)).toNat = st by omega, ymul_eq (x := 12) (by omega) (by omega), yadd_eq (x := 1) (by omega) (by omega), yadd_eq (x := 1 + 12 * 0) (by omega) (by omega), ynar1_eq (x := 1 + 12 * 0 + 0) (by omega) (by omega), ynar1_eq (x := (st : Int)) (by omega) (by omega)]
      have z2 : I2 115 st = 0 := by rw [n2 115 st (by omega)]; exact hz st st5
      refine ⟨by omega, by omega, fun _ => ⟨by omega, by omega, ?_⟩, fun q => absurd z2 q⟩
      intro I6 x6
      have v6 : I6 102 41 = 0 := by rw [x6, yU_ne _ _ (by omega)]; exact v2
      rw [v6]
      refine ⟨by omega, by omega, ?_⟩
      intro I9 x9 I10 x10
      have v9 : I9 102 41 = 0 := by rw [x9, yU_ne _ _ (by omega)]; exact v6
      rw [v9, yadd_eq (by omega) (by omega)] at x10
      have w41 : I10 102 41 = 1 := by rw [x10, yU_eq]; rfl
      have w116 : I10 116 0 = (st : Int) := by rw [x10, yU_ne _ _ (by omega), x9]; exact yU_eq _ _ _ _
      have w115 : I10 115 st = 1 := by rw [x10, yU_ne _ _ (by omega), x9, yU_ne _ _ (by omega), x6, yU_eq]; rfl
      have o115 : ∀ j, j ≠ st → j < 50653 → I10 115 j = 0 := fun j hj h5 => by rw [x10, yU_ne _ _ (by omega), x9, yU_ne _ _ (by omega), x6, yU_ne _ _ (by omega), n2 115 j (by omega)]; exact hz j h5
      have oth : mBw Y I10 := fun k j a b c => by rw [x10, yU_ne _ _ (by omega), x9, yU_ne _ _ (by omega), x6, yU_ne _ _ (by omega)]; exact n2 k j (by omega)
      refine ⟨_, rfl, rfl, search Y m st fY Y42 hA hm3 hm (fun k hk => ⟨(hwho k hk).1, (hwho k hk).2.1⟩) hP hnb _ I10 0 (Nat.lt_succ_self _) ⟨1, w41, by omega, by omega, ?_, fun i hi => ?_, fun s hs hne => ?_, fun i i' s s' y1 y2 y3 y4 => ?_, fun j hj => absurd hj (Nat.not_lt_zero _), fun s s' mv hm => absurd hm (Nat.not_lt_zero _)⟩ oth w116⟩
      · have g := mCt_up (g := fun j => if j < 50653 then 0 else I10 115 j) (g' := fun j => I10 115 j) (c := st) (by show (if st < 50653 then (0 : Int) else _) = 0; rw [if_pos st5]) (by show I10 115 st ≠ 0; omega) (fun j hj => by show I10 115 j = (if j < 50653 then (0 : Int) else I10 115 j); by_cases c : j < 50653; rw [if_pos c]; exact o115 j hj c; rw [if_neg c]) 50653
        rw [g, mCt_zero 50653 (fun j hj => if_pos hj), if_pos st5]
      · have : i = 0 := by omega
        subst this
        exact ⟨st, 0, 0, w116, hv, by omega, Nat.le_refl _, by omega, fun _ => rfl, fun h => absurd h (Nat.not_lt_zero _)⟩
      · by_cases e : s = st
        · subst e; exact ⟨0, by omega, w116⟩
        · exact absurd (o115 s e hs) hne
      · have e1 : i = 0 := by omega
        have e2 : i' = 0 := by omega
        subst e1; subst e2
        have : s = s' := by omega
        subst this; exact Int.le_refl _
    -- one digit
    have dig : ∀ (k : Nat) (x : Int), k < 3 → (0 ≤ x ∧ x ≤ 1368) → (∀ p : Nat, ((k < m → p < W * H) ∧ (m ≤ k → p = 36)) → p ≤ 36 → (k < m → mCe W p = I 104 (470 + (Y 117 k).toNat)) → yW l zSS D cy zFk z (d + 4) 251 bc bs K 0 0 125 [(0, yr (some 102)), (1, yi 50652), (2, yi (37 * x + (p : Int))), (3, yi ((k : Int) + -1))] [] (N, T, R, Y)) → yW l zSS D cy zFk z (d + 4) 251 bc bs K 0 0 125 [(0, yr (some 102)), (1, yi 50652), (2, yi x), (3, yi (k : Int))] [] (N, T, R, Y) := by
      intro k x hk3 hx go
      refine B_251_125 hT hR ⟨fun q => absurd q (by omega), fun _ => ?_⟩
      rw [ymul_eq (x := 37) (by omega) (by omega), yadd_eq (x := (k : Int)) (y := -1) (by omega) (by omega)]
      refine ⟨fun cm => ?_, fun cm => ?_⟩
      · rw [yadd_eq (x := 37 * x) (by omega) (by omega)]
        exact go 36 ⟨fun q => by omega, fun _ => rfl⟩ (Nat.le_refl _) (fun q => by omega)
      · obtain ⟨w1, w2, w3, w4⟩ := hwho k (by omega)
        have hat := hI.2.2.2.2.2.1 (Y 117 k).toNat (by omega)
        have cc : mCell (I 104 0) (I 104 1) (I 104 (470 + (Y 117 k).toNat)) := by
          rcases hat.1 with e | e | e
          · omega
          · exact e
          · exfalso
            have := (hI.2.2.2.1 (Y 117 k).toNat (by omega) (by omega)).1
            unfold mCell at this
            omega
        rw [hW, hH] at cc
        have c100 := mCell_100 (W := (W : Int)) (H := (H : Int)) (by omega) (by omega) cc
        have pl := mPc_lt cc hA
        rw [show ((k : Int)).toNat = k by omega, yadd_eq (x := 470) (by omega) (by omega), show (470 + Y 117 k).toNat = 470 + (Y 117 k).toNat by omega, Y104]
        refine ⟨by omega, by omega, by omega, by omega, r_placeOf (W := W) hT hR (by rw [Y104]; exact hW) hw10 c100.2 ⟨_, _, rfl, rfl, ?_⟩⟩
        rw [yadd_eq (x := 37 * x) (by omega) (by omega)]
        exact go _ ⟨fun _ => pl.1, fun q => by omega⟩ (by omega) (fun _ => mCe_Pc hw10 cc hA)
    refine dig 2 0 (by omega) (by omega) (fun d2 h2 l2 j2 => ?_)
    rw [show 37 * (0 : Int) + (d2 : Int) = (d2 : Int) by omega]
    refine dig 1 (d2 : Int) (by omega) (by omega) (fun d1 h1 l1 j1 => ?_)
    refine dig 0 (37 * (d2 : Int) + (d1 : Int)) (by omega) (by omega) (fun d0 h0 l0 j0 => ?_)
    refine fin d0 d1 d2 (fun t ht => ?_) (fun t ht => ?_)
    · rcases ht with rfl | rfl | rfl
      · exact h0
      · exact h1
      · exact h2
    · rcases ht with rfl | rfl | rfl
      · exact j0
      · exact j1
      · exact j2
  -- who is out
  have l12 : ∀ (f : Nat) (X : Nat → Nat → Int) (k m : Nat), k + f = 9 → (k : Int) ≤ I 104 2 → m ≤ 3 → X 102 40 = (m : Int) → mUw I X → X 102 42 = I 102 42 → (∀ j, j < m → 0 ≤ X 117 j ∧ X 117 j < 8 ∧ X 117 j < I 104 2 ∧ 0 ≤ I 104 (470 + (X 117 j).toNat)) → (∀ j, j < m → X 117 j < (k : Int)) → (∀ a b, a < b → b < m → X 117 a < X 117 b) → yW l zSS D cy zFk z (d + 4) 251 bc bs K 0 0 12 [(0, yr (some 102)), (1, yi (k : Int))] [] (N, T, R, X) := by
    intro f
    induction f with
    | zero => intro X k m e1 e2; omega
    | succ f ih =>
      intro X k m e1 e2 hm3 hm fX X42 hwho hlt hin
      have X104 : ∀ j, X 104 j = I 104 j := fun j => fX 104 j (by decide) (by decide) (by decide) (by decide) (.inl (by decide))
      have out : ∀ r, K (some (yi r)) (N, T, R, X) := fun r => hk r X (by omega) (by omega) fX
      have eWH : ymul (X 104 0) (X 104 1) = ((W * H : Nat) : Int) := by
        rw [X104, X104, hW, hH]
        have : W * H ≤ 10 * 10 := Nat.mul_le_mul hw10 hh10
        have e : (W : Int) * (H : Int) = ((W * H : Nat) : Int) := rfl
        rw [ymul_eq (by rw [e]; omega) (by rw [e]; omega)]
        exact e
      refine B_251_12 hT hR ⟨fun _ => ⟨fun cA => ?_, fun _ => out _⟩, fun cl => ?_⟩
      · -- rows emptied
        have l98 : ∀ (f : Nat) (Y : Nat → Nat → Int) (i : Nat), i + f = 50653 → (∀ j, j < i → Y 115 j = 0) → (∀ q j, q ≠ 115 → Y q j = X q j) → yW l zSS D cy zFk z (d + 4) 251 bc bs K 0 0 98 [(0, yr (some 102)), (1, yi (i : Int))] [] (N, T, R, Y) := by
          intro f
          induction f with
          | zero =>
            intro Y i y1 y2 y3
            refine B_251_98 hT hR ⟨fun _ => ?_, fun q => absurd q (by omega)⟩
            refine l125 Y m (fun q j a b c e g => by rw [y3 q j a]; exact fX q j a b c e g) (by rw [y3 102 42 (by decide)]; exact X42) (by omega) hm3 (by rw [y3 102 40 (by decide)]; exact hm) (fun j hj => by rw [y3 117 j (by decide)]; exact hwho j hj) (fun a b ab bm => by rw [y3 117 a (by decide), y3 117 b (by decide)]; exact hin a b ab bm) (fun j hj => y2 j (by omega))
          | succ f ihf =>
            intro Y i y1 y2 y3
            refine B_251_98 hT hR ⟨fun q => absurd q (by omega), fun _ => ?_⟩
            rw [yadd_eq (x := (i : Int)) (by omega) (by omega), show ((i : Int)).toNat = i by omega, ynar1_eq (x := 0) (by omega) (by omega)]
            refine ⟨by omega, by omega, ?_⟩
            intro I4 x4
            refine ihf I4 (i + 1) (by omega) (fun j hj => ?_) (fun q j a => ?_)
            · rw [x4]
              by_cases e : j = i
              · subst e; rw [yU_eq]
              · rw [yU_ne _ _ (by omega)]; exact y2 j (by omega)
            · rw [x4, yU_ne _ _ (by omega)]; exact y3 q j a
        exact l98 50653 X 0 (by omega) (fun j hj => absurd hj (by omega)) (fun _ _ _ => rfl)
      · rw [yadd_eq (x := 470) (by omega) (by omega), yadd_eq (x := (k : Int)) (by omega) (by omega), show ((470 : Int) + (k : Int)).toNat = 470 + k by omega, X104, hm, ynar1_eq (x := (k : Int)) (by omega) (by omega)]
        have cl : (k : Int) < I 104 2 := by rw [X104] at cl; omega
        refine ⟨by omega, by omega, fun cout => ⟨fun _ => ⟨by omega, by omega, ?_⟩, fun _ => out _⟩, fun _ => ih X (k + 1) m (by omega) (by omega) hm3 hm fX X42 hwho (fun j hj => by have := hlt j hj; omega) hin⟩
        intro I9 x9 I10 x10
        rw [show ((m : Int)).toNat = m by omega] at x9
        have v9 : I9 102 40 = (m : Int) := by rw [x9, yU_ne _ _ (by omega)]; exact hm
        rw [v9, yadd_eq (by omega) (by omega)] at x10
        have n10 : ∀ q j, (q ≠ 102 ∨ j ≠ 40) → (q ≠ 117 ∨ j ≠ m) → I10 q j = X q j := fun q j a b => by rw [x10, yU_ne _ _ (by omega), x9, yU_ne _ _ (by omega)]
        have w117 : I10 117 m = (k : Int) := by rw [x10, yU_ne _ _ (by omega), x9, yU_eq]
        refine ih I10 (k + 1) (m + 1) (by omega) (by omega) (by omega) (by rw [x10, yU_eq]; omega) (fun q j a b c e g => by rw [n10 q j (by omega) (by omega)]; exact fX q j a b c e g) (by rw [n10 102 42 (by omega) (by omega)]; exact X42) (fun j hj => ?_) (fun j hj => ?_) (fun a b ab bm => ?_)
        · by_cases e : j = m
          · subst e
            rw [w117, show ((k : Int)).toNat = k by omega]
            exact ⟨by omega, by omega, cl, cout⟩
          · rw [n10 117 j (by omega) (by omega)]; exact hwho j (by omega)
        · by_cases e : j = m
          · subst e; rw [w117]; omega
          · rw [n10 117 j (by omega) (by omega)]; have := hlt j (by omega); omega
        · rw [n10 117 a (by omega) (by omega)]
          by_cases e : b = m
          · subst e; rw [w117]; exact hlt a (by omega)
          · rw [n10 117 b (by omega) (by omega)]; exact hin a b ab (by omega)
  refine B_251_0 hT hR ?_
  intro I1 e1 I2 e2
  have n2 : ∀ q j, (q ≠ 102 ∨ (j ≠ 0 ∧ j ≠ 40)) → I2 q j = I q j := fun q j h => by rw [e2, yU_ne _ _ (by omega), e1, yU_ne _ _ (by omega)]
  exact l12 9 I2 0 0 rfl (by omega) (by omega) (by rw [e2, yU_eq]; rfl) (fun q j _ _ _ _ g => n2 q j (by omega)) (n2 102 42 (by omega)) (fun j hj => absurd hj (Nat.not_lt_zero _)) (fun j hj => absurd hj (Nat.not_lt_zero _)) (fun a b _ hb => absurd hb (Nat.not_lt_zero _))
end Sm
