/-! THE REFERENCE reads a LINE, to the letter -/
def mFl2 (I I' : Nat → Nat → Int) : Prop := ∀ a b, ¬ ((a = 102 ∧ (b = 4 ∨ (11 ≤ b ∧ b ≤ 18) ∨ (20 ≤ b ∧ b ≤ 23))) ∨ a = 105 ∨ (a = 107 ∧ 8 ≤ b)) → I' a b = I a b
theorem mFl2_of {I I' : Nat → Nat → Int} (h : mFt I I') : mFl2 I I' := fun a b c => h a b (by omega)
theorem mFl2_tr {I J L : Nat → Nat → Int} (h : mFl2 I J) (g : mFl2 J L) : mFl2 I L := fun a b c => (g a b c).trans (h a b c)
theorem mLr_fr {I I' : Nat → Nat → Int} {S : Ld} (L : mLr I S) (f : mFt I I') : mLr I' S := mLr_cg L (fun a b h => f a b (by omega))
theorem mLz_cg {I I' : Nat → Nat → Int} {S S' : Ld} (h : mLz I S) (e1 : I' 102 22 = I 102 22) (e2 : I' 102 23 = I 102 23) (w : S'.w = S.w) (l : S'.laws = S.laws) : mLz I' S' := by
  unfold mLz
  rw [e1, e2, w, l]
  exact h
/-- what a LINE's method owes -/
def mLo (T : Nat → Nat × Nat) (R : Nat → Nat → Option Nat) (N : Nat) (K : yKo) (I : Nat → Nat → Int) (t : Nat → Int) (n lim : Nat) (k : Rs (Ld × Nat)) : Prop :=
  (∀ f I', k = .inl f → mFl2 I I' → mFl I' f → K (some (yi 0)) (N, T, R, I')) ∧
  (∀ S' p' I', k = .inr (S', p') → mFl2 I I' → mRd I' t n lim p' → mLr I' S' → mLz I' S' → K (some (yi 1)) (N, T, R, I'))
/-- what a CHAIR's LINE may change before it is told -/
def mCf (c : Nat) (I I' : Nat → Nat → Int) : Prop := ∀ x y, ¬ (x = 102 ∧ (y = 4 ∨ (11 ≤ y ∧ y ≤ 18))) → ¬ (x = 105 ∧ (y = 310 + c ∨ y = 318 + c ∨ y = 326 + c ∨ y = 334 + c)) → ¬ (x = 107 ∧ y = 8 + c) → I' x y = I x y
theorem mCf_fr {c : Nat} {I J L : Nat → Nat → Int} (h : mCf c I J) (f : mFt J L) : mCf c I L := fun x y a b e => (f x y a).trans (h x y a b e)
theorem mCf_up {c k : Nat} {v : Int} {I J L : Nat → Nat → Int} (h : mCf c I J) (e : L = yU J 105 k v) (hk : k = 310 + c ∨ k = 318 + c ∨ k = 326 + c ∨ k = 334 + c) : mCf c I L := fun x y a b g => by
  rw [e, yU_ne _ _ (by omega)]
  exact h x y a b g
theorem mCf_un {c : Nat} {v : Int} {I J L : Nat → Nat → Int} (h : mCf c I J) (e : L = yU J 107 (8 + c) v) : mCf c I L := fun x y a b g => by
  rw [e, yU_ne _ _ (by omega)]
  exact h x y a b g
theorem mCf_l2 {c : Nat} {I J : Nat → Nat → Int} (h : mCf c I J) : mFl2 I J := fun x y a => h x y (by omega) (by omega) (by omega)
theorem mRd_up {I J : Nat → Nat → Int} {t : Nat → Int} {n lim p a b : Nat} {v : Int} (h : mRd I t n lim p) (e : J = yU I a b v) (hk : 105 ≤ a) : mRd J t n lim p := mRd_cg h (fun q hq => by rw [e, yU_ne _ _ (by omega)])
theorem m3_up {I J : Nat → Nat → Int} {t : Nat → Int} {a b : Nat} {v : Int} (h : I 103 = t) (e : J = yU I a b v) (hk : a ≠ 103) : J 103 = t := by
  rw [← h]
  exact funext fun j => by rw [e, yU_ne _ _ (by omega)]
theorem mLr_cf {I J : Nat → Nat → Int} {S : Ld} (L : mLr I S) (c8 : S.ch < 8) (h : mCf S.ch I J) : mLr J S := by
  obtain ⟨A, B, C, D, E, F, G, H, Z⟩ := L
  refine ⟨?_, fun c hc => ?_, fun c hc => ?_, ?_, ?_, fun i hi => ?_, fun i hi => ?_, ?_, ?_⟩
  · rw [h 105 0 (by omega) (by omega) (by omega), h 105 1 (by omega) (by omega) (by omega)]; exact A
  · rw [h 105 (10 + c) (by omega) (by omega) (by omega), h 105 (110 + c) (by omega) (by omega) (by omega), h 105 (210 + c) (by omega) (by omega) (by omega)]; exact B c hc
  · rw [h 105 (358 + c) (by omega) (by omega) (by omega)]; exact C c hc
  · rw [h 105 3 (by omega) (by omega) (by omega), h 105 4 (by omega) (by omega) (by omega), h 105 5 (by omega) (by omega) (by omega), h 102 20 (by omega) (by omega) (by omega)]; exact D
  · rw [h 105 2 (by omega) (by omega) (by omega)]; exact E
  · rw [h 107 (8 + i) (by omega) (by omega) (by omega), h 105 (326 + i) (by omega) (by omega) (by omega), h 105 (334 + i) (by omega) (by omega) (by omega), h 105 (310 + i) (by omega) (by omega) (by omega), h 105 (318 + i) (by omega) (by omega) (by omega)]; exact F i hi
  · rw [h 105 (350 + i) (by omega) (by omega) (by omega), h 105 (342 + i) (by omega) (by omega) (by omega), h 102 21 (by omega) (by omega) (by omega)]; exact G i hi
  · rw [h 102 21 (by omega) (by omega) (by omega)]; exact H
  · rw [h 105 6 (by omega) (by omega) (by omega)]
    refine ⟨Z.1, Z.2.1, fun i hi => ?_, Z.2.2.2⟩
    have := Z.2.1
    rw [h 105 (7 + i) (by omega) (by omega) (by omega)]
    exact Z.2.2.1 i hi
section Xv
variable {l : Launch} {D : va_G} {cy : Nat → ClassId} {z d bc bs N : Nat} {T : Nat → Nat × Nat} {R : Nat → Nat → Option Nat} {I : Nat → Nat → Int} {K : yKo} {t : Nat → Int} {n lim p : Nat} {S : Ld}
/-- find, among the NAMES that are being read -/
theorem x_180 (hT : yLT T) (hR : yLR R) (h : mRd I t n lim p) (w : (tk t n lim p).1 = 1) (L : mLr I S) (hk : K (some (yi (kFind S (tk t n lim p).2.2.1))) (N, T, R, I)) :
    yW l zSS D cy zFk z d 180 bc bs K 0 0 0 [(0, yr (some 102)), (1, yi 8), (2, yi (S.ch : Int))] [] (N, T, R, I) := by
  obtain ⟨_, _, _, _, ⟨_, c8⟩, F, _⟩ := L
  obtain ⟨-, -, -, -, g17, -⟩ := mTk_tk h.2.2
  obtain ⟨e17, ww⟩ := g17 w
  have r2 := isW_rng ww
  have loop : ∀ (m c : Nat), c + m = S.ch → (∀ j, j < c → S.nm j ≠ (tk t n lim p).2.2.1) → yW l zSS D cy zFk z d 180 bc bs K 0 0 2 [(0, yr (some 102)), (1, yi 8), (2, yi (S.ch : Int)), (3, yi (c : Int))] [] (N, T, R, I) := by
    intro m
    induction m with
    | zero =>
      intro c hm no
      rw [kFind_none (fun j hj => no j (by omega))] at hk
      exact B_180_2 hT hR ⟨fun _ => hk, fun c1 => absurd (by omega) c1⟩
    | succ m ih =>
      intro c hm no
      obtain ⟨⟨gn, gw⟩, _⟩ := F c (by omega)
      have r1 := isW_rng gw
      have cmp := ylcmp_eq (x := S.nm c) (y := (tk t n lim p).2.2.1) ⟨by omega, by omega⟩ ⟨by omega, by omega⟩
      refine B_180_2 hT hR ⟨fun c1 => absurd c1 (by omega), fun _ => ?_⟩
      rw [yadd_eq (x := 8) (by omega) (by omega), show ((8 : Int) + (c : Int)).toNat = 8 + c by omega, gn, e17]
      refine ⟨by omega, by omega, fun c2 => ?_, fun c2 => ?_⟩
      · have := ih (c + 1) (by omega) (fun j hj => by
          by_cases e : j = c
          · subst e; exact fun q => c2 (cmp.mpr q)
          · exact no j (by omega))
        rw [yadd_eq (by omega) (by omega)]
        exact this
      · have e : S.nm c = (tk t n lim p).2.2.1 := cmp.mp (by omega)
        rw [kFind_some (by omega) e no] at hk
        exact hk
  exact B_180_0 hT hR (loop S.ch 0 (by omega) (fun j hj => absurd hj (Nat.not_lt_zero _)))
/-- looksAtCell -/
theorem x_212 (hT : yLT T) (hR : yLR R) (h : mRd I t n lim p) (hn : n ≤ 940) (hb : ∀ j, j < n → -128 ≤ t j ∧ t j < 128) (ht : I 103 = t) (L : mLr I S)
    (hf : ∀ f I', kCell (tk t n lim) S p = .inl f → mFt I I' → mFl I' f → K (some (yi 0)) (N, T, R, I'))
    (ho : ∀ (c : Nat) p1 I', kCell (tk t n lim) S p = .inr ((c : Int), p1) → mFt I I' → mRd I' t n lim p1 → I' 102 18 = (c : Int) → c < 100 → mCell S.w S.h (c : Int) → K (some (yi 1)) (N, T, R, I')) :
    yW l zSS D cy zFk z (d + 3) 212 bc bs K 0 0 0 [(0, yr (some 102))] [] (N, T, R, I) := by
  obtain ⟨⟨e0, w0, w1, e1, h0, h1⟩, -⟩ := id L
  refine B_212_0 hT hR ?_
  rw [e0, ysub_eq (by omega) (by omega)]
  refine x_245 hT hR h hn hb ht (fun f I' e fr fl => ⟨_, _, rfl, rfl, fun q => absurd rfl q, fun _ => hf f I' (by unfold kCell; rw [e]) fr fl⟩) (fun x p1 I1 e fr r g18 v0 v1 v2 v3 => ⟨_, _, rfl, rfl, fun _ => ?_, fun q => absurd (by decide : (1 : Int) ≠ 0) q⟩)
  have e1' : I1 105 1 = S.h := by rw [fr 105 1 (by omega)]; exact e1
  obtain ⟨-, g11, -, -, -, g2, -, -⟩ := mTk_tk r.2.2
  refine ⟨fun c => ?_, fun c => ?_⟩
  · have k2 : (tk t n lim p1).1 = 2 := by rw [g11] at c; omega
    obtain ⟨e14, y0, y1⟩ := g2 k2
    rw [e1', e14, g18]
    refine ⟨fun c2 I6 e6 => ?_, fun c2 => ?_⟩
    · have kn : kNum (tk t n lim) 0 (S.h - 1) p1 = .inr ((tk t n lim p1).2.2.1, (tk t n lim p1).2.2.2) := by unfold kNum; rw [if_pos k2, if_pos ⟨by omega, by omega⟩]
      have em : 10 * (tk t n lim p1).2.2.1 + x = (((10 * (tk t n lim p1).2.2.1 + x).toNat : Nat) : Int) := by omega
      refine ho (10 * (tk t n lim p1).2.2.1 + x).toNat p1 I6 (by unfold kCell; rw [e]; dsimp only; rw [kn]; dsimp only; rw [← em]) (fun a b g => by rw [e6, yU_ne _ _ (by omega)]; exact fr a b g) (mRd_cg r (fun b hb => by rw [e6, yU_ne _ _ (by omega)])) ?_ (by omega) (by unfold mCell; omega)
      rw [e6, yU_eq, ymul_eq (by omega) (by omega), yadd_eq (by omega) (by omega)]
      exact em
    · have kn : kNum (tk t n lim) 0 (S.h - 1) p1 = .inl (2, (tk t n lim p1).2.1) := by unfold kNum; rw [if_pos k2, if_neg (by omega)]
      exact x_159 hT hR r (fun I' fr2 fl => ⟨_, _, rfl, rfl, .inl rfl, hf _ I' (by unfold kCell; rw [e]; dsimp only; rw [kn]) (mFt_tr fr fr2) fl⟩)
  · have k2 : ¬ (tk t n lim p1).1 = 2 := fun q => c (by rw [g11, q]; rfl)
    have kn : kNum (tk t n lim) 0 (S.h - 1) p1 = .inl (1, (tk t n lim p1).2.1) := by unfold kNum; rw [if_neg k2]
    exact x_159 hT hR r (fun I' fr2 fl => ⟨_, _, rfl, rfl, .inl rfl, hf _ I' (by unfold kCell; rw [e]; dsimp only; rw [kn]) (mFt_tr fr fr2) fl⟩)
/-- readOn -/
theorem x_230 (hT : yLT T) (hR : yLR R) (h : mRd I t n lim p) (hn : n ≤ 940) (hb : ∀ j, j < n → -128 ≤ t j ∧ t j < 128) (ht : I 103 = t) (L : mLr I S) (W : mLz I S) {s b most : Nat} (hs : (s = 1 ∧ b = 10 ∧ most = 40) ∨ (s = 2 ∧ b = 110 ∧ most = 12) ∨ (s = 3 ∧ b = 210 ∧ most = 12))
    (hk : mLo T R N K I t n lim (kMark (tk t n lim) S s most p)) :
    yW l zSS D cy zFk z (d + 4) 230 bc bs K 0 0 0 [(0, yr (some 102)), (1, yi (b : Int)), (2, yi ((2 + s : Nat) : Int)), (3, yi (most : Int))] [] (N, T, R, I) := by
  obtain ⟨hf, ho⟩ := hk
  have tl : I 105 (2 + s) = (S.told s : Int) ∧ S.told s ≤ most := by
    obtain ⟨d1, d2, d3, d4, d5, d6, _⟩ := L.2.2.2.1
    rcases hs with ⟨rfl, _, rfl⟩ | ⟨rfl, _, rfl⟩ | ⟨rfl, _, rfl⟩
    · exact ⟨d1, d2⟩
    · exact ⟨d3, d4⟩
    · exact ⟨d5, d6⟩
  have mk : ∀ (X : Nat → Nat → Int), mLr X S → ∀ a, a < 100 → X 105 (b + a) = (if S.mk s a then 1 else 0) := fun X LX a ha => by
    obtain ⟨b1, b2, b3⟩ := LX.2.1 a ha
    rcases hs with ⟨rfl, rfl, _⟩ | ⟨rfl, rfl, _⟩ | ⟨rfl, rfl, _⟩
    · exact b1
    · exact b2
    · exact b3
  have sn : (((2 + s : Nat) : Int)).toNat = 2 + s := by omega
  refine B_230_0 hT hR ⟨by omega, by omega, fun c => ?_, fun c => ?_⟩
  · rw [sn, tl.1] at c
    have lt : ¬ most ≤ S.told s := by omega
    refine x_go hT hR h hn hb ht (fun I1 f1 _ r1 => ⟨_, rfl, rfl, ?_⟩)
    have t1 := mFt_t f1 ht
    have L1 := mLr_fr L f1
    refine x_212 hT hR r1 hn hb t1 L1 (fun f I2 e f2 fl => ⟨_, _, rfl, rfl, fun q => absurd rfl q, fun _ => hf f I2 (by unfold kMark; rw [if_neg lt, e]) (mFl2_of (mFt_tr f1 f2)) fl⟩) (fun a p1 I2 e f2 r2 g18 a1 ac => ⟨_, _, rfl, rfl, fun _ => ?_, fun q => absurd (by decide : (1 : Int) ≠ 0) q⟩)
    have t2 := mFt_t f2 t1
    have L2 := mLr_fr L1 f2
    have m2 := mk I2 L2 a a1
    rw [g18, yadd_eq (by omega) (by omega), show ((b : Int) + (a : Int)).toNat = b + a by omega, m2]
    refine ⟨by omega, by omega, fun c2 => ?_, fun c2 => ?_⟩
    · have g : S.mk s a = false := by
        cases e : S.mk s a with
        | false => rfl
        | true => rw [e, if_pos rfl] at c2; exact absurd rfl c2
      refine ⟨by omega, by omega, fun I3 e3 => ⟨by omega, by omega, by omega, by omega, fun I4 e4 => ?_⟩⟩
      rw [sn] at e4
      have fr : ∀ x y, ¬ (x = 105 ∧ (y = b + a ∨ y = 2 + s)) → I4 x y = I2 x y := fun x y q => by rw [e4, yU_ne _ _ (by omega), e3, yU_ne _ _ (by omega)]
      have r4 := mRd_up (mRd_up r2 e3 (by omega)) e4 (by omega)
      have t4 := m3_up (m3_up t2 e3 (by omega)) e4 (by omega)
      have v3 : I4 105 (b + a) = 1 := by rw [e4, yU_ne _ _ (by omega), e3, yU_eq]; exact ynar1_eq (by omega) (by omega)
      have o2 : I3 105 (2 + s) = (S.told s : Int) := by
        rw [e3, yU_ne _ _ (by omega), f2 105 (2 + s) (by omega), f1 105 (2 + s) (by omega)]; exact tl.1
      have v4 : I4 105 (2 + s) = ((S.told s + 1 : Nat) : Int) := by
        rw [e4, yU_eq, o2, yadd_eq (by omega) (by omega), ynar1_eq (by omega) (by omega)]
        omega
      have L4 : mLr I4 (uMark S s a) := mLr_mark L2 (by omega) a1 (by
        rcases hs with ⟨rfl, _, rfl⟩ | ⟨rfl, _, rfl⟩ | ⟨rfl, _, rfl⟩
        · show S.told 1 < 40; omega
        · show S.told 2 < 12; omega
        · show S.told 3 < 12; omega) (b := b) (by
        rcases hs with ⟨rfl, rfl, _⟩ | ⟨rfl, rfl, _⟩ | ⟨rfl, rfl, _⟩ <;> rfl) (fun x y _ q => fr x y q) v3 v4
      refine x_go hT hR r4 hn hb t4 (fun I5 f5 _ r5 => ⟨_, rfl, rfl, ?_⟩)
      have w22 : I5 102 22 = I 102 22 ∧ I5 102 23 = I 102 23 := by
        rw [f5 102 22 (by omega), f5 102 23 (by omega), fr 102 22 (by omega), fr 102 23 (by omega), f2 102 22 (by omega), f2 102 23 (by omega), f1 102 22 (by omega), f1 102 23 (by omega)]
        exact ⟨rfl, rfl⟩
      exact ho (uMark S s a) _ I5 (by unfold kMark; rw [if_neg lt, e]; dsimp only; rw [show ((a : Int)).toNat = a by omega, if_neg (by rw [g]; decide)]) (fun x y q => (f5 x y (by omega)).trans ((fr x y (by omega)).trans (mFt_tr f1 f2 x y (by omega)))) r5 (mLr_fr L4 f5) (mLz_cg W w22.1 w22.2 rfl rfl)
    · have g : S.mk s a = true := by
        cases e : S.mk s a with
        | true => rfl
        | false => rw [e, if_neg (by decide)] at c2; exact absurd (by decide) c2
      exact x_159 hT hR r2 (fun I3 f3 fl => ⟨_, _, rfl, rfl, .inl rfl, hf _ I3 (by unfold kMark; rw [if_neg lt, e]; dsimp only; rw [show ((a : Int)).toNat = a by omega, if_pos g]) (mFl2_of (mFt_tr f1 (mFt_tr f2 f3))) fl⟩)
  · rw [sn, tl.1] at c
    exact x_159 hT hR h (fun I' fr fl => ⟨_, _, rfl, rfl, .inl rfl, hf _ I' (by unfold kMark; rw [if_pos (by omega)]) (mFl2_of fr) fl⟩)
set_option maxHeartbeats 1000000 in
/-- readChair -/
theorem x_229 (hT : yLT T) (hR : yLR R) (h : mRd I t n lim p) (hn : n ≤ 940) (hb : ∀ j, j < n → -128 ≤ t j ∧ t j < 128) (ht : I 103 = t) (hw : ∀ i, i < 24 → I 108 i = rCd i) (L : mLr I S) (W : mLz I S)
    (hk : mLo T R N K I t n lim (kChair (tk t n lim) S p)) :
    yW l zSS D cy zFk z (d + 4) 229 bc bs K 0 0 0 [(0, yr (some 102))] [] (N, T, R, I) := by
  obtain ⟨hf, ho⟩ := hk
  have eCh := L.2.2.2.2.1.1
  have c9 := L.2.2.2.2.1.2
  refine B_229_0 hT hR ?_
  rw [eCh]
  refine ⟨fun c => ?_, fun c => x_159 hT hR h (fun I' fr fl => ⟨_, _, rfl, rfl, .inl rfl, hf _ I' (by unfold kChair; rw [if_pos (by omega)]) (mFl2_of fr) fl⟩)⟩
  have c8 : S.ch < 8 := by omega
  have k0 : ¬ 8 ≤ S.ch := by omega
  rw [yadd_eq (x := 8) (y := (S.ch : Int)) (by omega) (by omega), yadd_eq (x := 326) (y := (S.ch : Int)) (by omega) (by omega), yadd_eq (x := 310) (y := (S.ch : Int)) (by omega) (by omega), yadd_eq (x := 318) (y := (S.ch : Int)) (by omega) (by omega), yadd_eq (x := 334) (y := (S.ch : Int)) (by omega) (by omega), show ((8 : Int) + (S.ch : Int)).toNat = 8 + S.ch by omega, show ((326 : Int) + (S.ch : Int)).toNat = 326 + S.ch by omega, show ((310 : Int) + (S.ch : Int)).toNat = 310 + S.ch by omega, show ((318 : Int) + (S.ch : Int)).toNat = 318 + S.ch by omega, show ((334 : Int) + (S.ch : Int)).toNat = 334 + S.ch by omega]
  refine x_go hT hR h hn hb ht (fun I1 f1 _ r1 => ⟨_, rfl, rfl, ?_⟩)
  have t1 := mFt_t f1 ht
  have L1 := mLr_fr L f1
  have F1 : mCf S.ch I I1 := fun x y a _ _ => f1 x y a
  obtain ⟨p1, hp1⟩ : ∃ q, (tk t n lim p).2.2.2 = q := ⟨_, rfl⟩
  rw [hp1] at r1
  refine x_194 hT hR r1 (fun i hi => by rw [f1 108 i (by omega)]; exact hw i hi) (fun r4 h4 => ⟨_, _, rfl, rfl, fun c4 => ?_, fun c4 => ?_⟩)
  · have en : kIsName (tk t n lim) p1 := by
      rcases h4 with ⟨_, a⟩ | ⟨a, _⟩
      · exact a
      · exact absurd a c4
    obtain ⟨-, -, -, -, g17, -⟩ := mTk_tk r1.2.2
    obtain ⟨e17, ww⟩ := g17 en.1
    refine x_180 hT hR r1 en.1 L1 ⟨_, _, rfl, rfl, fun c7 => ?_, fun c7 => ?_⟩
    · have cf : kFind S (tk t n lim p1).2.2.1 = -1 := by
        unfold kFind at c7 ⊢
        cases hq : (List.range S.ch).find? (fun i => decide (S.nm i = (tk t n lim p1).2.2.1)) with
        | none => rfl
        | some q =>
          rw [hq] at c7
          have c7 : ((q : Nat) : Int) < 0 := c7
          omega
      refine ⟨by omega, by omega, fun I2 e2 => ?_⟩
      rw [e17] at e2
      have F2 := mCf_un F1 e2
      have r2 := mRd_up r1 e2 (by omega)
      have t2 := m3_up t1 e2 (by omega)
      have v2 : I2 107 (8 + S.ch) = (tk t n lim p1).2.2.1 := by rw [e2, yU_eq]
      refine x_go hT hR r2 hn hb t2 (fun I3 f3 _ r3 => ⟨_, rfl, rfl, ?_⟩)
      have F3 := mCf_fr F2 f3
      have t3 := mFt_t f3 t2
      have v3 : I3 107 (8 + S.ch) = (tk t n lim p1).2.2.1 := (f3 _ _ (by omega)).trans v2
      obtain ⟨p2, hp2⟩ : ∃ q, (tk t n lim p1).2.2.2 = q := ⟨_, rfl⟩
      rw [hp2] at r3
      have kc : kChair (tk t n lim) S p = kChair2 (tk t n lim) S (tk t n lim p1).2.2.1 p2 := by
        unfold kChair
        rw [if_neg k0, hp1, if_neg (fun q => q en), if_neg (fun q => q cf), hp2]
      have L3 := mLr_cf L c8 F3
      refine x_212 hT hR r3 hn hb t3 L3 (fun f I4 e f4 fl => ⟨_, _, rfl, rfl, fun q => absurd rfl q, fun _ => hf f I4 (by rw [kc]; unfold kChair2 kOpen; rw [e]) (mCf_l2 (mCf_fr F3 f4)) fl⟩) (fun a pa I4 ea f4 r4 g18 a1 ac => ⟨_, _, rfl, rfl, fun _ => ?_, fun q => absurd (by decide : (1 : Int) ≠ 0) q⟩)
      have t4 := mFt_t f4 t3
      have L4 := mLr_fr L3 f4
      have an : ((a : Int)).toNat = a := by omega
      rw [g18, yadd_eq (x := 10) (by omega) (by omega), show ((10 : Int) + (a : Int)).toNat = 10 + a by omega, (L4.2.1 a a1).1]
      refine ⟨by omega, by omega, fun cw => ?_, fun cw => ?_⟩
      · have g : S.mk 1 a = false := by
          cases e : S.mk 1 a with
          | false => rfl
          | true => rw [e, if_pos rfl] at cw; exact absurd rfl cw
        have ko : kOpen (tk t n lim) S p2 = .inr ((a : Int), (tk t n lim pa).2.2.2) := by unfold kOpen; rw [ea]; dsimp only; rw [an, if_neg (by rw [g]; decide)]
        refine ⟨by omega, by omega, fun I5 e5 => ?_⟩
        have F5 := mCf_up (mCf_fr F3 f4) e5 (by omega)
        have r5 := mRd_up r4 e5 (by omega)
        have t5 := m3_up t4 e5 (by omega)
        have w5 : I5 105 (326 + S.ch) = (a : Int) := by rw [e5, yU_eq]; exact ynar1_eq (by omega) (by omega)
        have v5 : I5 107 (8 + S.ch) = (tk t n lim p1).2.2.1 := by rw [e5, yU_ne _ _ (by omega)]; exact (f4 _ _ (by omega)).trans v3
        refine x_go hT hR r5 hn hb t5 (fun I6 f6 _ r6 => ⟨_, rfl, rfl, ?_⟩)
        have F6 := mCf_fr F5 f6
        have t6 := mFt_t f6 t5
        have v6 : I6 107 (8 + S.ch) = (tk t n lim p1).2.2.1 := (f6 _ _ (by omega)).trans v5
        have w6 : I6 105 (326 + S.ch) = (a : Int) := (f6 _ _ (by omega)).trans w5
        obtain ⟨p3, hp3⟩ : ∃ q, (tk t n lim pa).2.2.2 = q := ⟨_, rfl⟩
        rw [hp3] at r6 ko
        have kd : kChair (tk t n lim) S p = kChair3 (tk t n lim) S (tk t n lim p1).2.2.1 (a : Int) p3 := by
          rw [kc]
          unfold kChair2
          rw [ko]
        refine x_245 hT hR r6 hn hb t6 (fun f I7 e f7 fl => ⟨_, _, rfl, rfl, fun q => absurd rfl q, fun _ => hf f I7 (by rw [kd]; unfold kChair3; rw [e]) (mCf_l2 (mCf_fr F6 f7)) fl⟩) (fun r p4 I7 er f7 r7 gr b0 b1 b2 b3 => ⟨_, _, rfl, rfl, fun _ => ⟨by omega, by omega, fun I8 e8 => ?_⟩, fun q => absurd (by decide : (1 : Int) ≠ 0) q⟩)
        rw [gr] at e8
        have F8 := mCf_up (mCf_fr F6 f7) e8 (by omega)
        have r8 := mRd_up r7 e8 (by omega)
        have t8 := m3_up (mFt_t f7 t6) e8 (by omega)
        have v8 : I8 107 (8 + S.ch) = (tk t n lim p1).2.2.1 := by rw [e8, yU_ne _ _ (by omega)]; exact (f7 _ _ (by omega)).trans v6
        have w8 : I8 105 (326 + S.ch) = (a : Int) := by rw [e8, yU_ne _ _ (by omega)]; exact (f7 _ _ (by omega)).trans w6
        have u8 : I8 105 (310 + S.ch) = r := by rw [e8, yU_eq]; exact ynar1_eq (by omega) (by omega)
        refine x_245 hT hR r8 hn hb t8 (fun f I9 e f9 fl => ⟨_, _, rfl, rfl, fun q => absurd rfl q, fun _ => hf f I9 (by rw [kd]; unfold kChair3; rw [er]; dsimp only; rw [e]) (mCf_l2 (mCf_fr F8 f9)) fl⟩) (fun dd p5 I9 ed f9 r9 gd d0 d1 d2 d3 => ⟨_, _, rfl, rfl, fun _ => ⟨by omega, by omega, fun I10 e10 => ?_⟩, fun q => absurd (by decide : (1 : Int) ≠ 0) q⟩)
        rw [gd] at e10
        have F10 := mCf_up (mCf_fr F8 f9) e10 (by omega)
        have r10 := mRd_up r9 e10 (by omega)
        have t10 := m3_up (mFt_t f9 t8) e10 (by omega)
        have v10 : I10 107 (8 + S.ch) = (tk t n lim p1).2.2.1 := by rw [e10, yU_ne _ _ (by omega)]; exact (f9 _ _ (by omega)).trans v8
        have w10 : I10 105 (326 + S.ch) = (a : Int) := by rw [e10, yU_ne _ _ (by omega)]; exact (f9 _ _ (by omega)).trans w8
        have u10 : I10 105 (310 + S.ch) = r := by rw [e10, yU_ne _ _ (by omega)]; exact (f9 _ _ (by omega)).trans u8
        have x10 : I10 105 (318 + S.ch) = dd := by rw [e10, yU_eq]; exact ynar1_eq (by omega) (by omega)
        have L10 := mLr_cf L c8 F10
        refine x_212 hT hR r10 hn hb t10 L10 (fun f I11 e f11 fl => ⟨_, _, rfl, rfl, fun q => absurd rfl q, fun _ => hf f I11 (by rw [kd]; unfold kChair3; rw [er]; dsimp only; rw [ed]; dsimp only; unfold kOpen; rw [e]) (mCf_l2 (mCf_fr F10 f11)) fl⟩) (fun b pb I11 eb f11 r11 gb18 b1' bc' => ⟨_, _, rfl, rfl, fun _ => ?_, fun q => absurd (by decide : (1 : Int) ≠ 0) q⟩)
        have L11 := mLr_fr L10 f11
        have bn : ((b : Int)).toNat = b := by omega
        rw [gb18, yadd_eq (x := 10) (by omega) (by omega), show ((10 : Int) + (b : Int)).toNat = 10 + b by omega, (L11.2.1 b b1').1]
        refine ⟨by omega, by omega, fun cv => ?_, fun cv => ?_⟩
        · have gg : S.mk 1 b = false := by
            cases e : S.mk 1 b with
            | false => rfl
            | true => rw [e, if_pos rfl] at cv; exact absurd rfl cv
          refine ⟨by omega, by omega, fun I12 e12 => ?_⟩
          have F12 := mCf_up (mCf_fr F10 f11) e12 (by omega)
          have r12 := mRd_up r11 e12 (by omega)
          have t12 := m3_up (mFt_t f11 t10) e12 (by omega)
          have y12 : I12 105 (334 + S.ch) = (b : Int) := by rw [e12, yU_eq]; exact ynar1_eq (by omega) (by omega)
          refine x_go hT hR r12 hn hb t12 (fun I13 f13 _ r13 => ⟨_, rfl, rfl, fun I14 e14 => ?_⟩)
          have F13 := mCf_fr F12 f13
          have o13 : I13 105 2 = (S.ch : Int) := by rw [F13 105 2 (by omega) (by omega) (by omega)]; exact eCh
          have v12 : I12 107 (8 + S.ch) = (tk t n lim p1).2.2.1 := by rw [e12, yU_ne _ _ (by omega)]; exact (f11 _ _ (by omega)).trans v10
          have w12 : I12 105 (326 + S.ch) = (a : Int) := by rw [e12, yU_ne _ _ (by omega)]; exact (f11 _ _ (by omega)).trans w10
          have u12 : I12 105 (310 + S.ch) = r := by rw [e12, yU_ne _ _ (by omega)]; exact (f11 _ _ (by omega)).trans u10
          have x12 : I12 105 (318 + S.ch) = dd := by rw [e12, yU_ne _ _ (by omega)]; exact (f11 _ _ (by omega)).trans x10
          have g13 : ∀ x y, ¬ (x = 105 ∧ y = 2) → I14 x y = I13 x y := fun x y q => by rw [e14, yU_ne _ _ q]
          have L14 : mLr I14 (uChair S (tk t n lim p1).2.2.1 (a : Int) r dd (b : Int)) := mLr_chair L c8 ww ac bc' (fun x y q1 q2 q3 => (g13 x y (by omega)).trans (F13 x y (by omega) (by omega) (by omega))) ⟨by rw [e14, yU_eq, o13, yadd_eq (by omega) (by omega), ynar1_eq (by omega) (by omega)]; rfl, by rw [g13 _ _ (by omega)]; exact (f13 _ _ (by omega)).trans v12, by rw [g13 _ _ (by omega)]; exact (f13 _ _ (by omega)).trans w12, by rw [g13 _ _ (by omega)]; exact (f13 _ _ (by omega)).trans y12, by rw [g13 _ _ (by omega)]; exact (f13 _ _ (by omega)).trans u12, by rw [g13 _ _ (by omega)]; exact (f13 _ _ (by omega)).trans x12⟩
          have w22 : I14 102 22 = I 102 22 ∧ I14 102 23 = I 102 23 := by
            rw [g13 102 22 (by omega), g13 102 23 (by omega)]
            exact ⟨F13 102 22 (by omega) (by omega) (by omega), F13 102 23 (by omega) (by omega) (by omega)⟩
          exact ho (uChair S (tk t n lim p1).2.2.1 (a : Int) r dd (b : Int)) _ I14 (by rw [kd]; unfold kChair3; rw [er]; dsimp only; rw [ed]; dsimp only; unfold kOpen; rw [eb]; dsimp only; rw [bn, if_neg (by rw [gg]; decide)]) (fun x y q => (g13 x y (by omega)).trans (F13 x y (by omega) (by omega) (by omega))) (mRd_up r13 e14 (by omega)) L14 (mLz_cg W w22.1 w22.2 rfl rfl)
        · have gg : S.mk 1 b = true := by
            cases e : S.mk 1 b with
            | true => rfl
            | false => rw [e, if_neg (by decide)] at cv; exact absurd (by decide) cv
          exact x_159 hT hR r11 (fun I12 f12 fl => ⟨_, _, rfl, rfl, .inl rfl, hf _ I12 (by rw [kd]; unfold kChair3; rw [er]; dsimp only; rw [ed]; dsimp only; unfold kOpen; rw [eb]; dsimp only; rw [bn, if_pos gg]) (mCf_l2 (mCf_fr (mCf_fr F10 f11) f12)) fl⟩)
      · have g : S.mk 1 a = true := by
          cases e : S.mk 1 a with
          | true => rfl
          | false => rw [e, if_neg (by decide)] at cw; exact absurd (by decide) cw
        exact x_159 hT hR r4 (fun I5 f5 fl => ⟨_, _, rfl, rfl, .inl rfl, hf _ I5 (by rw [kc]; unfold kChair2 kOpen; rw [ea]; dsimp only; rw [an, if_pos g]) (mCf_l2 (mCf_fr (mCf_fr F3 f4) f5)) fl⟩)
    · have cf : kFind S (tk t n lim p1).2.2.1 ≠ -1 := by
        have : ¬ (kFind S (tk t n lim p1).2.2.1 < 0) := c7
        omega
      exact x_159 hT hR r1 (fun I2 f2 fl => ⟨_, _, rfl, rfl, .inl rfl, hf _ I2 (by unfold kChair; rw [if_neg k0, hp1, if_neg (fun q => q en), if_pos cf]) (mFl2_of (mFt_tr f1 f2)) fl⟩)
  · have en : ¬ kIsName (tk t n lim) p1 := by
      rcases h4 with ⟨a, _⟩ | ⟨_, a⟩
      · omega
      · exact a
    exact x_159 hT hR r1 (fun I2 f2 fl => ⟨_, _, rfl, rfl, .inl rfl, hf _ I2 (by unfold kChair; rw [if_neg k0, hp1, if_pos en]) (mFl2_of (mFt_tr f1 f2)) fl⟩)
end Xv
