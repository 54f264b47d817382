/-! THE REFERENCE's CONTRACTS: the knot, 2: what is come to from a knot. -/
/-- rows of the search: h is looked at, its STEPS below v are done -/
def mBf (J X : Nat → Nat → Int) (W A m h v : Nat) : Prop := ∃ q : Nat, X 102 41 = (q : Int) ∧ h ≤ q ∧ 1 ≤ q ∧ mCt (fun j => X 115 j) 50653 = q ∧
  (∀ i, i < q → ∃ s p mv : Nat, X 116 i = (s : Int) ∧ mVs A m s ∧ X 115 s = 1 + 12 * (p : Int) + (mv : Int) ∧ p ≤ h ∧ mv < 12 ∧ (i = 0 → p = 0) ∧ (0 < i → p < i ∧ mv < 4 * m ∧ ∃ t : Nat, X 116 p = (t : Int) ∧ mSu J W m t s mv)) ∧
  (∀ s, s < 50653 → X 115 s ≠ 0 → ∃ i, i < q ∧ X 116 i = (s : Int)) ∧
  (∀ i i' : Nat, ∀ s s' : Nat, i ≤ i' → i' < q → X 116 i = (s : Int) → X 116 i' = (s' : Int) → (X 115 s - 1) / 12 ≤ (X 115 s' - 1) / 12) ∧
  (∀ j, j < h → ∀ s s' mv : Nat, X 116 j = (s : Int) → mSu J W m s s' mv → X 115 s' ≠ 0 ∧ (X 115 s' - 1) / 12 ≤ (j : Int)) ∧
  (∀ s s' mv : Nat, mv < v → X 116 h = (s : Int) → mSu J W m s s' mv → X 115 s' ≠ 0)
theorem mBf_v {J X : Nat → Nat → Int} {W A m h v v' : Nat} (b : mBf J X W A m h v) (f : ∀ s s' mv : Nat, v ≤ mv → mv < v' → X 116 h = (s : Int) → mSu J W m s s' mv → X 115 s' ≠ 0) : mBf J X W A m h v' := by
  obtain ⟨q, a1, a2, a3, a4, a5, a6, a7, a8, a9⟩ := b
  refine ⟨q, a1, a2, a3, a4, a5, a6, a7, a8, fun s s' mv hm hs hu => ?_⟩
  by_cases c : mv < v
  · exact a9 s s' mv c hs hu
  · exact f s s' mv (by omega) hm hs hu
theorem mSu_mv {J : Nat → Nat → Int} {W m s s' mv : Nat} (h : mSu J W m s s' mv) : mv < 4 * m := by
  obtain ⟨k, dir, a, b, c, _⟩ := h; omega
theorem mSu_lt {J : Nat → Nat → Int} {W A m s s' mv : Nat} (hm : m ≤ 3) (hp : ∀ c, mPc W (mStep J c mv) < 37) (hv : mVs A m s) (h : mSu J W m s s' mv) : True := trivial
/-- on to the next knot -/
theorem mBf_next {J X : Nat → Nat → Int} {W A m h : Nat} (b : mBf J X W A m h (4 * m)) (hq : (h : Int) < X 102 41) (hs5 : ∀ s s' mv : Nat, X 116 h = (s : Int) → mSu J W m s s' mv → s' < 50653) : mBf J X W A m (h + 1) 0 := by
  obtain ⟨q, a1, a2, a3, a4, a5, a6, a7, a8, a9⟩ := b
  refine ⟨q, a1, by omega, a3, a4, fun i hi => ?_, a6, a7, fun j hj s s' mv hs hu => ?_, fun s s' mv hmv => absurd hmv (Nat.not_lt_zero _)⟩
  · obtain ⟨s, p, mv, b1, b2, b3, b4, b5⟩ := a5 i hi
    exact ⟨s, p, mv, b1, b2, b3, by omega, b5⟩
  · by_cases e : j = h
    · subst e
      have g := a9 s s' mv (mSu_mv hu) hs hu
      refine ⟨g, ?_⟩
      obtain ⟨i, hi, hqi⟩ := a6 s' (hs5 s s' mv hs hu) g
      obtain ⟨s2, p, mv2, b1, b2, b3, b4, b5, -⟩ := a5 i hi
      have : s2 = s' := by omega
      subst this
      omega
    · exact a8 j (by omega) s s' mv hs hu
theorem mStep_cg {X J : Nat → Nat → Int} (e : ∀ j, X 104 j = J 104 j) (c dir : Int) : mStep X c dir = mStep J c dir := by
  unfold mStep
  simp only [e]
theorem mCe_cell {W H p : Nat} (hW : W ≤ 10) (hp : p < W * H) (h36 : p ≠ 36) : mCell (W : Int) (H : Int) (mCe W p) := by
  have hW0 : 0 < W := by
    rcases Nat.eq_zero_or_pos W with e | e
    · rw [e, Nat.zero_mul] at hp; omega
    · exact e
  have h1 : p / W < H := Nat.div_lt_of_lt_mul hp
  have h2 : p % W < W := Nat.mod_lt _ hW0
  unfold mCe mCell
  rw [if_neg h36]
  generalize p / W = a at *
  generalize p % W = b at *
  omega
theorem mPc_lt {W H : Nat} {c : Int} (hc : mCell (W : Int) (H : Int) c) (hA : W * H ≤ 36) : mPc W c < W * H ∧ mPc W c < 36 := by
  unfold mCell at hc
  obtain ⟨q, rfl⟩ : ∃ q : Nat, c = (q : Int) := ⟨c.toNat, by omega⟩
  unfold mPc
  rw [if_pos (by omega), show ((q : Int)).toNat = q by omega]
  have h1 : q / 10 < H := by omega
  have h2 : q % 10 < W := by omega
  have h3 : (q / 10 + 1) * W ≤ H * W := Nat.mul_le_mul h1 (Nat.le_refl _)
  rw [Nat.add_mul, Nat.one_mul, Nat.mul_comm H W] at h3
  omega
section Sm
variable {l : Launch} {D : va_G} {cy : Nat → ClassId} {z d bc bs N : Nat} {T : Nat → Nat × Nat} {R : Nat → Nat → Option Nat} {I : Nat → Nat → Int} {K : yKo}
/-- what the search may change -/
def mBw (X Y : Nat → Nat → Int) : Prop := ∀ q j, q ≠ 115 → q ≠ 116 → (q ≠ 102 ∨ j ≠ 41) → Y q j = X q j
theorem r_reaches (hT : yLT T) (hR : yLR R) {J : Nat → Nat → Int} {W A m h v s s' mv : Nat} (b : mBf J I W A m h v) (hh : (h : Int) < I 102 41) (hs : I 116 h = (s : Int)) (hm12 : m ≤ 3) (hv' : mVs A m s') (hu : mSu J W m s s' mv)
    (hk : ∀ I', mBf J I' W A m h v → mBw I I' → I 102 41 ≤ I' 102 41 → I' 116 h = (s : Int) → I' 115 s' ≠ 0 → K none (N, T, R, I')) : yW l zSS D cy zFk z d 228 bc bs K 0 0 0 [(0, yr (some 102)), (1, yi (s' : Int)), (2, yi (h : Int)), (3, yi (mv : Int))] [] (N, T, R, I) := by
  have b0 := b
  obtain ⟨q, a1, a2, a3, a4, a5, a6, a7, a8, a9⟩ := b
  have h5 := hv'.1
  have hmv := mSu_mv hu
  have hq5 : q ≤ 50653 := by rw [← a4]; exact mCt_le _ _
  refine B_228_0 hT hR ⟨by omega, by omega, fun c0 => ?_, fun c0 => hk I b0 (fun _ _ _ _ _ => rfl) (Int.le_refl _) hs ?_⟩
  · rw [show ((s' : Int)).toNat = s' by omega] at c0
    have hlt : q < 50653 := by rw [← a4]; exact mCt_lt (g := fun j => I 115 j) c0 50653 h5
    rw [ymul_eq (x := 12) (by omega) (by omega), yadd_eq (x := 1) (by omega) (by omega), yadd_eq (x := 1 + 12 * (h : Int)) (by omega) (by omega), ynar1_eq (by omega) (by omega), show ((s' : Int)).toNat = s' by omega]
    refine ⟨by omega, by omega, ?_⟩
    intro I6 e6
    have v6 : I6 102 41 = (q : Int) := by rw [e6, yU_ne _ _ (by omega)]; exact a1
    rw [v6, show ((q : Int)).toNat = q by omega, ynar1_eq (by omega) (by omega)]
    refine ⟨by omega, by omega, ?_⟩
    intro I9 e9 I10 e10
    have v9 : I9 102 41 = (q : Int) := by rw [e9, yU_ne _ _ (by omega)]; exact v6
    rw [v9, yadd_eq (by omega) (by omega)] at e10
    have w41 : I10 102 41 = (q : Int) + 1 := by rw [e10, yU_eq]
    have wq : I10 116 q = (s' : Int) := by rw [e10, yU_ne _ _ (by omega), e9, yU_eq]
    have wn : ∀ j, j ≠ q → I10 116 j = I 116 j := fun j hj => by rw [e10, yU_ne _ _ (by omega), e9, yU_ne _ _ (by omega), e6, yU_ne _ _ (by omega)]
    have us : I10 115 s' = 1 + 12 * (h : Int) + (mv : Int) := by rw [e10, yU_ne _ _ (by omega), e9, yU_ne _ _ (by omega), e6, yU_eq]
    have un : ∀ j, j ≠ s' → I10 115 j = I 115 j := fun j hj => by rw [e10, yU_ne _ _ (by omega), e9, yU_ne _ _ (by omega), e6, yU_ne _ _ (by omega)]
    have nz : ∀ j, I 115 j ≠ 0 → I10 115 j = I 115 j := fun j hj => un j (fun e => by subst e; exact hj c0)
    refine hk I10 ⟨q + 1, by omega, by omega, by omega, ?_, fun i hi => ?_, fun s2 h2 h3 => ?_, fun i i' s1 s2 h1 h2 h3 h4 => ?_, fun j hj s1 s2 mv2 h1 h2 => ?_, fun s1 s2 mv2 h1 h2 h3 => ?_⟩ (fun k j x1 x2 x3 => by rw [e10, yU_ne _ _ (by omega), e9, yU_ne _ _ (by omega), e6, yU_ne _ _ (by omega)]) (by omega) (by rw [wn h (by omega)]; exact hs) (by omega)
    · rw [mCt_up (g := fun j => I 115 j) (c := s') c0 (by show I10 115 s' ≠ 0; omega) (fun j hj => un j hj) 50653, a4, if_pos h5]
    · by_cases e : i = q
      · subst e
        refine ⟨s', h, mv, wq, hv', us, Nat.le_refl _, by omega, fun e0 => by omega, fun _ => ⟨by omega, hmv, s, by rw [wn h (by omega)]; exact hs, hu⟩⟩
      · obtain ⟨s1, p, mv1, g1, g2, g3, g4, g5, g6, g7⟩ := a5 i (by omega)
        refine ⟨s1, p, mv1, by rw [wn i e]; exact g1, g2, by rw [nz s1 (by omega)]; exact g3, g4, g5, g6, fun h0 => ?_⟩
        obtain ⟨k1, k2, t, k3, k4⟩ := g7 h0
        exact ⟨k1, k2, t, by rw [wn p (by omega)]; exact k3, k4⟩
    · by_cases e : s2 = s'
      · subst e; exact ⟨q, by omega, wq⟩
      · rw [un s2 e] at h3
        obtain ⟨i, hi, hqi⟩ := a6 s2 h2 h3
        exact ⟨i, by omega, by rw [wn i (by omega)]; exact hqi⟩
    · by_cases e : i' = q
      · subst e
        have es : s2 = s' := by rw [wq] at h4; omega
        subst es
        by_cases e2 : i = i'
        · subst e2
          have : s1 = s2 := by rw [wq] at h3; omega
          subst this; exact Int.le_refl _
        · rw [wn i e2] at h3
          obtain ⟨s3, p, mv1, g1, g2, g3, g4, g5, -⟩ := a5 i (by omega)
          have : s3 = s1 := by omega
          subst this
          rw [nz s3 (by omega), us, g3]; omega
      · rw [wn i (by omega)] at h3
        rw [wn i' e] at h4
        obtain ⟨s3, p, mv1, g1, g2, g3, -⟩ := a5 i (by omega)
        obtain ⟨s4, p', mv2, k1, k2, k3, -⟩ := a5 i' (by omega)
        have x1 : s3 = s1 := by omega
        have x2 : s4 = s2 := by omega
        subst x1; subst x2
        rw [nz s3 (by omega), nz s4 (by omega)]
        exact a7 i i' s3 s4 h1 (by omega) h3 h4
    · rw [wn j (by omega)] at h1
      have g := a8 j hj s1 s2 mv2 h1 h2
      rw [nz s2 g.1]; exact g
    · rw [wn h (by omega)] at h2
      have g := a9 s1 s2 mv2 h1 h2 h3
      rw [nz s2 g]; exact g
  · rw [show ((s' : Int)).toNat = s' by omega] at c0; omega
end Sm
