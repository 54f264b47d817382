/-! THE REFERENCE's CONTRACTS: the knot, 4: how deep the search is; UNTIED. -/
/-- from which knot the i-th was come to -/
def mPr (X : Nat → Nat → Int) (i : Nat) : Nat := ((X 115 (X 116 i).toNat - 1) / 12).toNat
def mDe (X : Nat → Nat → Int) : Nat → Nat → Nat
  | 0, _ => 0
  | n + 1, i => if i = 0 then 0 else mDe X n (mPr X i) + 1
theorem mDe_fuel {X : Nat → Nat → Int} {q : Nat} (hp : ∀ i, 0 < i → i < q → mPr X i < i) : ∀ i n, i ≤ n → i < q → mDe X n i = mDe X i i := by
  intro i
  induction i using Nat.strongRecOn with
  | _ i ih =>
    intro n hn hq
    by_cases e : i = 0
    · subst e
      cases n with
      | zero => rfl
      | succ n => exact if_pos rfl
    · have hpi := hp i (by omega) hq
      obtain ⟨n', rfl⟩ : ∃ n', n = n' + 1 := ⟨n - 1, by omega⟩
      obtain ⟨i', hi'⟩ : ∃ i', i = i' + 1 := ⟨i - 1, by omega⟩
      have g1 : mDe X (n' + 1) i = mDe X n' (mPr X i) + 1 := if_neg e
      have g2 : mDe X i i = mDe X i' (mPr X i) + 1 := by
        have : mDe X (i' + 1) i = mDe X i' (mPr X i) + 1 := if_neg e
        rw [← hi'] at this; exact this
      rw [g1, g2, ih _ hpi n' (by omega) (by omega), ih _ hpi i' (by omega) (by omega)]
theorem mDe_step {X : Nat → Nat → Int} {q i : Nat} (hp : ∀ i, 0 < i → i < q → mPr X i < i) (h0 : 0 < i) (hq : i < q) : mDe X i i = mDe X (mPr X i) (mPr X i) + 1 := by
  have hpi := hp i h0 hq
  obtain ⟨i', hi'⟩ : ∃ i', i = i' + 1 := ⟨i - 1, by omega⟩
  have g2 : mDe X i i = mDe X i' (mPr X i) + 1 := by
    have : mDe X (i' + 1) i = mDe X i' (mPr X i) + 1 := if_neg (by omega)
    rw [← hi'] at this; exact this
  rw [g2, mDe_fuel hp _ i' (by omega) (by omega)]
/-- what knotRow wants of the rows -/
def mKr (X : Nat → Nat → Int) (q : Nat) : Prop := ∀ i, i < q → ∃ s p mv : Nat, X 116 i = (s : Int) ∧ s < 50653 ∧ X 115 s = 1 + 12 * (p : Int) + (mv : Int) ∧ mv < 12 ∧ p < 50653 ∧ (0 < i → p < i)
theorem mKr_pr {X : Nat → Nat → Int} {q : Nat} (h : mKr X q) : ∀ i, 0 < i → i < q → mPr X i < i := by
  intro i h0 hq
  obtain ⟨s, p, mv, a, b, c, e, f, g⟩ := h i hq
  have g := g h0
  unfold mPr
  rw [a, show ((s : Int)).toNat = s by omega, c]
  omega
theorem mBf_kr {J X : Nat → Nat → Int} {W A m h v : Nat} (b : mBf J X W A m h v) : ∃ q : Nat, X 102 41 = (q : Int) ∧ q ≤ 50653 ∧ mKr X q := by
  obtain ⟨q, a1, a2, a3, a4, a5, -⟩ := b
  have hq5 : q ≤ 50653 := by rw [← a4]; exact mCt_le _ _
  refine ⟨q, a1, hq5, fun i hi => ?_⟩
  obtain ⟨s, p, mv, b1, b2, b3, b4, b5, b6, b7⟩ := a5 i hi
  have c5 := b2.1
  refine ⟨s, p, mv, b1, c5, b3, b5, ?_, fun h0 => (b7 h0).1⟩
  rcases Nat.eq_zero_or_pos i with e | e
  · have := b6 e; omega
  · have := (b7 e).1; omega
/-- the search's depth is at most the length of any row of STEPS -/
theorem mBf_depth {J X : Nat → Nat → Int} {W A m i : Nat} (b : mBf J X W A m i 0) (hi : (i : Int) < X 102 41) (hg : X 116 i = 50652) {L s0 : Nat} (h0 : X 116 0 = (s0 : Int)) (hL : mCh J W m L s0 50652) (hs : ∀ s s' mv, mVs A m s → mSu J W m s s' mv → mVs A m s') : mDe X i i ≤ L + 1 := by
  obtain ⟨q, a1, a2, a3, a4, a5, a6, a7, a8, -⟩ := b
  have hp : ∀ j, 0 < j → j < q → mPr X j < j := fun j j0 jq => by
    obtain ⟨s, p, mv, b1, b2, b3, b4, b5, b6, b7⟩ := a5 j jq
    have g := (b7 j0).1
    clear b7
    unfold mPr
    rw [b1, show ((s : Int)).toNat = s by omega, b3]
    omega
  -- a deeper one comes later
  have mono : ∀ j' j, j ≤ j' → j' < q → mDe X j j ≤ mDe X j' j' := by
    intro j'
    induction j' using Nat.strongRecOn with
    | _ j' ih =>
      intro j hj hq
      rcases Nat.eq_zero_or_pos j with e | e
      · subst e; exact Nat.zero_le _
      · rw [mDe_step hp e (by omega), mDe_step hp (show 0 < j' by omega) hq]
        have p1 := hp j e (by omega)
        have p2 := hp j' (by omega) hq
        have p12 : mPr X j ≤ mPr X j' := by
          obtain ⟨s, p, mv, b1, b2, b3, -⟩ := a5 j (by omega)
          obtain ⟨s', p', mv', c1, c2, c3, -⟩ := a5 j' hq
          have g := a7 j j' s s' hj hq b1 c1
          unfold mPr
          rw [b1, c1, show ((s : Int)).toNat = s by omega, show ((s' : Int)).toNat = s' by omega]
          omega
        have := ih (mPr X j') p2 (mPr X j) p12 (by omega)
        omega
  -- along the row
  have key : ∀ (n : Nat) (j s u : Nat), j < q → X 116 j = (s : Int) → mCh J W m n s u → mVs A m s → mDe X j j + n < mDe X i i → ∃ j', j' < q ∧ X 116 j' = (u : Int) ∧ mDe X j' j' ≤ mDe X j j + n := by
    intro n
    induction n with
    | zero =>
      intro j s u hj hsj hc _ _
      have : s = u := hc
      subst this
      exact ⟨j, hj, hsj, by omega⟩
    | succ n ih =>
      intro j s u hj hsj hc hvs hlt
      obtain ⟨s', mv, k1, k2⟩ := hc
      have hji : j < i := by
        apply Classical.byContradiction
        intro hge
        have := mono j i (by omega) hj
        omega
      have hv' := hs s s' mv hvs k1
      obtain ⟨g1, g2⟩ := a8 j hji s s' mv hsj k1
      obtain ⟨j', hj', hq'⟩ := a6 s' hv'.1 g1
      have dj : mDe X j' j' ≤ mDe X j j + 1 := by
        rcases Nat.eq_zero_or_pos j' with e | e
        · subst e; exact Nat.zero_le _
        · rw [mDe_step hp e hj']
          have pj : mPr X j' ≤ j := by
            unfold mPr
            rw [hq', show ((s' : Int)).toNat = s' by omega]
            omega
          have := mono j (mPr X j') pj hj
          omega
      obtain ⟨j2, x1, x2, x3⟩ := ih j' s' u hj' hq' k2 hv' (by omega)
      exact ⟨j2, x1, x2, by omega⟩
  apply Classical.byContradiction
  intro hbig
  have d0 : mDe X 0 0 = 0 := rfl
  have v0 : mVs A m s0 := by
    obtain ⟨s, p, mv, b1, b2, -⟩ := a5 0 (by omega)
    have : s = s0 := by omega
    subst this; exact b2
  obtain ⟨j', x1, x2, x3⟩ := key L 0 s0 50652 (by omega) h0 hL v0 (by omega)
  -- the same knot, so the same depth
  have i0 : 0 < i := by
    rcases Nat.eq_zero_or_pos i with e | e
    · subst e; omega
    · exact e
  have pe : mPr X j' = mPr X i := by unfold mPr; rw [x2, hg]; rfl
  rcases Nat.eq_zero_or_pos j' with e | e
  · subst e
    rw [mDe_step hp i0 (by omega), ← pe] at hbig
    have : mPr X 0 = 0 := by
      obtain ⟨s, p, mv, b1, b2, b3, b4, b5, b6, -⟩ := a5 0 (by omega)
      have := b6 rfl
      unfold mPr
      rw [b1, show ((s : Int)).toNat = s by omega, b3]
      omega
    rw [this, d0] at hbig
    omega
  · rw [mDe_step hp e x1, pe, ← mDe_step hp i0 (by omega)] at x3
    omega
/-- the parents' chain is a row of STEPS -/
theorem mBf_chain {J X : Nat → Nat → Int} {W A m h v : Nat} (b : mBf J X W A m h v) : ∀ (i s s0 : Nat), (i : Int) < X 102 41 → X 116 i = (s : Int) → X 116 0 = (s0 : Int) → ∃ r, mCh J W m r s0 s := by
  obtain ⟨q, a1, a2, a3, a4, a5, -⟩ := b
  intro i
  induction i using Nat.strongRecOn with
  | _ i ih =>
    intro s s0 hi hs h0
    rcases Nat.eq_zero_or_pos i with e | e
    · subst e
      exact ⟨0, show s0 = s by omega⟩
    · obtain ⟨s1, p, mv, b1, b2, b3, b4, b5, b6, b7⟩ := a5 i (by omega)
      obtain ⟨c1, c2, t, c3, c4⟩ := b7 e
      have es : s1 = s := by omega
      subst es
      obtain ⟨r, hr⟩ := ih p c1 t s0 (by omega) c3 h0
      exact ⟨r + 1, mCh_tr hr ⟨s1, mv, c4, rfl⟩⟩
section Sm
variable {l : Launch} {D : va_G} {cy : Nat → ClassId} {z d bc bs N : Nat} {T : Nat → Nat × Nat} {R : Nat → Nat → Option Nat} {I : Nat → Nat → Int} {K : yKo}
theorem r_knotRow (hT : yLT T) (hR : yLR R) {q i0 : Nat} (hq : q ≤ 50653) (hK : mKr I q) (hi : i0 < q) (hd : mDe I i0 i0 ≤ 400) (hk : ∀ r I', 0 ≤ I' 102 42 → I' 102 42 ≤ 400 → (∀ k j, k ≠ 118 → (k ≠ 102 ∨ j ≠ 42) → I' k j = I k j) → K (some (yi r)) (N, T, R, I')) : yW l zSS D cy zFk z d 204 bc bs K 0 0 0 [(0, yr (some 102)), (1, yi (i0 : Int))] [] (N, T, R, I) := by
  have hp := mKr_pr hK
  have at_ : ∀ X : Nat → Nat → Int, (∀ k j, k ≠ 118 → (k ≠ 102 ∨ j ≠ 42) → X k j = I k j) → ∀ i, 0 < i → i < q → ∃ s mv : Nat, X 116 i = (s : Int) ∧ s < 50653 ∧ mv < 12 ∧ X 115 s = 1 + 12 * (mPr I i : Int) + (mv : Int) ∧ mPr I i < i := by
    intro X fX i h0 hiq
    obtain ⟨s, p, mv, b1, b2, b3, b4, b5, b6⟩ := hK i hiq
    have hpr : mPr I i = p := by
      unfold mPr
      rw [b1, show ((s : Int)).toNat = s by omega, b3]
      omega
    refine ⟨s, mv, by rw [fX 116 i (by decide) (.inl (by decide))]; exact b1, b2, b4, by rw [hpr, fX 115 s (by decide) (.inl (by decide))]; exact b3, by rw [hpr]; exact b6 h0⟩
  have l38 : ∀ (f : Nat) (X : Nat → Nat → Int) (i : Nat), i < f → i < q → mDe I i i ≤ 400 → 0 ≤ X 102 42 → X 102 42 ≤ 400 → (∀ k j, k ≠ 118 → (k ≠ 102 ∨ j ≠ 42) → X k j = I k j) → yW l zSS D cy zFk z d 204 bc bs K 0 0 38 [(0, yr (some 102)), (2, yi (mDe I i i : Int)), (3, yi (i : Int))] [] (N, T, R, X) := by
    intro f
    induction f with
    | zero => intro X i h; exact absurd h (Nat.not_lt_zero _)
    | succ f ih =>
      intro X i hf hiq hdi v0 v4 fX
      refine B_204_38 hT hR ⟨fun _ => hk _ X v0 v4 fX, fun c0 => ?_⟩
      obtain ⟨s, mv, b1, b2, b3, b4, b5⟩ := at_ X fX i (by omega) hiq
      have ds := mDe_step hp (show 0 < i by omega) hiq
      rw [show ((i : Int)).toNat = i by omega, b1, show ((s : Int)).toNat = s by omega, b4, yadd_eq (y := -1) (by omega) (by omega), ysub_eq (by omega) (by omega)]
      rw [show 1 + 12 * (mPr I i : Int) + (mv : Int) - 1 = 12 * (mPr I i : Int) + (mv : Int) by omega]
      rw [yrem_eq (x := 12 * (mPr I i : Int) + (mv : Int)) (by omega) (by omega) (by omega) (by omega), show (12 * (mPr I i : Int) + (mv : Int)) % 12 = (mv : Int) by omega, ydiv_eq (x := (mv : Int)) (by omega) (by omega) (by omega) (by omega), show (mDe I i i : Int) + -1 = (mDe I (mPr I i) (mPr I i) : Int) by omega]
      refine ⟨by omega, by omega, by omega, by omega, fun c4 => absurd c4 (by omega), fun _ => ⟨by omega, by omega, by omega, by omega, ?_⟩⟩
      intro I15 e15
      have n15 : ∀ k j, k ≠ 118 → I15 k j = X k j := fun k j h => by rw [e15, yU_ne _ _ (by omega)]
      rw [n15 116 i (by decide), b1, show ((s : Int)).toNat = s by omega, n15 115 s (by decide), b4, ysub_eq (by omega) (by omega), show 1 + 12 * (mPr I i : Int) + (mv : Int) - 1 = 12 * (mPr I i : Int) + (mv : Int) by omega, ydiv_eq (by omega) (by omega) (by omega) (by omega), show (12 * (mPr I i : Int) + (mv : Int)) / 12 = (mPr I i : Int) by omega]
      refine ⟨by omega, by omega, by omega, by omega, ?_⟩
      exact ih I15 (mPr I i) (by omega) (by omega) (by omega) (by rw [n15 102 42 (by decide)]; exact v0) (by rw [n15 102 42 (by decide)]; exact v4) (fun k j a b => by rw [n15 k j a]; exact fX k j a b)
  have l4 : ∀ (f : Nat) (i n : Nat), i < f → i < q → n + mDe I i i = mDe I i0 i0 → yW l zSS D cy zFk z d 204 bc bs K 0 0 4 [(0, yr (some 102)), (1, yi (i0 : Int)), (2, yi (n : Int)), (3, yi (i : Int))] [] (N, T, R, I) := by
    intro f
    induction f with
    | zero => intro i n h; exact absurd h (Nat.not_lt_zero _)
    | succ f ih =>
      intro i n hf hiq hn
      refine B_204_4 hT hR ⟨fun c0 => ?_, fun c0 => ?_⟩
      · have ei : i = 0 := by omega
        subst ei
        have d0 : mDe I 0 0 = 0 := rfl
        intro I2 e2
        have n2 : ∀ k j, (k ≠ 102 ∨ j ≠ 42) → I2 k j = I k j := fun k j h => by rw [e2, yU_ne _ _ (by omega)]
        have v2 : I2 102 42 = (n : Int) := by rw [e2, yU_eq]
        rw [show n = mDe I i0 i0 by omega]
        exact l38 _ I2 i0 (Nat.lt_succ_self _) hi hd (by omega) (by omega) (fun k j _ b => n2 k j b)
      · obtain ⟨s, mv, b1, b2, b3, b4, b5⟩ := at_ I (fun _ _ _ _ => rfl) i (by omega) hiq
        have ds := mDe_step hp (show 0 < i by omega) hiq
        rw [show ((i : Int)).toNat = i by omega, b1, show ((s : Int)).toNat = s by omega, b4, ysub_eq (by omega) (by omega), show 1 + 12 * (mPr I i : Int) + (mv : Int) - 1 = 12 * (mPr I i : Int) + (mv : Int) by omega, ydiv_eq (by omega) (by omega) (by omega) (by omega), show (12 * (mPr I i : Int) + (mv : Int)) / 12 = (mPr I i : Int) by omega, yadd_eq (x := (n : Int)) (by omega) (by omega)]
        exact ⟨by omega, by omega, by omega, by omega, ih (mPr I i) (n + 1) (by omega) (by omega) (by omega)⟩
  exact B_204_0 hT hR (l4 _ i0 0 (Nat.lt_succ_self _) hi (by omega))
end Sm
