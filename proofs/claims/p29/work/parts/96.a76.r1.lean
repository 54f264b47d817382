/-! THE REFERENCE's CONTRACTS, 1: ROOM, the WAYs' rows. -/
section Sm
variable {l : Launch} {D : va_G} {cy : Nat → ClassId} {z d bc bs N : Nat} {T : Nat → Nat × Nat} {R : Nat → Nat → Option Nat} {I : Nat → Nat → Int} {K : yKo}
theorem r_hasRoom (hT : yLT T) (hR : yLR R) {x1 : Int} (hC : 0 ≤ I 104 2 ∧ I 104 2 ≤ 8) (h0 : 0 ≤ x1) (h1 : x1 < 100) (hg0 : 0 ≤ I 104 (210 + x1.toNat)) (hg1 : I 104 (210 + x1.toNat) ≤ 1) (hk : ∀ r, (r = 1 ∧ mOn I x1 (I 104 2).toNat < 1 + I 104 (210 + x1.toNat)) ∨ (r = 0 ∧ 1 + I 104 (210 + x1.toNat) ≤ mOn I x1 (I 104 2).toNat) → K (some (yi r)) (N, T, R, I)) : yW l zSS D cy zFk z (d + 1) 183 bc bs K 0 0 0 [(0, yr (some 102)), (1, yi x1)] [] (N, T, R, I) := by
  refine B_183_0 hT hR (r_chairsOn hT hR hC ⟨_, _, rfl, rfl, ?_⟩)
  rw [yadd_eq (x := 210) (by omega) (by omega)]
  have e : (210 + x1).toNat = 210 + x1.toNat := by omega
  rw [e, yadd_eq (x := 1) (by omega) (by omega)]
  refine ⟨by omega, by omega, fun c => hk 0 (.inr ⟨rfl, c⟩), fun c => hk 1 (.inl ⟨rfl, by omega⟩)⟩
theorem r_isFree (hT : yLT T) (hR : yLR R) {x1 : Int} (hM : mDim I) (hk : ∀ r, (r = 1 ∧ mCell (I 104 0) (I 104 1) x1 ∧ I 104 (10 + x1.toNat) = 0) ∨ (r = 0 ∧ ¬ (mCell (I 104 0) (I 104 1) x1 ∧ I 104 (10 + x1.toNat) = 0)) → K (some (yi r)) (N, T, R, I)) : yW l zSS D cy zFk z (d + 1) 190 bc bs K 0 0 0 [(0, yr (some 102)), (1, yi x1)] [] (N, T, R, I) := by
  obtain ⟨w0, w1, w2, w3, _, _⟩ := hM
  refine B_190_0 hT hR (r_isCell hT hR fun r h => ⟨_, _, rfl, rfl, ?_⟩)
  rcases h with ⟨rfl, hc⟩ | ⟨rfl, hc⟩
  · refine ⟨fun g => absurd g (by decide), fun _ => ?_⟩
    have hc' := hc
    unfold mCell at hc'
    rw [yadd_eq (x := 10) (by omega) (by omega)]
    have e : (10 + x1).toNat = 10 + x1.toNat := by omega
    rw [e]
    exact ⟨by omega, by omega, fun g => hk 0 (.inr ⟨rfl, fun q => g q.2⟩), fun g => hk 1 (.inl ⟨rfl, hc, by omega⟩)⟩
  · exact ⟨fun _ => hk 0 (.inr ⟨rfl, fun q => hc q.1⟩), fun g => absurd rfl g⟩
/-- how many of the first n numbers of a row from b on are 0 or more -/
def mCnt (I : Nat → Nat → Int) (b : Nat) : Nat → Nat
  | 0 => 0
  | n + 1 => mCnt I b n + (if 0 ≤ I 109 (b + n) then 1 else 0)
theorem mCnt_le (I : Nat → Nat → Int) (b : Nat) : ∀ n, mCnt I b n ≤ n := by
  intro n
  induction n with
  | zero => exact Nat.le_refl _
  | succ n ih => unfold mCnt; split <;> omega
theorem mCnt_lt (I : Nat → Nat → Int) (b c : Nat) (hc : I 109 (b + c) < 0) : ∀ n, c < n → mCnt I b n < n := by
  intro n
  induction n with
  | zero => intro h; omega
  | succ n ih =>
    intro h
    unfold mCnt
    by_cases e : c = n
    · subst e
      rw [if_neg (by omega)]
      have := mCnt_le I b c
      omega
    · have := ih (by omega)
      split <;> omega
theorem mCnt_up (I I' : Nat → Nat → Int) (b c : Nat) (h1 : I 109 (b + c) < 0) (h2 : 0 ≤ I' 109 (b + c)) (h3 : ∀ j, j ≠ c → I' 109 (b + j) = I 109 (b + j)) : ∀ n, mCnt I' b n = mCnt I b n + (if c < n then 1 else 0) := by
  intro n
  induction n with
  | zero => rfl
  | succ n ih =>
    unfold mCnt
    rw [ih]
    by_cases e : n = c
    · subst e
      rw [if_pos h2, if_neg (by omega : ¬ 0 ≤ I 109 (b + n)), if_neg (by omega : ¬ n < n), if_pos (by omega : n < n + 1)]
    · rw [h3 n e]
      by_cases g : c < n
      · rw [if_pos g, if_pos (by omega : c < n + 1)]; omega
      · rw [if_neg g, if_neg (by omega : ¬ c < n + 1)]; omega
theorem mCnt_neg (I : Nat → Nat → Int) (b : Nat) : ∀ n, (∀ c, c < n → I 109 (b + c) < 0) → mCnt I b n = 0 := by
  intro n
  induction n with
  | zero => intro _; rfl
  | succ n ih =>
    intro h
    unfold mCnt
    rw [ih (fun c hc => h c (by omega)), if_neg (by have := h n (by omega); omega)]
/-- a hundred numbers of the row of ways, and the row in hand, have changed alone -/
def mSpr (b : Nat) (I I' : Nat → Nat → Int) : Prop := ∀ k j, (k ≠ 109 ∨ j < b ∨ b + 100 ≤ j) → k ≠ 110 → I' k j = I k j
theorem mSpr_1 {b : Nat} {I I' : Nat → Nat → Int} (h : mSpr b I I') {c : Nat} (hc : c < 100) (v : Int) : mSpr b I (yU I' 109 (b + c) v) := fun k j h1 h2 => by
  rw [yU_ne _ _ (by omega)]; exact h k j h1 h2
theorem mSpr_2 {b : Nat} {I I' : Nat → Nat → Int} (h : mSpr b I I') (c : Nat) (v : Int) : mSpr b I (yU I' 110 c v) := fun k j h1 h2 => by
  rw [yU_ne _ _ (by omega)]; exact h k j h1 h2
theorem r_spreads (hT : yLT T) (hR : yLR R) {x1 : Int} {b : Nat} (hM : mDim I) (hb : b ≤ 700) (hk : ∀ I', mSpr b I I' → K none (N, T, R, I')) : yW l zSS D cy zFk z (d + 3) 237 bc bs K 0 0 0 [(0, yr (some 102)), (1, yi x1), (2, yi (b : Int))] [] (N, T, R, I) := by
  have s104 : ∀ {I'}, mSpr b I I' → ∀ j, I' 104 j = I 104 j := fun h j => h 104 j (.inl (by decide)) (by decide)
  have dim : ∀ {I'}, mSpr b I I' → mDim I' := fun h => by
    unfold mDim; rw [s104 h, s104 h, s104 h]; exact hM
  obtain ⟨w0, w1, w2, w3, _, _⟩ := hM
  -- what holds in the loops
  let J : (Nat → Nat → Int) → Nat → Prop := fun I' n => mSpr b I I' ∧ n = mCnt I' b 100 ∧ (∀ t, t < n → 0 ≤ I' 110 t ∧ I' 110 t < 100 ∧ 0 ≤ I' 109 (b + (I' 110 t).toNat)) ∧ ∀ c, c < 100 → I' 109 (b + c) < (n : Int)
  have inner : ∀ (m : Nat) (I' : Nat → Nat → Int) (n i dir : Nat), dir + m = 4 → J I' n → i < n →
      (∀ I2 n2, J I2 n2 → n ≤ n2 → yW l zSS D cy zFk z (d + 3) 237 bc bs K 0 0 53 [(0, yr (some 102)), (2, yi (b : Int)), (3, yi (n2 : Int)), (4, yi ((i + 1 : Nat) : Int))] [] (N, T, R, I2)) →
      yW l zSS D cy zFk z (d + 3) 237 bc bs K 0 0 71 [(0, yr (some 102)), (2, yi (b : Int)), (3, yi (n : Int)), (4, yi (i : Int)), (5, yi (I' 110 i)), (6, yi (dir : Int))] [] (N, T, R, I') := by
    intro m
    induction m with
    | zero =>
      intro I' n i dir hd hJ hi hgo
      have hn : n ≤ 100 := by rw [hJ.2.1]; exact mCnt_le _ _ _
      refine B_237_71 hT hR ⟨fun _ => ?_, fun c => absurd c (by omega)⟩
      rw [yadd_eq (x := (i : Int)) (by omega) (by omega)]
      exact hgo I' n hJ (Nat.le_refl _)
    | succ m ih =>
      intro I' n i dir hd hJ hi hgo
      obtain ⟨j1, j2, j3, j4⟩ := hJ
      have hn : n ≤ 100 := by rw [j2]; exact mCnt_le _ _ _
      obtain ⟨c0, c1, c2⟩ := j3 i hi
      have next : yW l zSS D cy zFk z (d + 3) 237 bc bs K 0 0 71 [(0, yr (some 102)), (2, yi (b : Int)), (3, yi (n : Int)), (4, yi (i : Int)), (5, yi (I' 110 i)), (6, yi (yadd (dir : Int) 1))] [] (N, T, R, I') := by
        rw [yadd_eq (x := (dir : Int)) (by omega) (by omega)]
        exact ih I' n i (dir + 1) (by omega) ⟨j1, j2, j3, j4⟩ hi hgo
      refine B_237_71 hT hR ⟨fun c => absurd c (by omega), fun _ => ?_⟩
      refine r_besideOf (d := d + 1) hT hR (dim j1) c0 c1 ⟨_, _, rfl, rfl, fun _ => next, fun hr => ?_⟩
      have hbr := @mBes_rng (I' 104 0) (I' 104 1) (I' 110 i) (yrem (yadd (dir : Int) 2) 4) (dim j1).2.1 (dim j1).2.2.2.1
      generalize mBes (I' 104 0) (I' 104 1) (I' 110 i) (yrem (yadd (dir : Int) 2) 4) = was at *
      have hw : was < 100 := by rcases hbr with g | g; omega; exact g.2
      rw [yadd_eq (x := 10) (by omega) (by omega)]
      refine ⟨by omega, by omega, fun _ => next, fun _ => ?_⟩
      rw [yadd_eq (x := (b : Int)) (y := was) (by omega) (by omega)]
      have ew : ((b : Int) + was).toNat = b + was.toNat := by omega
      rw [ew]
      refine ⟨by omega, by omega, fun _ => next, fun hfar => ?_⟩
      refine r_stepTo (d := d) hT hR (dim j1) (by omega) hw (by omega) (by omega) ⟨_, _, rfl, rfl, fun _ => ?_, fun _ => next⟩
      rw [yadd_eq (x := (b : Int)) (y := I' 110 i) (by omega) (by omega)]
      have ec : ((b : Int) + I' 110 i).toNat = b + (I' 110 i).toNat := by omega
      rw [ec]
      have g4 := j4 (I' 110 i).toNat (by omega)
      refine ⟨by omega, by omega, by omega, by omega, ?_⟩
      intro I18 e18
      rw [yadd_eq (x := I' 109 (b + (I' 110 i).toNat)) (by omega) (by omega), ynar1_eq (by omega) (by omega)] at e18
      have hlt : n < 100 := by rw [j2]; exact mCnt_lt I' b was.toNat (by omega) 100 (by omega)
      refine ⟨by omega, by omega, ?_⟩
      intro I21 e21
      rw [ynar1_eq (by omega) (by omega)] at e21
      rw [yadd_eq (x := (n : Int)) (by omega) (by omega), yadd_eq (x := (dir : Int)) (by omega) (by omega)]
      have en : ((n : Int)).toNat = n := by omega
      rw [en] at e21
      have v110 : ∀ t, t ≠ n → I21 110 t = I' 110 t := fun t ht => by rw [e21, yU_ne _ _ (by omega), e18, yU_ne _ _ (by omega)]
      have v110n : I21 110 n = was := by rw [e21, yU_eq]
      have v109 : ∀ c, c ≠ b + was.toNat → I21 109 c = I' 109 c := fun c hc => by rw [e21, yU_ne _ _ (by omega), e18, yU_ne _ _ (by omega)]
      have v109w : I21 109 (b + was.toNat) = I' 109 (b + (I' 110 i).toNat) + 1 := by rw [e21, yU_ne _ _ (by omega), e18, yU_eq]
      have hJ2 : J I21 (n + 1) := by
        refine ⟨by rw [e21, e18]; exact mSpr_2 (mSpr_1 j1 (by omega) _) _ _, ?_, fun t ht => ?_, fun c hc => ?_⟩
        · rw [mCnt_up I' I21 b was.toNat (by omega) (by omega) (fun j hj => v109 _ (by omega)) 100, if_pos (by omega), ← j2]
        · by_cases e : t = n
          · subst e
            rw [v110n]
            exact ⟨by omega, hw, by rw [v109w]; omega⟩
          · rw [v110 t e]
            obtain ⟨q1, q2, q3⟩ := j3 t (by omega)
            refine ⟨q1, q2, ?_⟩
            by_cases e2 : b + (I' 110 t).toNat = b + was.toNat
            · rw [e2, v109w]; omega
            · rw [v109 _ e2]; exact q3
        · by_cases e : b + c = b + was.toNat
          · rw [e, v109w]; omega
          · rw [v109 _ e]
            have := j4 c hc; omega
      have e5 : I21 110 i = I' 110 i := v110 i (by omega)
      have g := ih I21 (n + 1) i (dir + 1) (by omega) hJ2 (by omega) (fun I2 n2 h1 h2 => hgo I2 n2 h1 (by omega))
      rw [e5] at g
      exact g
  have outer : ∀ (m : Nat) (I' : Nat → Nat → Int) (n i : Nat), i + m = 101 → J I' n → yW l zSS D cy zFk z (d + 3) 237 bc bs K 0 0 53 [(0, yr (some 102)), (2, yi (b : Int)), (3, yi (n : Int)), (4, yi (i : Int))] [] (N, T, R, I') := by
    intro m
    induction m with
    | zero =>
      intro I' n i hi hJ
      have hn : n ≤ 100 := by rw [hJ.2.1]; exact mCnt_le _ _ _
      exact B_237_53 hT hR ⟨fun _ => hk I' hJ.1, fun c => absurd c (by omega)⟩
    | succ m ih =>
      intro I' n i hi hJ
      have hn : n ≤ 100 := by rw [hJ.2.1]; exact mCnt_le _ _ _
      refine B_237_53 hT hR ⟨fun _ => hk I' hJ.1, fun c => ⟨by omega, by omega, ?_⟩⟩
      have ei : ((i : Int)).toNat = i := by omega
      rw [ei]
      exact inner 4 I' n i 0 rfl hJ (by omega) (fun I2 n2 h1 h2 => ih I2 n2 (i + 1) (by omega) h1)
  have first : ∀ (m : Nat) (I' : Nat → Nat → Int) (c : Nat), c + m = 100 → mSpr b I I' → (∀ j, j < c → I' 109 (b + j) = -1) → yW l zSS D cy zFk z (d + 3) 237 bc bs K 0 0 2 [(0, yr (some 102)), (1, yi x1), (2, yi (b : Int)), (3, yi (c : Int))] [] (N, T, R, I') := by
    intro m
    induction m with
    | zero =>
      intro I' c hc hs hneg
      refine B_237_2 hT hR ⟨fun _ => ?_, fun g => absurd g (by omega)⟩
      refine r_isFree (d := d + 1) hT hR (dim hs) fun r hr => ⟨_, _, rfl, rfl, ?_⟩
      rcases hr with ⟨rfl, hcell, _⟩ | ⟨rfl, _⟩
      · refine ⟨fun _ => ?_, fun g => absurd (by decide) g⟩
        have hd := dim hs
        unfold mCell at hcell
        obtain ⟨v0, v1, v2, v3, _, _⟩ := hd
        rw [yadd_eq (x := (b : Int)) (by omega) (by omega)]
        refine ⟨by omega, by omega, ?_⟩
        intro I7 e7 I8 e8
        have ex : ((b : Int) + x1).toNat = b + x1.toNat := by omega
        rw [ynar1_eq (by omega) (by omega), ex] at e7
        rw [ynar1_eq (by omega) (by omega)] at e8
        refine outer 101 I8 1 0 rfl ⟨by rw [e8, e7]; exact mSpr_2 (mSpr_1 hs (by omega) _) _ _, ?_, fun t ht => ?_, fun j hj => ?_⟩
        · have h8 : ∀ j, I8 109 (b + j) = if j = x1.toNat then 0 else I' 109 (b + j) := fun j => by
            rw [e8, yU_ne _ _ (by omega), e7]
            by_cases e : j = x1.toNat
            · rw [if_pos e, e, yU_eq]
            · rw [if_neg e, yU_ne _ _ (by omega)]
          rw [mCnt_up I' I8 b x1.toNat (by rw [hneg _ (by omega)]; decide) (by rw [h8, if_pos rfl]; decide) (fun j hj => by rw [h8, if_neg hj]) 100, if_pos (by omega), mCnt_neg I' b 100 (fun j hj => by rw [hneg j (by omega)]; decide)]
        · have : t = 0 := by omega
          subst this
          have e0 : I8 110 0 = x1 := by rw [e8, yU_eq]
          rw [e0]
          refine ⟨by omega, by omega, ?_⟩
          rw [e8, yU_ne _ _ (by omega), e7, yU_eq]; decide
        · rw [e8, yU_ne _ _ (by omega), e7]
          by_cases e : j = x1.toNat
          · rw [e, yU_eq]; decide
          · rw [yU_ne _ _ (by omega), hneg j (by omega)]; decide
      · exact ⟨fun g => absurd rfl g, fun _ => hk I' hs⟩
    | succ m ih =>
      intro I' c hc hs hneg
      refine B_237_2 hT hR ⟨fun g => absurd g (by omega), fun _ => ?_⟩
      rw [yadd_eq (x := (b : Int)) (by omega) (by omega), yadd_eq (x := (c : Int)) (by omega) (by omega)]
      refine ⟨by omega, by omega, ?_⟩
      intro I11 e11
      have ex : ((b : Int) + (c : Int)).toNat = b + c := by omega
      rw [ynar1_eq (by omega) (by omega), ex] at e11
      refine ih I11 (c + 1) (by omega) (by rw [e11]; exact mSpr_1 hs (by omega) _) (fun j hj => ?_)
      rw [e11]
      by_cases e : j = c
      · rw [e, yU_eq]
      · rw [yU_ne _ _ (by omega)]; exact hneg j (by omega)
  exact B_237_0 hT hR (first 100 I 0 rfl (fun _ _ _ _ => rfl) (fun j hj => absurd hj (by omega)))
end Sm
