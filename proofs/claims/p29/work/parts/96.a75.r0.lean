/-! THE REFERENCE's CONTRACTS, 0: what is so of every number that the machine holds; small methods, exactly. -/
section Sm
variable {l : Launch} {D : va_G} {cy : Nat → ClassId} {z d bc bs N : Nat} {T : Nat → Nat × Nat} {R : Nat → Nat → Option Nat} {I : Nat → Nat → Int} {K : yKo}
theorem r_isIn (hT : yLT T) (hR : yLR R) {x0 x1 x2 : Int} (hk : K (some (yi (if x1 ≤ x0 ∧ x0 ≤ x2 then 1 else 0))) (N, T, R, I)) : yW l zSS D cy zFk z d 191 bc bs K 0 0 0 [(0, yi x0), (1, yi x1), (2, yi x2)] [] (N, T, R, I) := by
  refine B_191_0 hT hR ⟨fun c => ?_, fun c => ⟨fun c2 => ?_, fun c2 => ?_⟩⟩
  · rw [if_neg (by omega)] at hk; exact hk
  · rw [if_neg (by omega)] at hk; exact hk
  · rw [if_pos (by omega)] at hk; exact hk
/-- a bit of a set -/
def mBit (x k : Int) : Int := if yand (yshr x k) 1 = 1 then 1 else 0
theorem r_bitOf (hT : yLT T) (hR : yLR R) {x0 x1 : Int} (hk : K (some (yi (mBit x0 x1))) (N, T, R, I)) : yW l zSS D cy zFk z d 164 bc bs K 0 0 0 [(0, yi x0), (1, yi x1)] [] (N, T, R, I) := by
  unfold mBit at hk
  refine B_164_0 hT hR ⟨fun c => ?_, fun c => ?_⟩
  · rw [if_neg c] at hk; exact hk
  · rw [if_pos (by omega)] at hk; exact hk
/-- a CELL of a land so wide and high -/
def mCell (W H c : Int) : Prop := 0 ≤ c ∧ c % 10 < W ∧ c / 10 < H
theorem r_isCell (hT : yLT T) (hR : yLR R) {x1 : Int} (hk : ∀ r, (r = 1 ∧ mCell (I 104 0) (I 104 1) x1) ∨ (r = 0 ∧ ¬ mCell (I 104 0) (I 104 1) x1) → K (some (yi r)) (N, T, R, I)) : yW l zSS D cy zFk z d 187 bc bs K 0 0 0 [(0, yr (some 102)), (1, yi x1)] [] (N, T, R, I) := by
  refine e_li (i := 1) (x := x1) rfl fun h1 h2 => ?_
  unfold mCell at hk
  refine B_187_0 hT hR ⟨fun c => hk 0 (.inr ⟨rfl, by omega⟩), fun c => ?_⟩
  rw [yrem_eq (by omega) h2 (by decide) (by decide), ydiv_eq (by omega) h2 (by decide) (by decide)]
  exact ⟨fun c2 => hk 0 (.inr ⟨rfl, by omega⟩), fun c2 => ⟨fun c3 => hk 0 (.inr ⟨rfl, by omega⟩), fun c3 => hk 1 (.inl ⟨rfl, by omega⟩)⟩⟩
theorem r_isChair (hT : yLT T) (hR : yLR R) {x1 : Int} (hC : 0 ≤ I 104 2 ∧ I 104 2 ≤ 8) (hk : ∀ r, (r = 1 ∧ 0 ≤ x1 ∧ x1 < I 104 2) ∨ (r = 0 ∧ ¬ (0 ≤ x1 ∧ x1 < I 104 2)) → K (some (yi r)) (N, T, R, I)) : yW l zSS D cy zFk z (d + 1) 188 bc bs K 0 0 0 [(0, yr (some 102)), (1, yi x1)] [] (N, T, R, I) := by
  refine B_188_0 hT hR (r_isIn hT hR ⟨_, _, rfl, rfl, ?_, ?_⟩)
  · split
    · exact .inr rfl
    · exact .inl rfl
  · rw [ysub_eq (by omega) (by omega)]
    split
    · exact hk 1 (.inl ⟨rfl, by omega⟩)
    · exact hk 0 (.inr ⟨rfl, by omega⟩)
/-- how many of the first n CHAIRS are on a CELL -/
def mOn (I : Nat → Nat → Int) (c : Int) : Nat → Int
  | 0 => 0
  | n + 1 => mOn I c n + (if I 104 (470 + n) = c then 1 else 0)
theorem mOn_rng (I : Nat → Nat → Int) (c : Int) : ∀ n, 0 ≤ mOn I c n ∧ mOn I c n ≤ (n : Int) := by
  intro n
  induction n with
  | zero => exact ⟨Int.le_refl _, Int.le_refl _⟩
  | succ n ih =>
    unfold mOn
    split <;> omega
theorem r_chairsOn (hT : yLT T) (hR : yLR R) {x1 : Int} (hC : 0 ≤ I 104 2 ∧ I 104 2 ≤ 8) (hk : K (some (yi (mOn I x1 (I 104 2).toNat))) (N, T, R, I)) : yW l zSS D cy zFk z d 168 bc bs K 0 0 0 [(0, yr (some 102)), (1, yi x1)] [] (N, T, R, I) := by
  have loop : ∀ (n k : Nat), k + n = (I 104 2).toNat → yW l zSS D cy zFk z d 168 bc bs K 0 0 4 [(0, yr (some 102)), (1, yi x1), (2, yi (mOn I x1 k)), (3, yi (k : Int))] [] (N, T, R, I) := by
    intro n
    induction n with
    | zero =>
      intro k hn
      refine B_168_4 hT hR ⟨fun c => ?_, fun c => ?_⟩
      · rw [show k = (I 104 2).toNat by omega]; exact hk
      · omega
    | succ n ih =>
      intro k hn
      refine B_168_4 hT hR ⟨fun c => ?_, fun c => ?_⟩
      · omega
      · have hr := mOn_rng I x1 k
        rw [yadd_eq (x := 470) (y := (k : Int)) (by omega) (by omega), yadd_eq (x := (k : Int)) (y := 1) (by omega) (by omega), yadd_eq (x := mOn I x1 k) (y := 0) (by omega) (by omega), yadd_eq (x := mOn I x1 k) (y := 1) (by omega) (by omega)]
        have e : (470 + (k : Int)).toNat = 470 + k := by omega
        rw [e]
        have g := ih (k + 1) (by omega)
        refine ⟨by omega, by omega, fun c2 => ?_, fun c2 => ?_⟩
        · have e2 : mOn I x1 (k + 1) = mOn I x1 k + 0 := by show mOn I x1 k + (if I 104 (470 + k) = x1 then 1 else 0) = _; rw [if_neg c2]
          rw [e2] at g; exact g
        · have e2 : mOn I x1 (k + 1) = mOn I x1 k + 1 := by show mOn I x1 k + (if I 104 (470 + k) = x1 then 1 else 0) = _; rw [if_pos (by omega)]
          rw [e2] at g; exact g
  exact B_168_0 hT hR (loop _ 0 (Nat.zero_add _))
/-- the land's row is so wide and high, and has so many CHAIRS, as can be -/
def mDim (I : Nat → Nat → Int) : Prop := 0 ≤ I 104 0 ∧ I 104 0 ≤ 10 ∧ 0 ≤ I 104 1 ∧ I 104 1 ≤ 10 ∧ 0 ≤ I 104 2 ∧ I 104 2 ≤ 8
def mDx (dir : Int) : Int := if dir = 1 then 1 else if dir = 3 then -1 else 0
def mDy (dir : Int) : Int := if dir = 2 then 1 else if dir = 0 then -1 else 0
def mBes (W H c dir : Int) : Int := if 0 ≤ c % 10 + mDx dir ∧ c % 10 + mDx dir ≤ W - 1 ∧ 0 ≤ c / 10 + mDy dir ∧ c / 10 + mDy dir ≤ H - 1 then 10 * (c / 10 + mDy dir) + (c % 10 + mDx dir) else -1
theorem r_besideOf (hT : yLT T) (hR : yLR R) {x1 x2 : Int} (hM : mDim I) (h0 : 0 ≤ x1) (h1 : x1 < 100) (hk : K (some (yi (mBes (I 104 0) (I 104 1) x1 x2))) (N, T, R, I)) : yW l zSS D cy zFk z (d + 1) 163 bc bs K 0 0 0 [(0, yr (some 102)), (1, yi x1), (2, yi x2)] [] (N, T, R, I) := by
  obtain ⟨w0, w1, w2, w3, _, _⟩ := hM
  have l94 : ∀ t : Int, K (some (yi t)) (N, T, R, I) → yW l zSS D cy zFk z (d + 1) 163 bc bs K 0 0 94 [] [yi t] (N, T, R, I) := fun t h => B_163_94 hT hR h
  have l47 : ∀ (x y0 dy : Int), -1 ≤ x → x ≤ 10 → 0 ≤ y0 → y0 ≤ 9 → -1 ≤ dy → dy ≤ 1 → K (some (yi (if 0 ≤ x ∧ x ≤ I 104 0 - 1 ∧ 0 ≤ y0 + dy ∧ y0 + dy ≤ I 104 1 - 1 then 10 * (y0 + dy) + x else -1))) (N, T, R, I) → yW l zSS D cy zFk z (d + 1) 163 bc bs K 0 0 47 [(0, yr (some 102)), (3, yi x)] [yi dy, yi y0] (N, T, R, I) := by
    intro x y0 dy a1 a2 a3 a4 a5 a6 hk
    refine B_163_47 hT hR (r_isIn hT hR ⟨_, _, rfl, rfl, fun c => ?_, fun c => ?_⟩)
    · refine B_163_93 hT hR (l94 _ ?_)
      rw [ysub_eq (by omega) (by omega)] at c
      have : ¬ (0 ≤ x ∧ x ≤ I 104 0 - 1) := fun g => by rw [if_pos g] at c; omega
      rw [if_neg (by omega)] at hk; exact hk
    · rw [ysub_eq (by omega) (by omega)] at c
      have c1 : 0 ≤ x ∧ x ≤ I 104 0 - 1 := by
        apply Classical.byContradiction; intro g; rw [if_neg g] at c; exact c rfl
      rw [yadd_eq (x := y0) (y := dy) (by omega) (by omega), ymul_eq (x := 10) (by omega) (by omega), yadd_eq (x := 10 * (y0 + dy)) (by omega) (by omega), ysub_eq (x := I 104 1) (by omega) (by omega)]
      refine r_isIn hT hR ⟨_, _, rfl, rfl, fun c2 => ?_, fun c2 => ?_⟩
      · refine B_163_93 hT hR (l94 _ ?_)
        have : ¬ (0 ≤ y0 + dy ∧ y0 + dy ≤ I 104 1 - 1) := fun g => by rw [if_pos g] at c2; omega
        rw [if_neg (by omega)] at hk; exact hk
      · have c3 : 0 ≤ y0 + dy ∧ y0 + dy ≤ I 104 1 - 1 := by
          apply Classical.byContradiction; intro g; rw [if_neg g] at c2; exact c2 rfl
        refine l94 _ ?_
        rw [if_pos (by omega)] at hk; exact hk
  have er : yrem x1 10 = x1 % 10 := yrem_eq h0 (by omega) (by decide) (by decide)
  have ed : ydiv x1 10 = x1 / 10 := ydiv_eq h0 (by omega) (by decide) (by decide)
  have l23 : ∀ dx : Int, -1 ≤ dx → dx ≤ 1 → dx = mDx x2 → yW l zSS D cy zFk z (d + 1) 163 bc bs K 0 0 23 [(0, yr (some 102)), (1, yi x1), (2, yi x2)] [yi dx, yi (yrem x1 10)] (N, T, R, I) := by
    intro dx b1 b2 hdx
    rw [er]
    unfold mBes at hk
    rw [← hdx] at hk
    refine B_163_23 hT hR ?_
    rw [ed, yadd_eq (x := x1 % 10) (by omega) (by omega)]
    refine ⟨fun c => ⟨fun c2 => ?_, fun c2 => ?_⟩, fun c => ?_⟩
    · refine l47 _ _ _ (by omega) (by omega) (by omega) (by omega) (by omega) (by omega) ?_
      rw [show mDy x2 = 0 by unfold mDy; rw [if_neg c, if_neg c2]] at hk; exact hk
    · refine l47 _ _ _ (by omega) (by omega) (by omega) (by omega) (by omega) (by omega) ?_
      rw [show mDy x2 = -1 by unfold mDy; rw [if_neg c, if_pos (by omega)]] at hk; exact hk
    · refine l47 _ _ _ (by omega) (by omega) (by omega) (by omega) (by omega) (by omega) ?_
      rw [show mDy x2 = 1 by unfold mDy; rw [if_pos (by omega)]] at hk; exact hk
  refine B_163_0 hT hR ⟨fun c => ⟨fun c2 => ?_, fun c2 => ?_⟩, fun c => ?_⟩
  · exact l23 0 (by omega) (by omega) (by unfold mDx; rw [if_neg c, if_neg c2])
  · exact l23 (-1) (by omega) (by omega) (by unfold mDx; rw [if_neg c, if_pos (by omega)])
  · exact l23 1 (by omega) (by omega) (by unfold mDx; rw [if_pos (by omega)])
theorem mBes_rng {W H c dir : Int} (hW : W ≤ 10) (hH : H ≤ 10) : mBes W H c dir = -1 ∨ (mCell W H (mBes W H c dir) ∧ mBes W H c dir < 100) := by
  unfold mBes
  split
  · rename_i h
    right
    unfold mCell
    generalize c % 10 + mDx dir = x at *
    generalize c / 10 + mDy dir = y at *
    omega
  · exact .inl rfl
/-- where a step leads, lanes and walls as they are -/
def mStep (I : Nat → Nat → Int) (c dir : Int) : Int := if 0 < I 104 (526 + c.toNat) ∧ I 104 (526 + c.toNat) ≠ dir + 1 then -1 else if 0 ≤ mBes (I 104 0) (I 104 1) c dir ∧ I 104 (10 + (mBes (I 104 0) (I 104 1) c dir).toNat) = 0 then mBes (I 104 0) (I 104 1) c dir else -1
theorem r_stepTo (hT : yLT T) (hR : yLR R) {x1 x2 : Int} (hM : mDim I) (h0 : 0 ≤ x1) (h1 : x1 < 100) (h2 : -1 ≤ x2) (h3 : x2 < 100) (hk : K (some (yi (mStep I x1 x2))) (N, T, R, I)) : yW l zSS D cy zFk z (d + 2) 242 bc bs K 0 0 0 [(0, yr (some 102)), (1, yi x1), (2, yi x2)] [] (N, T, R, I) := by
  have hM' := hM
  obtain ⟨w0, w1, w2, w3, _, _⟩ := hM'
  have hb := @mBes_rng (I 104 0) (I 104 1) x1 x2 w1 w3
  unfold mStep at hk
  have tail : (¬ (0 < I 104 (526 + x1.toNat) ∧ I 104 (526 + x1.toNat) ≠ x2 + 1)) → ((mBes (I 104 0) (I 104 1) x1 x2 < 0 → K (some (yi (-1))) (N, T, R, I)) ∧ (¬ (mBes (I 104 0) (I 104 1) x1 x2 < 0) → 0 ≤ (yadd 10 (mBes (I 104 0) (I 104 1) x1 x2)) ∧ (yadd 10 (mBes (I 104 0) (I 104 1) x1 x2)) < 1188 ∧ (((I 104 (yadd 10 (mBes (I 104 0) (I 104 1) x1 x2)).toNat) ≠ 0 → K (some (yi (-1))) (N, T, R, I)) ∧ (¬ ((I 104 (yadd 10 (mBes (I 104 0) (I 104 1) x1 x2)).toNat) ≠ 0) → K (some (yi (mBes (I 104 0) (I 104 1) x1 x2))) (N, T, R, I))))) := by
    intro hc
    rw [if_neg hc] at hk
    generalize mBes (I 104 0) (I 104 1) x1 x2 = t at *
    refine ⟨fun c => ?_, fun c => ?_⟩
    · rw [if_neg (by omega)] at hk; exact hk
    · have ht : t < 100 := by rcases hb with g | g; omega; exact g.2
      rw [yadd_eq (by omega) (by omega)]
      have e : (10 + t).toNat = 10 + t.toNat := by omega
      rw [e]
      refine ⟨by omega, by omega, fun c2 => ?_, fun c2 => ?_⟩
      · rw [if_neg (fun g => c2 g.2)] at hk; exact hk
      · rw [if_pos ⟨by omega, by omega⟩] at hk; exact hk
  refine B_242_0 hT hR ?_
  rw [yadd_eq (x := 526) (by omega) (by omega), yadd_eq (x := x2) (by omega) (by omega)]
  have e : (526 + x1).toNat = 526 + x1.toNat := by omega
  rw [e]
  refine ⟨by omega, by omega, fun c => ?_, fun c => ⟨by omega, by omega, fun c2 => ?_, fun c2 => ?_⟩⟩
  · exact r_besideOf hT hR hM h0 h1 ⟨_, _, rfl, rfl, tail (by omega)⟩
  · exact r_besideOf hT hR hM h0 h1 ⟨_, _, rfl, rfl, tail (by omega)⟩
  · rw [if_pos ⟨by omega, c2⟩] at hk; exact hk
theorem mStep_rng {I : Nat → Nat → Int} (hM : mDim I) {c dir : Int} : mStep I c dir = -1 ∨ (mCell (I 104 0) (I 104 1) (mStep I c dir) ∧ mStep I c dir < 100) := by
  unfold mStep
  split
  · exact .inl rfl
  · split
    · exact mBes_rng hM.2.1 hM.2.2.2.1
    · exact .inl rfl
end Sm
