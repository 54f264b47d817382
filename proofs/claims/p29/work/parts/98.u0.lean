/-! THE REFERENCE's CONTRACTS: the knot, 1: numbers of knots, what is come to. -/
/-- the place of the k-th that moves -/
def mDg (s k : Nat) : Nat := if k = 0 then s % 37 else if k = 1 then s / 37 % 37 else s / 1369
def mBy (k : Nat) : Nat := if k = 0 then 1 else if k = 1 then 37 else 1369
/-- the CELL of a place -/
def mCe (W p : Nat) : Int := if p = 36 then -1 else ((p / W * 10 + p % W : Nat) : Int)
/-- the place of a CELL -/
def mPc (W : Nat) (c : Int) : Nat := if 0 ≤ c then c.toNat / 10 * W + c.toNat % 10 else 36
/-- a knot of m that move on so many CELLS -/
def mVs (A m s : Nat) : Prop := s < 50653 ∧ ∀ k, k < 3 → (k < m → mDg s k = 36 ∨ mDg s k < A) ∧ (m ≤ k → mDg s k = 36)
/-- how many of the first n that move are on a CELL, k apart -/
def mKn (W s k : Nat) (c : Int) : Nat → Nat
  | 0 => 0
  | n + 1 => mKn W s k c n + (if n ≠ k ∧ mCe W (mDg s n) = c then 1 else 0)
/-- the knot s' is come to from s by a STEP -/
def mSu (J : Nat → Nat → Int) (W m s s' mv : Nat) : Prop := ∃ k dir : Nat, k < m ∧ dir < 4 ∧ mv = 4 * k + dir ∧ mDg s k ≠ 36 ∧ 0 ≤ mStep J (mCe W (mDg s k)) (dir : Int) ∧ (mKn W s k (mStep J (mCe W (mDg s k)) (dir : Int)) m : Int) ≤ J 104 (210 + (mStep J (mCe W (mDg s k)) (dir : Int)).toNat) ∧ (s' : Int) = (s : Int) + (mBy k : Int) * (((if mStep J (mCe W (mDg s k)) (dir : Int) = J 104 (334 + (J 117 k).toNat) then 36 else mPc W (mStep J (mCe W (mDg s k)) (dir : Int)) : Nat) : Int) - (mDg s k : Int))
theorem mDg_37 {s k : Nat} (h : s < 50653) (hk : k < 3) : mDg s k < 37 := by
  unfold mDg
  split
  · omega
  · split <;> omega
theorem mDg_sum (s : Nat) : s = mDg s 0 * mBy 0 + mDg s 1 * mBy 1 + mDg s 2 * mBy 2 := by
  show s = s % 37 * 1 + s / 37 % 37 * 37 + s / 1369 * 1369
  omega
theorem mDg_of {a b c : Nat} (ha : a < 37) (hb : b < 37) : mDg (a + b * 37 + c * 1369) 0 = a ∧ mDg (a + b * 37 + c * 1369) 1 = b ∧ mDg (a + b * 37 + c * 1369) 2 = c := by
  refine ⟨?_, ?_, ?_⟩
  · show (a + b * 37 + c * 1369) % 37 = a
    omega
  · show (a + b * 37 + c * 1369) / 37 % 37 = b
    omega
  · show (a + b * 37 + c * 1369) / 1369 = c
    omega
/-- a place changed -/
theorem mDg_set {s k p : Nat} (hs : s < 50653) (hk : k < 3) (hp : p < 37) : ∃ s' : Nat, (s' : Int) = (s : Int) + (mBy k : Int) * ((p : Int) - (mDg s k : Int)) ∧ s' < 50653 ∧ mDg s' k = p ∧ ∀ q, q < 3 → q ≠ k → mDg s' q = mDg s q := by
  have h0 := mDg_37 hs (show 0 < 3 by omega)
  have h1 := mDg_37 hs (show 1 < 3 by omega)
  have h2 := mDg_37 hs (show 2 < 3 by omega)
  have hsum := mDg_sum s
  have b0 : mBy 0 = 1 := rfl
  have b1 : mBy 1 = 37 := rfl
  have b2 : mBy 2 = 1369 := rfl
  rw [b0, b1, b2] at hsum
  rcases (show k = 0 ∨ k = 1 ∨ k = 2 by omega) with rfl | rfl | rfl
  · have g := mDg_of (a := p) (b := mDg s 1) (c := mDg s 2) hp h1
    refine ⟨p + mDg s 1 * 37 + mDg s 2 * 1369, by rw [b0]; omega, by omega, g.1, fun q hq hne => ?_⟩
    rcases (show q = 1 ∨ q = 2 by omega) with rfl | rfl
    · exact g.2.1
    · exact g.2.2
  · have g := mDg_of (a := mDg s 0) (b := p) (c := mDg s 2) h0 hp
    refine ⟨mDg s 0 + p * 37 + mDg s 2 * 1369, by rw [b1]; omega, by omega, g.2.1, fun q hq hne => ?_⟩
    rcases (show q = 0 ∨ q = 2 by omega) with rfl | rfl
    · exact g.1
    · exact g.2.2
  · have g := mDg_of (a := mDg s 0) (b := mDg s 1) (c := p) h0 h1
    refine ⟨mDg s 0 + mDg s 1 * 37 + p * 1369, by rw [b2]; omega, by omega, g.2.2, fun q hq hne => ?_⟩
    rcases (show q = 0 ∨ q = 1 by omega) with rfl | rfl
    · exact g.1
    · exact g.2.1
/-- how many knots below n are come to -/
def mCt (g : Nat → Int) : Nat → Nat
  | 0 => 0
  | n + 1 => mCt g n + (if g n ≠ 0 then 1 else 0)
theorem mCt_le (g : Nat → Int) : ∀ n, mCt g n ≤ n := by
  intro n
  induction n with
  | zero => exact Nat.le_refl _
  | succ n ih => unfold mCt; split <;> omega
theorem mCt_lt {g : Nat → Int} {c : Nat} (hc : g c = 0) : ∀ n, c < n → mCt g n < n := by
  intro n
  induction n with
  | zero => intro h; omega
  | succ n ih =>
    intro h
    have := mCt_le g n
    unfold mCt
    by_cases e : c = n
    · subst e; rw [if_neg (by omega)]; omega
    · have := ih (by omega)
      split <;> omega
theorem mCt_up {g g' : Nat → Int} {c : Nat} (h1 : g c = 0) (h2 : g' c ≠ 0) (h3 : ∀ j, j ≠ c → g' j = g j) : ∀ n, mCt g' n = mCt g n + (if c < n then 1 else 0) := by
  intro n
  induction n with
  | zero => rfl
  | succ n ih =>
    show mCt g' n + _ = mCt g n + _ + _
    rw [ih]
    by_cases e : n = c
    · subst e; rw [if_pos h2, if_neg (c := g n ≠ 0) (by omega), if_neg (by omega), if_pos (by omega)]
    · rw [h3 n e]
      by_cases c1 : c < n
      · rw [if_pos c1, if_pos (c := c < n + 1) (by omega)]; omega
      · rw [if_neg c1, if_neg (c := c < n + 1) (by omega)]
        simp only [Nat.add_zero]
theorem mCt_zero {g : Nat → Int} : ∀ n, (∀ j, j < n → g j = 0) → mCt g n = 0 := by
  intro n
  induction n with
  | zero => intro _; rfl
  | succ n ih =>
    intro h
    show mCt g n + _ = 0
    rw [ih (fun j hj => h j (by omega)), if_neg (by rw [h n (by omega)]; omega)]
section Sm
variable {l : Launch} {D : va_G} {cy : Nat → ClassId} {z d bc bs N : Nat} {T : Nat → Nat × Nat} {R : Nat → Nat → Option Nat} {I : Nat → Nat → Int} {K : yKo}
theorem r_digit (hT : yLT T) (hR : yLR R) {s k : Nat} (hs : s < 50653) (hk : K (some (yi (mDg s k : Int))) (N, T, R, I)) : yW l zSS D cy zFk z d 171 bc bs K 0 0 0 [(0, yi (s : Int)), (1, yi (k : Int))] [] (N, T, R, I) := by
  unfold mDg at hk
  refine B_171_0 hT hR ⟨fun c0 => ⟨fun c1 => ?_, fun c1 => ?_⟩, fun c0 => ?_⟩
  · rw [if_neg (by omega), if_neg (by omega)] at hk
    rw [ydiv_eq (by omega) (by omega) (by omega) (by omega)]
    exact hk
  · rw [if_neg (by omega), if_pos (by omega)] at hk
    rw [ydiv_eq (by omega) (by omega) (by omega) (by omega), yrem_eq (by omega) (by omega) (by omega) (by omega)]
    exact hk
  · rw [if_pos (by omega)] at hk
    rw [yrem_eq (by omega) (by omega) (by omega) (by omega)]
    exact hk
theorem r_cellOf (hT : yLT T) (hR : yLR R) {W H p : Nat} (hW : I 104 0 = (W : Int)) (hw : W ≤ 10) (hA : W * H ≤ 36) (hp : p = 36 ∨ p < W * H) (hk : K (some (yi (mCe W p))) (N, T, R, I)) : yW l zSS D cy zFk z d 166 bc bs K 0 0 0 [(0, yr (some 102)), (1, yi (p : Int))] [] (N, T, R, I) := by
  unfold mCe at hk
  refine B_166_0 hT hR ⟨fun c => ?_, fun c => ?_⟩
  · have hlt : p < W * H := by omega
    have hW0 : 0 < W := by
      rcases Nat.eq_zero_or_pos W with e | e
      · rw [e, Nat.zero_mul] at hlt; omega
      · exact e
    rw [if_neg (by omega)] at hk
    have hd : p / W ≤ p := Nat.div_le_self p W
    have hm : p % W < W := Nat.mod_lt _ hW0
    rw [hW, ydiv_eq (by omega) (by omega) (by omega) (by omega), yrem_eq (by omega) (by omega) (by omega) (by omega)]
    rw [show (p : Int) / (W : Int) = ((p / W : Nat) : Int) from rfl, show (p : Int) % (W : Int) = ((p % W : Nat) : Int) from rfl]
    generalize p / W = a at *
    generalize p % W = b at *
    rw [ymul_eq (by omega) (by omega), yadd_eq (by omega) (by omega)]
    refine ⟨by omega, by omega, ?_⟩
    rw [show (a : Int) * 10 + (b : Int) = ((a * 10 + b : Nat) : Int) by omega]
    exact hk
  · rw [if_pos (by omega)] at hk
    exact hk
theorem r_placeOf (hT : yLT T) (hR : yLR R) {W : Nat} {c : Int} (hW : I 104 0 = (W : Int)) (hw : W ≤ 10) (hc : c < 100) (hk : K (some (yi (mPc W c : Int))) (N, T, R, I)) : yW l zSS D cy zFk z d 226 bc bs K 0 0 0 [(0, yr (some 102)), (1, yi c)] [] (N, T, R, I) := by
  unfold mPc at hk
  refine B_226_0 hT hR ⟨fun c0 => ?_, fun c0 => ?_⟩
  · rw [if_pos c0] at hk
    obtain ⟨q, rfl⟩ : ∃ q : Nat, c = (q : Int) := ⟨c.toNat, by omega⟩
    rw [show ((q : Int)).toNat = q by omega] at hk
    have h9 : q / 10 * W ≤ 9 * 10 := Nat.mul_le_mul (by omega) hw
    rw [hW, ydiv_eq (by omega) (by omega) (by omega) (by omega), yrem_eq (by omega) (by omega) (by omega) (by omega)]
    rw [show (q : Int) / 10 = ((q / 10 : Nat) : Int) from rfl, show (q : Int) % 10 = ((q % 10 : Nat) : Int) from rfl]
    have e1 : ((q / 10 : Nat) : Int) * (W : Int) = ((q / 10 * W : Nat) : Int) := rfl
    rw [ymul_eq (by rw [e1]; omega) (by rw [e1]; omega), e1, yadd_eq (by omega) (by omega)]
    rw [show ((q / 10 * W : Nat) : Int) + ((q % 10 : Nat) : Int) = ((q / 10 * W + q % 10 : Nat) : Int) from rfl]
    exact hk
  · rw [if_neg c0] at hk; exact hk
end Sm
