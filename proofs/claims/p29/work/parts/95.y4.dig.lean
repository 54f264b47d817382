/-! THE CLASS's KNOTS, 3: knots as numbers. -/
theorem c_mulc (a b : Nat) : ((a * b : Nat) : Int) = (a : Int) * (b : Int) := rfl
theorem c_divc (a b : Nat) : ((a / b : Nat) : Int) = (a : Int) / (b : Int) := rfl
theorem c_modc (a b : Nat) : ((a % b : Nat) : Int) = (a : Int) % (b : Int) := rfl
def cUn (B t : Nat) : Nat := if t = 0 then 1 else if t = 1 then B else B * B
def cM (B m : Nat) : Nat := if m = 0 then 1 else if m = 1 then B else if m = 2 then B * B else B * (B * B)
def cDg (B t x : Nat) : Nat := if t = 0 then x % B else if t = 1 then x / B % B else x / B / B % B
def cSt (A m x : Nat) : gSt := fun t => if t < m then cDg (A + 1) t x else A
theorem c_m {a b B : Nat} (h : a < B) : (a + B * b) % B = a := by rw [Nat.add_mul_mod_self_left, Nat.mod_eq_of_lt h]
theorem c_d {a b B : Nat} (h : a < B) : (a + B * b) / B = b := by rw [Nat.add_mul_div_left _ _ (by omega), Nat.div_eq_of_lt h, Nat.zero_add]
theorem c_lt {a r n B : Nat} (h : a < B) (hr : r < n) : a + B * r < B * n := by
  have h1 : B * (r + 1) ≤ B * n := Nat.mul_le_mul_left B hr
  rw [Nat.mul_succ] at h1
  omega
theorem cDg_lt {B t x : Nat} (hB : 0 < B) : cDg B t x < B := by
  unfold cDg
  split
  · exact Nat.mod_lt _ hB
  · split <;> exact Nat.mod_lt _ hB
theorem cDg_eq {B t x : Nat} (ht : t < 3) : cDg B t x = x / cUn B t % B := by
  unfold cDg cUn
  rcases (show t = 0 ∨ t = 1 ∨ t = 2 by omega) with rfl | rfl | rfl
  · rw [if_pos rfl, if_pos rfl, Nat.div_one]
  · rw [if_neg (by decide), if_pos rfl, if_neg (by decide), if_pos rfl]
  · rw [if_neg (by decide), if_neg (by decide), if_neg (by decide), if_neg (by decide), Nat.div_div_eq_div_mul]
theorem cUn_pos {B t : Nat} (hB : 0 < B) : 0 < cUn B t := by
  unfold cUn
  split
  · exact Nat.one_pos
  · split
    · exact hB
    · exact Nat.mul_pos hB hB
theorem cUn_le {B t : Nat} (h0 : 0 < B) (hB : B ≤ 37) : cUn B t ≤ 1369 := by
  unfold cUn
  split
  · omega
  · split
    · omega
    · exact Nat.mul_le_mul hB hB
theorem cM_le {B m : Nat} (hB : B ≤ 37) : cM B m ≤ 50653 := by
  have h2 : B * B ≤ 1369 := Nat.mul_le_mul hB hB
  have h3 : B * (B * B) ≤ 50653 := Nat.mul_le_mul hB h2
  unfold cM
  split
  · omega
  · split
    · omega
    · split <;> omega
theorem cM_pos {B m : Nat} (hB : 0 < B) : 0 < cM B m := by
  unfold cM
  split
  · omega
  · split
    · exact hB
    · split
      · exact Nat.mul_pos hB hB
      · exact Nat.mul_pos hB (Nat.mul_pos hB hB)
theorem cSt_v {A m x : Nat} (hm : m ≤ 3) : gV A (cSt A m x) := by
  refine ⟨fun t => ?_, fun t ht => ?_⟩
  · unfold cSt
    split
    · have := @cDg_lt (A + 1) t x (by omega); omega
    · exact Nat.le_refl _
  · unfold cSt; rw [if_neg (by omega)]
/-- a knot is its digits -/
theorem c_split {B x : Nat} : x = x % B + B * (x / B) := (Nat.mod_add_div x B).symm
theorem c_div_lt {B x n : Nat} (h : x < B * n) : x / B < n := Nat.div_lt_of_lt_mul h
theorem cDg_inj {B m x y : Nat} (hm : m ≤ 3) (hx : x < cM B m) (hy : y < cM B m) (h : ∀ t, t < m → cDg B t x = cDg B t y) : x = y := by
  have d0 : 0 < m → x % B = y % B := fun g => h 0 g
  have d1 : 1 < m → x / B % B = y / B % B := fun g => h 1 g
  have d2 : 2 < m → x / B / B % B = y / B / B % B := fun g => h 2 g
  have e0 := @c_split B x
  have f0 := @c_split B y
  have e1 := @c_split B (x / B)
  have f1 := @c_split B (y / B)
  rcases (show m = 0 ∨ m = 1 ∨ m = 2 ∨ m = 3 by omega) with rfl | rfl | rfl | rfl
  · have hx : x < 1 := hx
    have hy : y < 1 := hy
    omega
  · have hx : x < B := hx
    have hy : y < B := hy
    have := d0 (by decide)
    rw [Nat.mod_eq_of_lt hx, Nat.mod_eq_of_lt hy] at this
    exact this
  · have hx : x < B * B := hx
    have hy : y < B * B := hy
    have g1 := d1 (by decide)
    rw [Nat.mod_eq_of_lt (c_div_lt hx), Nat.mod_eq_of_lt (c_div_lt hy)] at g1
    rw [e0, f0, d0 (by decide), g1]
  · have hx : x < B * (B * B) := hx
    have hy : y < B * (B * B) := hy
    have g2 := d2 (by decide)
    rw [Nat.mod_eq_of_lt (c_div_lt (c_div_lt hx)), Nat.mod_eq_of_lt (c_div_lt (c_div_lt hy))] at g2
    have q : x / B = y / B := by rw [e1, f1, d1 (by decide), g2]
    rw [e0, f0, d0 (by decide), q]
theorem cSt_inj {A m x y : Nat} (hm : m ≤ 3) (hx : x < cM (A + 1) m) (hy : y < cM (A + 1) m) (h : cSt A m x = cSt A m y) : x = y := by
  refine cDg_inj hm hx hy (fun t ht => ?_)
  have := congrFun h t
  unfold cSt at this
  rw [if_pos ht, if_pos ht] at this
  exact this
/-- one of them moved -/
theorem c_set {B m x t v : Nat} (hm : m ≤ 3) (ht : t < m) (hv : v < B) : ∃ y, (x < cM B m → y < cM B m) ∧ (y : Int) = (x : Int) + ((v : Int) - (cDg B t x : Nat)) * (cUn B t : Nat) ∧ cDg B t y = v ∧ (∀ u, u < m → u ≠ t → cDg B u y = cDg B u x) ∧ (cM B m ≤ x → cM B m ≤ y) := by
  have hB : 0 < B := by omega
  have h0 : x % B < B := Nat.mod_lt _ hB
  have h1 : x / B % B < B := Nat.mod_lt _ hB
  have e0 := @c_split B x
  have e1 := @c_split B (x / B)
  have e2 := @c_split B (x / B / B)
  have h2 : x / B / B % B < B := Nat.mod_lt _ hB
  have ge1 : ∀ {a n : Nat}, B * n ≤ a → n ≤ a / B := fun {a n} h => (Nat.le_div_iff_mul_le hB).mpr (by rw [Nat.mul_comm]; exact h)
  have up : ∀ {a n r : Nat}, n ≤ r → B * n ≤ a + B * r := fun {a n r} h => Nat.le_trans (Nat.mul_le_mul_left B h) (Nat.le_add_left _ _)
  rcases (show t = 0 ∨ t = 1 ∨ t = 2 by omega) with rfl | rfl | rfl
  · refine ⟨v + B * (x / B), fun hx => ?_, ?_, c_m hv, fun u hu hne => ?_, fun hx => ?_⟩
    · rcases (show m = 1 ∨ m = 2 ∨ m = 3 by omega) with rfl | rfl | rfl
      · have hx : x < B := hx
        show v + B * (x / B) < B
        rw [Nat.div_eq_of_lt hx, Nat.mul_zero]; omega
      · exact c_lt hv (c_div_lt (show x < B * B from hx))
      · exact c_lt hv (c_div_lt (show x < B * (B * B) from hx))
    · show ((v + B * (x / B) : Nat) : Int) = (x : Int) + ((v : Int) - ((x % B : Nat) : Int)) * ((1 : Nat) : Int)
      omega
    · rcases (show u = 1 ∨ u = 2 by omega) with rfl | rfl
      · show (v + B * (x / B)) / B % B = x / B % B
        rw [c_d hv]
      · show (v + B * (x / B)) / B / B % B = x / B / B % B
        rw [c_d hv]
    · rcases (show m = 1 ∨ m = 2 ∨ m = 3 by omega) with rfl | rfl | rfl
      · have hx : B * 1 ≤ x := by rw [Nat.mul_one]; exact hx
        have := up (a := v) (ge1 hx)
        rw [Nat.mul_one] at this
        exact this
      · exact up (ge1 (show B * B ≤ x from hx))
      · exact up (ge1 (show B * (B * B) ≤ x from hx))
  · refine ⟨x % B + B * (v + B * (x / B / B)), fun hx => ?_, ?_, ?_, fun u hu hne => ?_, fun hx => ?_⟩
    · rcases (show m = 2 ∨ m = 3 by omega) with rfl | rfl
      · have hx : x < B * B := hx
        refine c_lt h0 ?_
        rw [Nat.div_eq_of_lt (c_div_lt hx), Nat.mul_zero]; omega
      · exact c_lt h0 (c_lt hv (c_div_lt (c_div_lt (show x < B * (B * B) from hx))))
    · show ((x % B + B * (v + B * (x / B / B)) : Nat) : Int) = (x : Int) + ((v : Int) - ((x / B % B : Nat) : Int)) * ((B : Nat) : Int)
      have ex : x = x % B + B * (x / B % B + B * (x / B / B)) := by rw [← e1]; exact e0
      have k1 : B * (v + B * (x / B / B)) = v * B + B * (B * (x / B / B)) := by rw [Nat.mul_add, Nat.mul_comm B v]
      have k2 : B * (x / B % B + B * (x / B / B)) = (x / B % B) * B + B * (B * (x / B / B)) := by rw [Nat.mul_add, Nat.mul_comm B (x / B % B)]
      rw [Int.sub_mul, ← c_mulc, ← c_mulc, k1]
      rw [k2] at ex
      omega
    · show (x % B + B * (v + B * (x / B / B))) / B % B = v
      rw [c_d h0, c_m hv]
    · rcases (show u = 0 ∨ u = 2 by omega) with rfl | rfl
      · exact c_m h0
      · show (x % B + B * (v + B * (x / B / B))) / B / B % B = x / B / B % B
        rw [c_d h0, c_d hv]
    · rcases (show m = 2 ∨ m = 3 by omega) with rfl | rfl
      · have g := ge1 (show B * B ≤ x from hx)
        have := up (a := v) (ge1 (show B * 1 ≤ x / B by rw [Nat.mul_one]; exact g))
        rw [Nat.mul_one] at this
        exact up this
      · exact up (up (ge1 (ge1 (show B * (B * B) ≤ x from hx))))
  · have m3 : m = 3 := by omega
    subst m3
    have e3 := @c_split B (x / B / B)
    refine ⟨x % B + B * (x / B % B + B * (v + B * (x / B / B / B))), fun hx => ?_, ?_, ?_, fun u hu hne => ?_, fun hx => ?_⟩
    · have h3 : x / B / B < B := c_div_lt (c_div_lt (show x < B * (B * B) from hx))
      refine c_lt h0 (c_lt h1 ?_)
      rw [Nat.div_eq_of_lt h3, Nat.mul_zero]; omega
    · show ((x % B + B * (x / B % B + B * (v + B * (x / B / B / B))) : Nat) : Int) = (x : Int) + ((v : Int) - ((x / B / B % B : Nat) : Int)) * ((B * B : Nat) : Int)
      have ex : x = x % B + B * (x / B % B + B * (x / B / B % B + B * (x / B / B / B))) := by rw [← e3, ← e1]; exact e0
      have k1 : ∀ w, B * (x / B % B + B * (w + B * (x / B / B / B))) = B * (x / B % B) + (w * (B * B) + B * (B * (B * (x / B / B / B)))) := fun w => by
        rw [Nat.mul_add, Nat.mul_add, Nat.mul_add, ← Nat.mul_assoc B B w, Nat.mul_comm (B * B) w]
      rw [Int.sub_mul, ← c_mulc, ← c_mulc, k1]
      rw [k1] at ex
      omega
    · show (x % B + B * (x / B % B + B * (v + B * (x / B / B / B)))) / B / B % B = v
      rw [c_d h0, c_d h1, c_m hv]
    · rcases (show u = 0 ∨ u = 1 by omega) with rfl | rfl
      · exact c_m h0
      · show (x % B + B * (x / B % B + B * (v + B * (x / B / B / B)))) / B % B = x / B % B
        rw [c_d h0, c_m h1]
    · have g := ge1 (ge1 (show B * (B * B) ≤ x from hx))
      have := up (a := v) (ge1 (show B * 1 ≤ x / B / B by rw [Nat.mul_one]; exact g))
      rw [Nat.mul_one] at this
      exact up (up this)
theorem cSt_set {A m x y t v : Nat} (ht : t < m) (h1 : cDg (A + 1) t y = v) (h2 : ∀ u, u < m → u ≠ t → cDg (A + 1) u y = cDg (A + 1) u x) : cSt A m y = gUp (cSt A m x) t v := by
  funext u
  by_cases e : u = t
  · subst e
    rw [gUp_same]
    unfold cSt
    rw [if_pos ht]; exact h1
  · rw [gUp_ne _ _ e]
    unfold cSt
    by_cases hu : u < m
    · rw [if_pos hu, if_pos hu]; exact h2 u hu e
    · rw [if_neg hu, if_neg hu]
/-- the last knot: all are gone -/
theorem cSt_end {A m : Nat} (hm : m ≤ 3) : cM (A + 1) m - 1 < cM (A + 1) m ∧ cSt A m (cM (A + 1) m - 1) = gEnd A := by
  have hp := @cM_pos (A + 1) m (by omega)
  refine ⟨by omega, ?_⟩
  have key : ∃ y, y < cM (A + 1) m ∧ (∀ t, t < m → cDg (A + 1) t y = A) ∧ y + 1 = cM (A + 1) m := by
    have hA : A < A + 1 := by omega
    rcases (show m = 0 ∨ m = 1 ∨ m = 2 ∨ m = 3 by omega) with rfl | rfl | rfl | rfl
    · exact ⟨0, Nat.one_pos, fun t ht => absurd ht (by omega), rfl⟩
    · refine ⟨A, hA, fun t ht => ?_, rfl⟩
      have : t = 0 := by omega
      subst this
      exact Nat.mod_eq_of_lt hA
    · refine ⟨A + (A + 1) * A, c_lt hA hA, fun t ht => ?_, ?_⟩
      · rcases (show t = 0 ∨ t = 1 by omega) with rfl | rfl
        · exact c_m hA
        · show (A + (A + 1) * A) / (A + 1) % (A + 1) = A
          rw [c_d hA, Nat.mod_eq_of_lt hA]
      · show A + (A + 1) * A + 1 = (A + 1) * (A + 1)
        rw [Nat.mul_succ]; omega
    · refine ⟨A + (A + 1) * (A + (A + 1) * A), c_lt hA (c_lt hA hA), fun t ht => ?_, ?_⟩
      · rcases (show t = 0 ∨ t = 1 ∨ t = 2 by omega) with rfl | rfl | rfl
        · exact c_m hA
        · show (A + (A + 1) * (A + (A + 1) * A)) / (A + 1) % (A + 1) = A
          rw [c_d hA, c_m hA]
        · show (A + (A + 1) * (A + (A + 1) * A)) / (A + 1) / (A + 1) % (A + 1) = A
          rw [c_d hA, c_d hA, Nat.mod_eq_of_lt hA]
      · show A + (A + 1) * (A + (A + 1) * A) + 1 = (A + 1) * ((A + 1) * (A + 1))
        have e : (A + 1) * (A + 1) = A + (A + 1) * A + 1 := by rw [Nat.mul_succ]; omega
        rw [e, Nat.mul_succ]; omega
  obtain ⟨y, y1, y2, y3⟩ := key
  rw [show cM (A + 1) m - 1 = y by omega]
  funext t
  unfold cSt gEnd
  split
  · exact y2 t (by assumption)
  · rfl
