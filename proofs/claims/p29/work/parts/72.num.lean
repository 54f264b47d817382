/-! NUMBERS: what the machine's sums are where nothing wraps -/
theorem y_bm {x : Int} (h1 : -2147483648 ≤ x) (h2 : x < 2147483648) : x.bmod 4294967296 = x := by
  rw [Int.bmod_def]
  split <;> omega
theorem y32_in {x : Int} (h1 : -2147483648 ≤ x) (h2 : x < 2147483648) : (y32 x).toInt = x := by
  have : (Int32.ofInt x).toInt = x.bmod (2 ^ 32) := Int32.toInt_ofInt
  show (Int32.ofInt x).toInt = x
  rw [this]
  exact y_bm h1 h2
theorem yadd_eq {x y : Int} (h1 : -2147483648 ≤ x + y) (h2 : x + y < 2147483648) : yadd x y = x + y := by
  unfold yadd y32
  rw [← Int32.ofInt_add]
  exact y32_in h1 h2
theorem ysub_eq {x y : Int} (h1 : -2147483648 ≤ x - y) (h2 : x - y < 2147483648) : ysub x y = x - y := by
  unfold ysub y32
  rw [← Int32.ofInt_sub]
  exact y32_in h1 h2
theorem ymul_eq {x y : Int} (h1 : -2147483648 ≤ x * y) (h2 : x * y < 2147483648) : ymul x y = x * y := by
  unfold ymul y32
  rw [← Int32.ofInt_mul]
  exact y32_in h1 h2
theorem ynar1_eq {x : Int} (h1 : -2147483648 ≤ x) (h2 : x < 2147483648) : ynar 1 x = x := y32_in h1 h2
theorem ydiv_eq {x y : Int} (h0 : 0 ≤ x) (h1 : x < 2147483648) (h2 : 0 < y) (h3 : y < 2147483648) : ydiv x y = x / y := by
  unfold ydiv
  have e : (y32 x / y32 y).toInt = ((y32 x).toInt.tdiv (y32 y).toInt).bmod (2 ^ 32) := Int32.toInt_div _ _
  rw [e, y32_in (by omega) h1, y32_in (by omega) h3, Int.tdiv_eq_ediv_of_nonneg h0]
  have g1 : 0 ≤ x / y := Int.ediv_nonneg h0 (by omega)
  have g2 : x / y ≤ x := Int.ediv_le_self y h0
  exact y_bm (by omega) (by omega)
theorem yrem_eq {x y : Int} (h0 : 0 ≤ x) (h1 : x < 2147483648) (h2 : 0 < y) (h3 : y < 2147483648) : yrem x y = x % y := by
  have e1 : yrem x y = ysub x (ymul (ydiv x y) y) := by
    unfold yrem ysub ymul ydiv
    rw [y32_to, y32_to]
  have g1 : 0 ≤ x / y := Int.ediv_nonneg h0 (by omega)
  have g2 : x / y * y ≤ x := Int.ediv_mul_le x (by omega)
  have g3 : 0 ≤ x / y * y := Int.mul_nonneg g1 (by omega)
  rw [e1, ydiv_eq h0 h1 h2 h3, ymul_eq (by omega) (by omega), ysub_eq (by omega) (by omega), Int.emod_def, Int.mul_comm]
theorem yU_eq (I : Nat → Nat → Int) (k j : Nat) (v : Int) : yU I k j v k j = v := if_pos ⟨rfl, rfl⟩
theorem yU_ne (I : Nat → Nat → Int) {k j k' j' : Nat} (v : Int) (h : ¬ (k' = k ∧ j' = j)) : yU I k j v k' j' = I k' j' := if_neg h
theorem ySw_out {low x : Int} {tg : List Nat} {nx n : Nat} (hn : tg.length = n) (h : x < low ∨ low + (n : Int) ≤ x) : ySw low tg nx x = nx := by
  unfold ySw
  split
  · rw [List.getD, List.getElem?_eq_none (by omega)]; rfl
  · rfl
/-! what is so of every number that the machine holds -/
section Sy
variable {l : Launch} {S : zS} {D : va_G} {cy : Nat → ClassId} {Fk : Nat → Nat → Nat} {z : Nat} {d mi bc bs nc ns pc : Nat} {lo : yL} {st : List yV} {h : yHp} {K : yKo}
theorem y_rng (i : Int32) : -2147483648 ≤ i.toInt ∧ i.toInt < 2147483648 := ⟨i.le_toInt, i.toInt_lt⟩
/-- an int in a local is one -/
theorem e_li {i : Nat} {x : Int} (hx : yLd lo i = some (yi x)) (hk : -2147483648 ≤ x → x < 2147483648 → yW l S D cy Fk z d mi bc bs K nc ns pc lo st h) : yW l S D cy Fk z d mi bc bs K nc ns pc lo st h := by
  intro p e s m args below meth c C ad0 n0 ad hA hN hB H locs ls lv vs ws hR hP hD hS hl hlo hst
  obtain ⟨k, v, hkv, i0, rfl, hi⟩ := yGl_at hlo hx
  have g := y_rng i0
  rw [hi] at g
  exact hk g.1 g.2 p e s m args below meth c C ad0 n0 ad hA hN hB H locs ls lv vs ws hR hP hD hS hl hlo hst
/-- an int in a row is one -/
theorem e_ri {k n j : Nat} {c0 : Nat} (ht : yTy h k = (c0, n)) (hc : c0 = 0 ∨ c0 = 1 ∨ c0 = 3) (hj : j < n) (hkh : k < h.1) (hk : -2147483648 ≤ yI h k j → yI h k j < 2147483648 → yW l S D cy Fk z d mi bc bs K nc ns pc lo st h) : yW l S D cy Fk z d mi bc bs K nc ns pc lo st h := by
  intro p e s m args below meth c C ad0 n0 ad hA hN hB H locs ls lv vs ws hR hP hD hS hl hlo hst
  obtain ⟨ee, he, hge⟩ := hR.2.2 k hkh
  obtain ⟨f, _, f2⟩ := hge.1 (by rw [ht]; exact hc)
  rw [ht] at f2
  have g := y_rng (f j)
  rw [f2 j hj] at g
  exact hk g.1 g.2 p e s m args below meth c C ad0 n0 ad hA hN hB H locs ls lv vs ws hR hP hD hS hl hlo hst
end Sy
