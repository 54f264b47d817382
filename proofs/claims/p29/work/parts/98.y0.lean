/-! THE REFERENCE's CONTRACTS: ROOM is kept, 1. -/
/-- at most ROOM and 1 more stand on a CELL -/
def mRo (I : Nat → Nat → Int) : Prop := ∀ c : Int, 0 ≤ c → c < 100 → mOn I c (I 104 2).toNat ≤ 1 + I 104 (210 + c.toNat)
theorem mOn_cg {I I' : Nat → Nat → Int} {c : Int} : ∀ n, (∀ q, q < n → I' 104 (470 + q) = I 104 (470 + q)) → mOn I' c n = mOn I c n := by
  intro n
  induction n with
  | zero => intro _; rfl
  | succ n ih =>
    intro h
    show mOn I' c n + _ = mOn I c n + _
    rw [ih (fun q hq => h q (by omega)), h n (by omega)]
/-- one of them goes from a to v -/
theorem mOn_mv {I I' : Nat → Nat → Int} {c : Int} {k : Nat} (h : ∀ q, q ≠ k → I' 104 (470 + q) = I 104 (470 + q)) : ∀ n, mOn I' c n = mOn I c n + (if k < n then (if I' 104 (470 + k) = c then 1 else 0) - (if I 104 (470 + k) = c then 1 else 0) else 0) := by
  intro n
  induction n with
  | zero => rw [if_neg (Nat.not_lt_zero k)]; rfl
  | succ n ih =>
    show mOn I' c n + (if I' 104 (470 + n) = c then 1 else 0) = mOn I c n + (if I 104 (470 + n) = c then 1 else 0) + _
    rw [ih]
    by_cases e : k = n
    · subst e
      rw [if_neg (Nat.lt_irrefl k), if_pos (Nat.lt_succ_self k)]
      omega
    · rw [h n (fun q => e q.symm)]
      by_cases c1 : k < n
      · rw [if_pos c1, if_pos (show k < n + 1 by omega)]; omega
      · rw [if_neg c1, if_neg (show ¬ k < n + 1 by omega)]; omega
theorem mRo_eq {I I' : Nat → Nat → Int} (h : mRo I) (h8 : I 104 2 ≤ 8) (h1 : ∀ j, j < 458 ∨ (470 ≤ j ∧ j < 478) → I' 104 j = I 104 j) : mRo I' := fun c c0 c1 => by
  rw [h1 2 (by omega), h1 (210 + c.toNat) (by omega), mOn_cg (I := I) _ (fun q hq => h1 _ (by omega))]
  exact h c c0 c1
theorem mRo_set {I : Nat → Nat → Int} (h : mRo I) (h8 : I 104 2 ≤ 8) {j : Nat} {v : Int} (h1 : 458 ≤ j) (h2 : j < 926) (h3 : 470 ≤ j → j < 478 → v < 0 ∨ mOn I v (I 104 2).toNat < 1 + I 104 (210 + v.toNat)) : mRo (yU I 104 j v) := by
  by_cases e : 470 ≤ j ∧ j < 478
  · intro c c0 c1
    obtain ⟨k, rfl⟩ : ∃ k, j = 470 + k := ⟨j - 470, by omega⟩
    have g := mOn_mv (I := I) (I' := yU I 104 (470 + k) v) (c := c) (k := k) (fun q hq => yU_ne _ _ (by omega)) (I 104 2).toNat
    rw [yU_eq] at g
    rw [yU_ne _ _ (by omega), yU_ne _ _ (by omega), g]
    have hc := h c c0 c1
    have h3 := h3 (by omega) (by omega)
    by_cases ev : v = c
    · subst ev
      rw [if_pos rfl]
      split
      · split <;> omega
      · omega
    · rw [if_neg ev]
      split
      · split <;> omega
      · omega
  · exact mRo_eq h h8 (fun i hi => yU_ne _ _ (by omega))
theorem mRo_fld {I : Nat → Nat → Int} (h : mRo I) (h8 : I 104 2 ≤ 8) (k j : Nat) (v : Int) (hk : k ≠ 104) : mRo (yU I k j v) := mRo_eq h h8 (fun i _ => yU_ne _ _ (by omega))
theorem mOn_ge1 {I : Nat → Nat → Int} {c : Int} {a : Nat} (h : I 104 (470 + a) = c) : ∀ n, a < n → 1 ≤ mOn I c n := by
  intro n
  induction n with
  | zero => intro q; omega
  | succ n ih =>
    intro q
    show 1 ≤ mOn I c n + _
    have r := mOn_rng I c n
    by_cases e : a = n
    · subst e; rw [if_pos h]; omega
    · have := ih (by omega)
      split <;> omega
theorem mOn_ge2 {I : Nat → Nat → Int} {c : Int} {a b : Nat} (h : I 104 (470 + a) = c) (h' : I 104 (470 + b) = c) (ab : a < b) : ∀ n, b < n → 2 ≤ mOn I c n := by
  intro n
  induction n with
  | zero => intro q; omega
  | succ n ih =>
    intro q
    show 2 ≤ mOn I c n + _
    by_cases e : b = n
    · subst e
      have := mOn_ge1 h b ab
      rw [if_pos h']; omega
    · have := ih (by omega)
      split <;> omega
theorem mOn_ge3 {I : Nat → Nat → Int} {c : Int} {a b d : Nat} (h : I 104 (470 + a) = c) (h' : I 104 (470 + b) = c) (h'' : I 104 (470 + d) = c) (ab : a < b) (bd : b < d) : ∀ n, d < n → 3 ≤ mOn I c n := by
  intro n
  induction n with
  | zero => intro q; omega
  | succ n ih =>
    intro q
    show 3 ≤ mOn I c n + _
    by_cases e : d = n
    · subst e
      have := mOn_ge2 h h' ab d bd
      rw [if_pos h'']; omega
    · have := ih (by omega)
      split <;> omega
theorem mRm_of {I : Nat → Nat → Int} (hI : mInv I) (h : mRo I) : mRm I := by
  have c100 : ∀ a : Nat, a < 8 → I 104 (470 + a) < 100 := fun a ha => (mInv_at hI (hI.2.2.2.2.2.1 a ha).1).2
  refine ⟨fun a b ab b8 bn a0 e => ?_, fun a b c ab bc c8 cn a0 e1 e2 => ?_⟩
  · have c1 := c100 a (by omega)
    have g := h _ a0 c1
    have r := hI.2.2.1 (I 104 (470 + a)).toNat (by omega)
    have := mOn_ge2 (I := I) (c := I 104 (470 + a)) rfl e.symm ab (I 104 2).toNat (by omega)
    omega
  · have c1 := c100 a (by omega)
    have g := h _ a0 c1
    have r := hI.2.2.1 (I 104 (470 + a)).toNat (by omega)
    have := mOn_ge3 (I := I) (c := I 104 (470 + a)) rfl e1.symm (by rw [← e2, ← e1]) ab bc (I 104 2).toNat (by omega)
    omega
