/-! THE WHOLE HEAP between two calls of the law (printed by wip/whole/y/gen200.py) -/
/-- the tape is the same; the reference's WORDS -/
def wTp (I : Nat → Nat → Int) : Prop := I 1 1 = I 102 2 ∧ (∀ j : Nat, (j : Int) < I 102 2 → I 2 j = I 103 j ∧ -128 ≤ I 103 j ∧ I 103 j < 128) ∧ ∀ i, i < 24 → I 108 i = rCd i
/-- the class's cells, the reference's, and how they go together; ns: how long the UNTIER's marks are; cell 126: the law's row of one long -/
def wInv (N : Nat) (T : Nat → Nat × Nat) (R : Nat → Nat → Option Nat) (I : Nat → Nat → Int) (ns : Nat) : Prop :=
  cInv N T R I ns ∧ uInv I ∧ wTp I ∧ (∀ i : Nat, i < 2 → (R 101 i = none ↔ I 125 i = 0)) ∧ T 126 = (2, 1) ∧ 127 ≤ N
section Wi
variable {N ns : Nat} {T : Nat → Nat × Nat} {R : Nat → Nat → Option Nat} {I : Nat → Nat → Int}
theorem cInv_cg {I' : Nat → Nat → Int} (h : cInv N T R I ns) (f : ∀ k j, (k < 102 ∨ (126 ≤ k ∧ (T k).1 = 11)) → I' k j = I k j) : cInv N T R I' ns := by
  obtain ⟨a, b, c, e, g, i, m, n, o, p⟩ := h
  refine ⟨a, b, c, e, g, cHk_cg i (f 89 1 (.inl (by decide))), m, cIl_cg m n (fun _ _ => rfl) (fun k j h1 _ h2 => f k j (.inr ⟨h1, h2⟩)), by rw [f 1 1 (.inl (by decide))]; exact o, ?_⟩
  unfold cLd
  rw [f 4 0 (.inl (by decide)), f 4 1 (.inl (by decide))]
  exact p
theorem uInv_cg {I' : Nat → Nat → Int} (h : uInv I) (f : ∀ k j, 102 ≤ k → k < 126 → I' k j = I k j) : uInv I' := by
  have e := fun j => f 104 j (by decide) (by decide)
  have e2 := f 102 2 (by decide) (by decide)
  have e42 := f 102 42 (by decide) (by decide)
  have e14 := f 102 14 (by decide) (by decide)
  refine uInv_k h (fun j _ => e j) (mPl_lt h.1.1.2.2.1 (fun j _ _ => e j)) (mCo_lt h.1.1.2.2.2 (fun j _ _ => e j)) (fun i hi => ?_) (fun j => f _ j (by decide) (by decide)) (f _ _ (by decide) (by decide)) (fun j => f _ j (by decide) (by decide)) (fun j => f _ j (by decide) (by decide)) (by rw [e2]; exact h.2.2.2.1) (by rw [e42]; exact h.2.2.2.2.1) (by rw [e14]; exact h.2.2.2.2.2.1) (fun j hj => ?_)
  · rw [f 111 i (by decide) (by decide), f 112 i (by decide) (by decide)]
    exact h.1.1.1.2.2.2.2.2.2 i hi
  · rw [f 122 j (by decide) (by decide)]
    exact h.2.2.2.2.2.2 j hj
variable {N' ns' : Nat} {T' : Nat → Nat × Nat} {R' : Nat → Nat → Option Nat} {I' I'' : Nat → Nat → Int}
/-- behind a call of the class and one of the reference -/
theorem w_cu {L L' : Int} (h : wInv N T R I ns) (hc : cPo N T R I N' T' R' I' ns' L) (hu : uPo I' I'' L') (hL : L = L') (hb : ∀ j : Nat, (j : Int) < L → ¬ (j : Int) < I 1 1 → I'' 2 j = I'' 103 j ∧ -128 ≤ I'' 103 j ∧ I'' 103 j < 128) : wInv N' T' R' I'' ns' := by
  obtain ⟨h1, h2, ⟨h3, ht, hw⟩, h4, h5, h6⟩ := h
  obtain ⟨c1, c2, c3, c4, c5, c6⟩ := hc
  obtain ⟨u1, u2, u3, u4, u5, u6⟩ := hu
  have n := c2.1
  refine ⟨cInv_cg c1 (fun k j g => u2 k j (g.imp_right And.left)), u1, ⟨?_, fun j hj => ?_, fun i hi => ?_⟩, fun i hi => ?_, ?_, by omega⟩
  · rw [u2 1 1 (.inl (by decide)), c4, u3]; exact hL
  · rw [u3] at hj
    by_cases g : (j : Int) < I 1 1
    · rw [u2 2 j (.inl (by decide)), c6 j g, u5 j (by rw [c3 102 2 (by decide) (by decide), ← h3]; exact g), c3 103 j (by decide) (by decide)]
      exact ht j (by rw [← h3]; exact g)
    · exact hb j (by rw [hL]; exact hj) g
  · rw [u6, c3 108 i (by decide) (by decide)]; exact hw i hi
  · rw [c5 i hi, u4 i hi, c3 125 i (by decide) (by decide)]; exact h4 i hi
  · rw [c2.2 126 (by omega)]; exact h5
/-- what FEED adds -/
theorem w_fd {L L' : Int} {B : Nat → Int} (h : wInv N T R I ns) (hc : cPo N T R I N' T' R' I' ns' L) (hu : uPo I' I'' L') (hL : L = L') (hl : L = I 1 1 ∨ L = I 1 1 + 20) (q : L = I 1 1 + 20 → ∀ q, q < 20 → I' 2 ((I 1 1).toNat + q) = B q) (u : L' = I' 102 2 + 20 → ∀ q, q < 20 → I'' 103 ((I' 102 2).toNat + q) = B q) (hB : ∀ q, -128 ≤ B q ∧ B q < 128) :
    ∀ j : Nat, (j : Int) < L → ¬ (j : Int) < I 1 1 → I'' 2 j = I'' 103 j ∧ -128 ≤ I'' 103 j ∧ I'' 103 j < 128 := by
  intro j h1 h2
  have h3 := h.2.2.1.1
  have e2 : I' 102 2 = I 102 2 := hc.2.2.1 102 2 (by decide) (by decide)
  have n0 := h.1.2.2.2.2.2.2.2.2.1
  have l20 : L = I 1 1 + 20 := by omega
  have a := q l20 (j - (I 1 1).toNat) (by omega)
  have b := u (by omega) (j - (I 1 1).toNat) (by omega)
  rw [show (I 1 1).toNat + (j - (I 1 1).toNat) = j by omega] at a
  rw [show (I' 102 2).toNat + (j - (I 1 1).toNat) = j by omega] at b
  rw [hu.2.1 2 j (.inl (by decide)), a, b]
  exact ⟨rfl, hB _⟩
/-- behind images -/
theorem w_im (h : wInv N T R I ns) (c1 : cInv N' T' R' I' ns) (c2 : N ≤ N' ∧ ∀ k, k < N → T' k = T k) (c3 : ∀ k j, 102 ≤ k → k < 126 → I' k j = I k j) (c4 : I' 1 1 = I 1 1) (c6 : ∀ j, I' 2 j = I 2 j) (u1 : uInv I'') (u2 : ∀ k j, (k < 102 ∨ 126 ≤ k) → I'' k j = I' k j) (u3 : I'' 102 2 = I' 102 2) (u5 : ∀ j, I'' 103 j = I' 103 j ∧ I'' 108 j = I' 108 j) {x r r2 : Int}
    (hc : (r = 1 ∧ 0 ≤ x ∧ x < 2 ∧ R' 101 x.toNat ≠ none ∧ ∀ i, i < 2 → i ≠ x.toNat → R' 101 i = R 101 i) ∨ (r = 0 ∧ ¬ (0 ≤ x ∧ x < 2) ∧ ∀ i, R' 101 i = R 101 i))
    (hu : (r2 = 1 ∧ 0 ≤ x ∧ x ≤ 1 ∧ ∀ j, I'' 125 j = if j = x.toNat then 1 else I' 125 j) ∨ (r2 = 0 ∧ ¬ (0 ≤ x ∧ x ≤ 1) ∧ ∀ j, I'' 125 j = I' 125 j)) : r = r2 ∧ wInv N' T' R' I'' ns := by
  obtain ⟨h1, h2, ⟨h3, ht, hw⟩, h4, h5, h6⟩ := h
  have n := c2.1
  refine ⟨by omega, cInv_cg c1 (fun k j g => u2 k j (g.imp_right And.left)), u1, ⟨?_, fun j hj => ?_, fun i hi => ?_⟩, fun i hi => ?_, ?_, by omega⟩
  · rw [u2 1 1 (.inl (by decide)), c4, u3, c3 102 2 (by decide) (by decide)]; exact h3
  · rw [u3, c3 102 2 (by decide) (by decide)] at hj
    rw [u2 2 j (.inl (by decide)), c6, (u5 j).1, c3 103 j (by decide) (by decide)]
    exact ht j hj
  · rw [(u5 i).2, c3 108 i (by decide) (by decide)]; exact hw i hi
  · have e := c3 125 i (by decide) (by decide)
    rcases hc with ⟨_, a1, a2, a3, a4⟩ | ⟨_, a1, a2⟩
    · rcases hu with ⟨_, b1, b2, b3⟩ | ⟨_, b1, b2⟩
      · rw [b3 i]
        by_cases g : i = x.toNat
        · rw [if_pos g, g]
          exact ⟨fun q => absurd q a3, fun q => by cases q⟩
        · rw [if_neg g, a4 i hi g, e]
          exact h4 i hi
      · exact absurd ⟨a1, by omega⟩ b1
    · rcases hu with ⟨_, b1, b2, b3⟩ | ⟨_, b1, b2⟩
      · exact absurd ⟨b1, by omega⟩ a1
      · rw [a2 i, b2 i, e]
        exact h4 i hi
  · rw [c2.2 126 (by omega)]; exact h5
/-- restore answers alike -/
theorem w_re {L : Int} (h : wInv N T R I ns) (hc : cPo N T R I N' T' R' I' ns' L) {x r r2 : Int}
    (q : (r = 0 ∧ ¬ (0 ≤ x ∧ x < 2 ∧ R 101 x.toNat ≠ none)) ∨ (r = 1 ∧ (0 ≤ x ∧ x < 2 ∧ R 101 x.toNat ≠ none)))
    (u : (r2 = 0 ∧ ¬ (0 ≤ x ∧ x ≤ 1 ∧ I' 125 x.toNat ≠ 0)) ∨ (r2 = 1 ∧ (0 ≤ x ∧ x ≤ 1 ∧ I' 125 x.toNat ≠ 0))) : r = r2 := by
  have e := hc.2.2.1 125 x.toNat (by decide) (by decide)
  rw [e] at u
  rcases q with ⟨q1, q2⟩ | ⟨q1, a, b, c⟩
  · rcases u with ⟨u1, _⟩ | ⟨u1, a, b, c⟩
    · omega
    · exact absurd ⟨a, by omega, fun g => c ((h.2.2.2.1 x.toNat (by omega)).mp g)⟩ q2
  · rcases u with ⟨u1, u2⟩ | ⟨u1, _⟩
    · exact absurd ⟨a, by omega, fun g => c ((h.2.2.2.1 x.toNat (by omega)).mpr g)⟩ u2
    · omega
/-- the law's row of one long, and what the reference keeps, changed -/
theorem w_ou {L' : Int} (h : wInv N T R I ns) (f : ∀ k j, k ≠ 126 → I' k j = I k j) (hu : uPo I' I'' L') (hL : L' = I' 102 2) : wInv N T R I'' ns := by
  obtain ⟨h1, h2, ⟨h3, ht, hw⟩, h4, h5, h6⟩ := h
  obtain ⟨u1, u2, u3, u4, u5, u6⟩ := hu
  refine ⟨cInv_cg h1 (fun k j g => ?_), u1, ⟨?_, fun j hj => ?_, fun i hi => ?_⟩, fun i hi => ?_, h5, h6⟩
  · rw [u2 k j (g.imp_right And.left)]
    refine f k j (fun q => ?_)
    subst q
    rcases g with g | g
    · omega
    · rw [h5] at g; exact absurd g.2 (by decide)
  · rw [u2 1 1 (.inl (by decide)), u3, hL, f 1 1 (by decide), f 102 2 (by decide)]; exact h3
  · rw [u3, hL] at hj
    rw [u2 2 j (.inl (by decide)), u5 j hj, f 2 j (by decide), f 103 j (by decide)]
    exact ht j (by rw [← f 102 2 (by decide)]; exact hj)
  · rw [u6, f 108 i (by decide)]; exact hw i hi
  · rw [u4 i hi, f 125 i (by decide)]; exact h4 i hi
end Wi
/-! how many slots the UNTIER's marks may still take -/
def gVl : List Nat := (List.range 37).flatMap (fun s => [1, s + 1, (s + 1) * (s + 1), (s + 1) * ((s + 1) * (s + 1))])
def gPt (ns : Nat) : Nat := 2 * (gVl.filter (fun v => decide (ns < v))).sum
theorem gPt_le {ns n : Nat} (h : ns ≤ n) : ∀ l : List Nat, (l.filter (fun v => decide (n < v))).sum ≤ (l.filter (fun v => decide (ns < v))).sum := by
  intro l
  induction l with
  | nil => exact Nat.le_refl _
  | cons a t ih =>
    rw [List.filter_cons, List.filter_cons]
    by_cases g : n < a
    · rw [if_pos (by simpa using g), if_pos (by simpa using (show ns < a by omega)), List.sum_cons, List.sum_cons]; omega
    · rw [if_neg (by simpa using g)]
      split
      · rw [List.sum_cons]; omega
      · exact ih
theorem gPt_in {ns n : Nat} (h : ns < n) : ∀ l : List Nat, n ∈ l → (l.filter (fun v => decide (n < v))).sum + n ≤ (l.filter (fun v => decide (ns < v))).sum := by
  intro l
  induction l with
  | nil => intro g; cases g
  | cons a t ih =>
    intro g
    rw [List.filter_cons, List.filter_cons]
    by_cases e : n = a
    · subst e
      rw [if_neg (by simp), if_pos (by simpa using h), List.sum_cons]
      have := gPt_le (Nat.le_of_lt h) t
      omega
    · have g2 : n ∈ t := (List.mem_cons.mp g).resolve_left e
      have i := ih g2
      by_cases g : n < a
      · rw [if_pos (by simpa using g), if_pos (by simpa using (show ns < a by omega)), List.sum_cons, List.sum_cons]; omega
      · rw [if_neg (by simpa using g)]
        split
        · rw [List.sum_cons]; omega
        · exact i
theorem gPt_gr {ns n : Nat} (hn : n ∈ gVl) (h : ns < n) : gPt n + 2 * n ≤ gPt ns := by
  have := gPt_in h gVl hn
  unfold gPt
  omega
theorem gPt_0 : gPt 0 ≤ 1100000 := by decide +kernel
theorem cKt_mem (I : Nat → Nat → Int) : cKt I = 0 ∨ cKt I ∈ gVl := by
  unfold cKt
  split
  · rename_i h
    right
    generalize (I 4 0).toNat * (I 4 1).toNat = A at *
    generalize cOt I (cNc I) = m at *
    refine List.mem_flatMap.mpr ⟨A, List.mem_range.mpr (by omega), ?_⟩
    unfold cM
    split
    · exact List.mem_cons_self
    split
    · exact List.mem_cons_of_mem _ List.mem_cons_self
    split
    · exact List.mem_cons_of_mem _ (List.mem_cons_of_mem _ List.mem_cons_self)
    · exact List.mem_cons_of_mem _ (List.mem_cons_of_mem _ (List.mem_cons_of_mem _ List.mem_cons_self))
  · exact .inl rfl
theorem gPt_kt {ns : Nat} (I : Nat → Nat → Int) : (if ns < cKt I then 2 * cKt I else 0) ≤ gPt ns ∧ (ns < cKt I → gPt (cKt I) + 2 * cKt I ≤ gPt ns) := by
  by_cases h : ns < cKt I
  · have g := gPt_gr ((cKt_mem I).resolve_left (by omega)) h
    rw [if_pos h]
    exact ⟨by omega, fun _ => g⟩
  · rw [if_neg h]
    exact ⟨Nat.zero_le _, fun q => absurd q h⟩
