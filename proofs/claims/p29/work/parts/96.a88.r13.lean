/-! THE REFERENCE's CONTRACTS, 13: short answers: FAULT, THROWN, MET, ORDER, NEXT, COUNT. -/
theorem mSc_wy {I I' : Nat → Nat → Int} (h : mWy I I') : mSc I I' := fun k j a b _ _ _ _ => h k j a b
theorem mSc_fo {I I' : Nat → Nat → Int} (h : mFo I I') : mSc I I' := fun k j _ _ c d _ _ => h k j c d
section Sm
variable {l : Launch} {D : va_G} {cy : Nat → ClassId} {z d bc bs N : Nat} {T : Nat → Nat × Nat} {R : Nat → Nat → Option Nat} {I : Nat → Nat → Int} {K : yKo}
theorem r_fault (hT : yLT T) (hR : yLR R) (hI : mInv I) (hk : ∀ r I', mInv I' → mSc I I' → K (some (yi r)) (N, T, R, I')) : yW l zSS D cy zFk z d 178 bc bs K 0 0 0 [(0, yr (some 102))] [] (N, T, R, I) := by
  refine B_178_0 hT hR ?_
  intro I1 e1
  have s1 : mSc I I1 := by rw [e1]; exact mSc_thrown I 0
  have i1 : mInv I1 := by rw [e1]; exact mInv_fld hI _ _ _ (by decide) (by decide) (by decide)
  exact hk _ _ i1 s1
theorem mIn_ok {x a b : Int} (c : ¬ ((if a ≤ x ∧ x ≤ b then (1 : Int) else 0) = 0)) : a ≤ x ∧ x ≤ b := by
  by_cases g : a ≤ x ∧ x ≤ b
  · exact g
  · rw [if_neg g] at c; exact absurd rfl c
theorem r_met (hT : yLT T) (hR : yLR R) {x1 x2 : Int} (hI : mInv I) (hk : ∀ r I', mInv I' → mSc I I' → K (some (yi r)) (N, T, R, I')) : yW l zSS D cy zFk z (d + 1) 214 bc bs K 0 0 0 [(0, yr (some 102)), (1, yi x1), (2, yi x2)] [] (N, T, R, I) := by
  refine B_214_0 hT hR ?_
  intro I1 e1
  have s1 : mSc I I1 := by rw [e1]; exact mSc_thrown I 0
  have i1 : mInv I1 := by rw [e1]; exact mInv_fld hI _ _ _ (by decide) (by decide) (by decide)
  have hm := i1.2.2.2.2.1
  refine r_isIn hT hR ⟨_, _, rfl, rfl, fun _ => hk _ _ i1 s1, fun c => ?_⟩
  refine r_isIn hT hR ⟨_, _, rfl, rfl, fun _ => hk _ _ i1 s1, fun c' => ?_⟩
  have a := mIn_ok c
  have a' := mIn_ok c'
  rw [ysub_eq (by omega) (by omega)] at a
  rw [ymul_eq (x := 5) (by omega) (by omega), yadd_eq (x := 626) (by omega) (by omega), yadd_eq (by omega) (by omega)]
  exact ⟨by omega, by omega, hk _ _ i1 s1⟩
theorem r_order (hT : yLT T) (hR : yLR R) {x1 : Int} (hI : mInv I) (hk : ∀ r I', mInv I' → mSc I I' → K (some (yi r)) (N, T, R, I')) : yW l zSS D cy zFk z (d + 2) 223 bc bs K 0 0 0 [(0, yr (some 102)), (1, yi x1)] [] (N, T, R, I) := by
  refine B_223_0 hT hR ?_
  intro I1 e1
  have s1 : mSc I I1 := by rw [e1]; exact mSc_thrown I 0
  have i1 : mInv I1 := by rw [e1]; exact mInv_fld hI _ _ _ (by decide) (by decide) (by decide)
  refine r_orders hT hR i1.1.2.2.2.2 i1.2.1 i1.2.2.2.2.2.2 (fun I2 f2 o2 => ⟨_, rfl, rfl, ?_⟩)
  have s2 := mSc_tr s1 (mSc_fo f2)
  have i2 := mSc_inv hI s2 o2
  have h8 := i2.1.2.2.2.2
  refine r_isIn hT hR ⟨_, _, rfl, rfl, fun _ => hk _ _ i2 s2, fun c => ?_⟩
  have a := mIn_ok c
  rw [ysub_eq (by omega) (by omega)] at a
  exact ⟨by omega, by omega, hk _ _ i2 s2⟩
theorem r_next (hT : yLT T) (hR : yLR R) {x1 : Int} (hI : mInv I) (hk : ∀ r I', mInv I' → mSc I I' → K (some (yi r)) (N, T, R, I')) : yW l zSS D cy zFk z (d + 5) 216 bc bs K 0 0 0 [(0, yr (some 102)), (1, yi x1)] [] (N, T, R, I) := by
  refine B_216_0 hT hR ?_
  intro I1 e1
  have s1 : mSc I I1 := by rw [e1]; exact mSc_thrown I 0
  have i1 : mInv I1 := by rw [e1]; exact mInv_fld hI _ _ _ (by decide) (by decide) (by decide)
  have h8 := i1.1.2.2.2.2
  refine r_isChair (d := d + 3) hT hR h8 (fun r hr => ⟨_, _, rfl, rfl, fun c => ?_, fun _ => hk _ _ i1 s1⟩)
  have hx : 0 ≤ x1 ∧ x1 < I1 104 2 := by rcases hr with ⟨_, g1, g2⟩ | ⟨g, _⟩; exact ⟨g1, g2⟩; exact absurd g c
  obtain ⟨q, rfl⟩ : ∃ q : Nat, x1 = (q : Int) := ⟨x1.toNat, by omega⟩
  refine r_ways (d := d) hT hR i1.1 (fun I2 w2 => ⟨_, rfl, rfl, ?_⟩)
  have i2 := mInv_wy i1 w2
  exact r_stepOf (d := d + 1) hT hR (by omega) i2 (fun r _ => ⟨_, _, rfl, rfl, hk _ _ i2 (mSc_tr s1 (mSc_wy w2))⟩)
end Sm
