/-! THE REFERENCE's CONTRACTS, 15: LANE, ON: acts that can be undone. -/
/-- what an act may change -/
def mPu (I I' : Nat → Nat → Int) : Prop := ∀ k j, (k ≠ 104 ∨ j < 458 ∨ 926 ≤ j) → k ≠ 109 → k ≠ 110 → k ≠ 111 → k ≠ 112 → k ≠ 113 → k ≠ 114 → (k ≠ 102 ∨ (j ≠ 0 ∧ (j < 28 ∨ 33 ≤ j) ∧ j ≠ 35)) → I' k j = I k j
theorem mPu_tr {I I' I2 : Nat → Nat → Int} (h : mPu I I') (h' : mPu I' I2) : mPu I I2 := fun k j a b c d e f g i => (h' k j a b c d e f g i).trans (h k j a b c d e f g i)
theorem mPu_sc {I I' : Nat → Nat → Int} (h : mSc I I') : mPu I I' := fun k j _ b c d e _ g i => h k j b c d e g (by omega)
theorem mPu_fm {I I' : Nat → Nat → Int} (h : mFm I I') : mPu I I' := fun k j a b c d e _ _ i => h k j a b c d e (by omega)
theorem mUn_fm {I I' : Nat → Nat → Int} (h : mFm I I') (u : mUn I) : mUn I' := by
  have e := h 102 35 (by omega) (by decide) (by decide) (by decide) (by decide) (by omega)
  refine ⟨by rw [e]; exact u.1, by rw [e]; exact u.2.1, fun v hv => ?_⟩
  exact mSl_at (h 104 0 (by omega) (by decide) (by decide) (by decide) (by decide) (by omega)) (h 104 1 (by omega) (by decide) (by decide) (by decide) (by decide) (by omega)) (fun j _ => h 113 _ (by omega) (by decide) (by decide) (by decide) (by decide) (by omega)) (u.2.2 v (by rw [e] at hv; exact hv))
theorem mUn_sc {I I' : Nat → Nat → Int} (h : mSc I I') (u : mUn I) : mUn I' := by
  have e := h 102 35 (by decide) (by decide) (by decide) (by decide) (by decide) (by omega)
  refine ⟨by rw [e]; exact u.1, by rw [e]; exact u.2.1, fun v hv => ?_⟩
  exact mSl_at (h 104 0 (by decide) (by decide) (by decide) (by decide) (by decide) (by omega)) (h 104 1 (by decide) (by decide) (by decide) (by decide) (by decide) (by omega)) (fun j _ => h 113 _ (by decide) (by decide) (by decide) (by decide) (by decide) (by omega)) (u.2.2 v (by rw [e] at hv; exact hv))
section Sm
variable {l : Launch} {D : va_G} {cy : Nat → ClassId} {z d bc bs N : Nat} {T : Nat → Nat × Nat} {R : Nat → Nat → Option Nat} {I : Nat → Nat → Int} {K : yKo}
theorem mKp_inv {I I' : Nat → Nat → Int} (hI : mInv I) (f : ∀ k j, k ≠ 113 → (k ≠ 102 ∨ j ≠ 35) → I' k j = I k j) : mInv I' ∧ mPu I I' := by
  have e : ∀ i, I' 104 i = I 104 i := fun i => f 104 i (by decide) (by omega)
  have e1 : ∀ i, I' 111 i = I 111 i := fun i => f 111 i (by decide) (by omega)
  have e2 : ∀ i, I' 112 i = I 112 i := fun i => f 112 i (by decide) (by omega)
  refine ⟨?_, fun k j _ _ _ _ _ a _ b => f k j a (by omega)⟩
  unfold mInv mDim mAt mOr
  simp only [e, e1, e2]
  exact hI
theorem r_lane (hT : yLT T) (hR : yLR R) (hN : 126 ≤ N) {x1 x2 : Int} (hI : mInv I) (hm : 0 ≤ I 104 458 ∧ I 104 458 ≤ 500) (hU : mUn I) (hk : ∀ r I', mInv I' → (0 ≤ I' 104 458 ∧ I' 104 458 ≤ 500) → mUn I' → mPu I I' → K (some (yi r)) (N, T, R, I')) : yW l zSS D cy zFk z (d + 2) 205 bc bs K 0 0 0 [(0, yr (some 102)), (1, yi x1), (2, yi x2)] [] (N, T, R, I) := by
  refine B_205_0 hT hR ?_
  intro I1 e1
  have s1 : mSc I I1 := by rw [e1]; exact mSc_thrown I 0
  have i1 : mInv I1 := by rw [e1]; exact mInv_fld hI _ _ _ (by decide) (by decide) (by decide)
  have m1 : 0 ≤ I1 104 458 ∧ I1 104 458 ≤ 500 := by rw [e1, yU_ne _ _ (by omega)]; exact hm
  have u1 := mUn_sc s1 hU
  have no := fun r => hk r _ i1 m1 u1 (mPu_sc s1)
  have hM := i1.1
  refine r_isFree (d := d) hT hR hM (fun r hr => ⟨_, _, rfl, rfl, fun _ => no _, fun c => ?_⟩)
  have hx : mCell (I1 104 0) (I1 104 1) x1 := by rcases hr with ⟨_, g, _⟩ | ⟨g, _⟩; exact g; exact absurd g c
  have h1 := mCell_100 hM.2.1 hM.2.2.2.1 hx
  refine r_isIn hT hR ⟨_, _, rfl, rfl, fun _ => no _, fun _ => ?_⟩
  rw [yadd_eq (x := 526) (by omega) (by omega)]
  refine ⟨by omega, by omega, fun _ => ?_, fun _ => no _⟩
  refine r_keep hT hR hN i1 m1 u1 (fun I2 u2 _ f2 => ⟨_, rfl, rfl, by omega, by omega, ?_⟩)
  intro I3 e3
  have k2 := mKp_inv i1 f2
  obtain ⟨n, rfl⟩ : ∃ n : Nat, x1 = (n : Int) := ⟨x1.toNat, by omega⟩
  have e0 : ((526 : Int) + (n : Int)).toNat = 526 + n := by omega
  rw [e0] at e3
  have f3 : mFm I2 I3 := by rw [e3]; exact mFm_set (mFm_rf I2) (by omega) (by omega) _
  have i3 : mInv I3 := by rw [e3]; exact mInv_set k2.1 (by omega) (by omega) (by omega) (by omega) (by omega)
  refine hk _ _ i3 ?_ (mUn_fm f3 u2) (mPu_tr (mPu_sc s1) (mPu_tr k2.2 (mPu_fm f3)))
  rw [e3, yU_ne _ _ (by omega), f2 104 458 (by decide) (by omega)]; exact m1
end Sm
