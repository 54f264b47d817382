/-! THE REFERENCE's CONTRACTS, 16: ON. -/
section Sm
variable {l : Launch} {D : va_G} {cy : Nat → ClassId} {z d bc bs N : Nat} {T : Nat → Nat × Nat} {R : Nat → Nat → Option Nat} {I : Nat → Nat → Int} {K : yKo}
theorem r_on (hT : yLT T) (hR : yLR R) (hN : 126 ≤ N) {x1 : Int} (hI : mInv I) (hm : 0 ≤ I 104 458 ∧ I 104 458 ≤ 500) (hU : mUn I) (hk : ∀ r I', mInv I' → (0 ≤ I' 104 458 ∧ I' 104 458 ≤ 500) → mUn I' → mPu I I' → K (some (yi r)) (N, T, R, I')) : yW l zSS D cy zFk z (d + 6) 220 bc bs K 0 0 0 [(0, yr (some 102)), (1, yi x1)] [] (N, T, R, I) := by
  refine B_220_0 hT hR ?_
  intro I1 e1
  have s1 : mSc I I1 := by rw [e1]; exact mSc_thrown I 0
  have i1 : mInv I1 := by rw [e1]; exact mInv_fld hI _ _ _ (by decide) (by decide) (by decide)
  have m1 : 0 ≤ I1 104 458 ∧ I1 104 458 ≤ 500 := by rw [e1, yU_ne _ _ (by omega)]; exact hm
  have u1 := mUn_sc s1 hU
  have no := fun r => hk r _ i1 m1 u1 (mPu_sc s1)
  refine r_isIn hT hR ⟨_, _, rfl, rfl, fun c => ⟨fun _ => ?_, fun _ => no _⟩, fun _ => no _⟩
  have hx : 1 ≤ x1 ∧ x1 ≤ 100 := mIn_ok (fun q => c q)
  refine r_keep hT hR hN i1 m1 u1 (fun I2 u2 _ f2 => ⟨_, rfl, rfl, ?_⟩)
  have k2 := mKp_inv i1 f2
  have m2 : 0 ≤ I2 104 458 ∧ I2 104 458 ≤ 500 := by rw [f2 104 458 (by decide) (by omega)]; exact m1
  refine r_ways (d := d + 1) hT hR k2.1.1 (fun I3 w3 => ⟨_, rfl, rfl, ?_⟩)
  have loop : ∀ (m : Nat) (X : Nat → Nat → Int) (k : Nat), k + m = 100 → mInv X → mFm I2 X → (0 ≤ X 104 458 ∧ X 104 458 ≤ 500) → yW l zSS D cy zFk z (d + 6) 220 bc bs K 0 0 43 [(0, yr (some 102)), (1, yi x1), (2, yi (k : Int))] [] (N, T, R, X) := by
    intro m
    induction m with
    | zero =>
      intro X k h iX fX mX
      have fin := fun r => hk r X iX mX (mUn_fm fX u2) (mPu_tr (mPu_sc s1) (mPu_tr k2.2 (mPu_fm fX)))
      exact B_220_43 hT hR ⟨fun _ => fin _, fun q => absurd q (by omega)⟩
    | succ m ih =>
      intro X k h iX fX mX
      have fin := fun r => hk r X iX mX (mUn_fm fX u2) (mPu_tr (mPu_sc s1) (mPu_tr k2.2 (mPu_fm fX)))
      refine B_220_43 hT hR ⟨fun _ => fin _, fun q => ⟨fun _ => fin _, fun q2 => ?_⟩⟩
      rw [yadd_eq (x := (k : Int)) (by omega) (by omega)]
      exact r_minute (d := d) hT hR iX (by omega) (by omega) (fun Y iY fY eY => ⟨_, rfl, rfl, ih Y (k + 1) (by omega) iY (mFm_tr fX fY) (by omega)⟩)
  exact loop 100 I3 0 rfl (mInv_wy k2.1 w3) (mFm_wy w3) (by rw [w3 104 458 (by decide) (by decide)]; exact m2)
end Sm
