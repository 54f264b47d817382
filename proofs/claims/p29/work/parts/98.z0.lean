/-! THE REFERENCE's CONTRACTS: ROOM is kept, 11: a land that is new. -/
theorem mAl_ro {I H : Nat → Nat → Int} (hH : mH H) (hO : mOr I) (h : ∀ j, j < 1188 → I 104 j = mAl (fun j => H 105 j) j) : mRo I ∧ mNb I :=
  mRo_none (mAl_inv hH hO h) (fun q hq => by
    rw [h (470 + q) (by omega)]; unfold mAl mBg
    rw [if_neg (by omega), if_pos (by omega)])
