/-! THE REFERENCE's CONTRACTS: ROOM is kept, 6: LANE, ON, UNDO. -/
def mUnR (I : Nat → Nat → Int) : Prop := I 104 2 ≤ 8 ∧ mRo I ∧ mNb I ∧ mUq (mSq I) I
theorem mUnR_sl {I I' : Nat → Nat → Int} (h0 : ∀ j, j < 458 → I' 104 j = I 104 j) (h35 : I' 102 35 = I 102 35) (h113 : ∀ j, I' 113 j = I 113 j) (h : mUnR I) (hr : mRo I') (hn : mNb I') : mUnR I' := by
  obtain ⟨h8, _, _, a, b, c⟩ := h
  refine ⟨by rw [h0 2 (by omega)]; exact h8, hr, hn, by rw [h35]; exact a, by rw [h35]; exact b, fun u hu => ?_⟩
  rw [h35] at hu
  exact mSq_at h8 h0 (fun j _ => h113 _) (c u hu)
theorem mUnR_sc {I I' : Nat → Nat → Int} (h : mSc I I') (u : mUnR I) : mUnR I' := by
  have e : ∀ j, I' 104 j = I 104 j := fun j => h 104 j (by decide) (by decide) (by decide) (by decide) (by decide) (by omega)
  exact mUnR_sl (fun j _ => e j) (h 102 35 (by decide) (by decide) (by decide) (by decide) (by decide) (by omega)) (fun j => h 113 j (by decide) (by decide) (by decide) (by decide) (by decide) (by omega)) u (mRo_eq u.2.1 u.1 (fun j _ => e j)) (mNb_eq u.2.2.1 (fun j _ => e j))
theorem mUnR_fm {I I' : Nat → Nat → Int} (h : mFm I I') (u : mUnR I) (hr : mRo I') (hn : mNb I') : mUnR I' :=
  mUnR_sl (fun j hj => h 104 j (by omega) (by decide) (by decide) (by decide) (by decide) (by omega)) (h 102 35 (by omega) (by decide) (by decide) (by decide) (by decide) (by omega)) (fun j => h 113 j (by omega) (by decide) (by decide) (by decide) (by decide) (by omega)) u hr hn
/-- a slice put back makes all good -/
theorem mInv_sl {I I' : Nat → Nat → Int} (hI : mInv I) (low : ∀ j, j < 458 → I' 104 j = I 104 j) (sl : mSl I (fun j => I' 104 (458 + j))) (ho : mOr I') : mInv I' := by
  have at_ : ∀ v, mAt I' v ↔ mAt I v := fun v => by unfold mAt; rw [low 0 (by omega), low 1 (by omega)]
  obtain ⟨a, b, c', d', _, _, _⟩ := hI
  refine ⟨?_, ?_, fun k hk8 => ?_, fun k hk8 hlt => ?_, sl.2.1, fun k hk8 => ?_, ho⟩
  · unfold mDim; rw [low 0 (by omega), low 1 (by omega), low 2 (by omega)]; exact a
  · rw [low 6 (by omega)]; exact b
  · rw [low _ (by omega)]; exact c' k hk8
  · rw [low 2 (by omega)] at hlt
    rw [low 0 (by omega), low 1 (by omega), low _ (by omega), low _ (by omega)]; exact d' k hk8 hlt
  · rw [at_, at_]
    have e : mAt I (I' 104 (458 + (12 + k))) ∧ mAt I (I' 104 (458 + (28 + k))) := sl.2.2 k hk8
    rw [show 458 + (12 + k) = 470 + k by omega, show 458 + (28 + k) = 486 + k by omega] at e
    exact e
section Sm
variable {l : Launch} {D : va_G} {cy : Nat → ClassId} {z d bc bs N : Nat} {T : Nat → Nat × Nat} {R : Nat → Nat → Option Nat} {I : Nat → Nat → Int} {K : yKo}
theorem r_keepR (hT : yLT T) (hR : yLR R) (hN : 126 ≤ N) (hI : mInv I) (hm : 0 ≤ I 104 458 ∧ I 104 458 ≤ 500) (hU : mUnR I) (hk : ∀ I', mUnR I' → I' 102 35 = (if I 102 35 = 8 then 8 else I 102 35 + 1) → (∀ k j, k ≠ 113 → (k ≠ 102 ∨ j ≠ 35) → I' k j = I k j) → K none (N, T, R, I')) : yW l zSS D cy zFk z d 203 bc bs K 0 0 0 [(0, yr (some 102))] [] (N, T, R, I) := by
  obtain ⟨h8, hr, hn, hq⟩ := hU
  refine r_keepQ hT hR hN (Q := mSq I) (fun g g' e h => mSq_at h8 (fun _ _ => rfl) e h) (mSq_now hI hm hr hn) hq (fun I' q cn f => hk I' ?_ cn f)
  have e : ∀ j, I' 104 j = I 104 j := fun j => f 104 j (by decide) (.inl (by decide))
  exact ⟨by rw [e]; exact h8, mRo_eq hr h8 (fun j _ => e j), mNb_eq hn (fun j _ => e j), q.1, q.2.1, fun u hu => mSq_at h8 (fun j _ => e j) (fun _ _ => rfl) (q.2.2 u hu)⟩
theorem r_undoR (hT : yLT T) (hR : yLR R) (hN : 126 ≤ N) (hI : mInv I) (hm : 0 ≤ I 104 458 ∧ I 104 458 ≤ 500) (hU : mUnR I) (hk : ∀ r I', mInv I' → (0 ≤ I' 104 458 ∧ I' 104 458 ≤ 500) → mUnR I' → (∀ k j, (k ≠ 104 ∨ j < 458 ∨ 926 ≤ j) → (k ≠ 102 ∨ (j ≠ 0 ∧ j ≠ 35)) → I' k j = I k j) → K (some (yi r)) (N, T, R, I')) : yW l zSS D cy zFk z d 250 bc bs K 0 0 0 [(0, yr (some 102))] [] (N, T, R, I) := by
  obtain ⟨h8, hr, hn, hq⟩ := hU
  refine r_undoQ hT hR hN (Q := mSq I) (fun g g' e h => mSq_at h8 (fun _ _ => rfl) e h) (mSq_now hI hm hr hn) hq (fun r I' s q f => ?_)
  have low : ∀ j, j < 458 → I' 104 j = I 104 j := fun j hj => f 104 j (by omega) (.inl (by decide))
  have g := mSq_ro h8 low s
  have i' : mInv I' := mInv_sl hI low s.1 (fun u hu => by rw [f 111 u (by omega) (.inl (by decide)), f 112 u (by omega) (.inl (by decide))]; exact hI.2.2.2.2.2.2 u hu)
  exact hk r I' i' s.1.1 ⟨by rw [low 2 (by omega)]; exact h8, g.1, g.2, q.1, q.2.1, fun u hu => mSq_at h8 low (fun _ _ => rfl) (q.2.2 u hu)⟩ f
theorem r_laneR (hT : yLT T) (hR : yLR R) (hN : 126 ≤ N) {x1 x2 : Int} (hI : mInv I) (hm : 0 ≤ I 104 458 ∧ I 104 458 ≤ 500) (hU : mUnR I) (hk : ∀ r I', mInv I' → (0 ≤ I' 104 458 ∧ I' 104 458 ≤ 500) → mUnR I' → mPu I I' → K (some (yi r)) (N, T, R, I')) : yW l zSS D cy zFk z (d + 2) 205 bc bs K 0 0 0 [(0, yr (some 102)), (1, yi x1), (2, yi x2)] [] (N, T, R, I) := by
  refine B_205_0 hT hR ?_
  intro I1 e1
  have s1 : mSc I I1 := by rw [e1]; exact mSc_thrown I 0
  have i1 : mInv I1 := by rw [e1]; exact mInv_fld hI _ _ _ (by decide) (by decide) (by decide)
  have m1 : 0 ≤ I1 104 458 ∧ I1 104 458 ≤ 500 := by rw [e1, yU_ne _ _ (by omega)]; exact hm
  have u1 := mUnR_sc s1 hU
  have no := fun r => hk r _ i1 m1 u1 (mPu_sc s1)
  have hM := i1.1
  refine r_isFree (d := d) hT hR hM (fun r hr => ⟨_, _, rfl, rfl, fun _ => no _, fun c => ?_⟩)
  have hx : mCell (I1 104 0) (I1 104 1) x1 := by rcases hr with ⟨_, g, _⟩ | ⟨g, _⟩; exact g; exact absurd g c
  have h1 := mCell_100 hM.2.1 hM.2.2.2.1 hx
  refine r_isIn hT hR ⟨_, _, rfl, rfl, fun _ => no _, fun _ => ?_⟩
  rw [yadd_eq (x := 526) (by omega) (by omega)]
  refine ⟨by omega, by omega, fun _ => ?_, fun _ => no _⟩
  refine r_keepR hT hR hN i1 m1 u1 (fun I2 u2 _ f2 => ⟨_, rfl, rfl, by omega, by omega, ?_⟩)
  intro I3 e3
  have k2 := mKp_inv i1 f2
  obtain ⟨n, rfl⟩ : ∃ n : Nat, x1 = (n : Int) := ⟨x1.toNat, by omega⟩
  have e0 : ((526 : Int) + (n : Int)).toNat = 526 + n := by omega
  rw [e0] at e3
  have f3 : mFm I2 I3 := by rw [e3]; exact mFm_set (mFm_rf I2) (by omega) (by omega) _
  have i3 : mInv I3 := by rw [e3]; exact mInv_set k2.1 (by omega) (by omega) (by omega) (by omega) (by omega)
  refine hk _ _ i3 ?_ (mUnR_fm f3 u2 (mRo_eq u2.2.1 u2.1 (fun j hj => by rw [e3, yU_ne _ _ (by omega)])) (mNb_eq u2.2.2.1 (fun j hj => by rw [e3, yU_ne _ _ (by omega)]))) (mPu_tr (mPu_sc s1) (mPu_tr k2.2 (mPu_fm f3)))
  rw [e3, yU_ne _ _ (by omega), f2 104 458 (by decide) (by omega)]; exact m1
theorem r_onR (hT : yLT T) (hR : yLR R) (hN : 126 ≤ N) {x1 : Int} (hI : mInv I) (hm : 0 ≤ I 104 458 ∧ I 104 458 ≤ 500) (hU : mUnR I) (hk : ∀ r I', mInv I' → (0 ≤ I' 104 458 ∧ I' 104 458 ≤ 500) → mUnR I' → mPu I I' → K (some (yi r)) (N, T, R, I')) : yW l zSS D cy zFk z (d + 6) 220 bc bs K 0 0 0 [(0, yr (some 102)), (1, yi x1)] [] (N, T, R, I) := by
  refine B_220_0 hT hR ?_
  intro I1 e1
  have s1 : mSc I I1 := by rw [e1]; exact mSc_thrown I 0
  have i1 : mInv I1 := by rw [e1]; exact mInv_fld hI _ _ _ (by decide) (by decide) (by decide)
  have m1 : 0 ≤ I1 104 458 ∧ I1 104 458 ≤ 500 := by rw [e1, yU_ne _ _ (by omega)]; exact hm
  have u1 := mUnR_sc s1 hU
  have no := fun r => hk r _ i1 m1 u1 (mPu_sc s1)
  refine r_isIn hT hR ⟨_, _, rfl, rfl, fun c => ⟨fun _ => ?_, fun _ => no _⟩, fun _ => no _⟩
  have hx : 1 ≤ x1 ∧ x1 ≤ 100 := mIn_ok (fun q => c q)
  refine r_keepR hT hR hN i1 m1 u1 (fun I2 u2 _ f2 => ⟨_, rfl, rfl, ?_⟩)
  have k2 := mKp_inv i1 f2
  have m2 : 0 ≤ I2 104 458 ∧ I2 104 458 ≤ 500 := by rw [f2 104 458 (by decide) (by omega)]; exact m1
  refine r_ways (d := d + 1) hT hR k2.1.1 (fun I3 w3 => ⟨_, rfl, rfl, ?_⟩)
  have loop : ∀ (m : Nat) (X : Nat → Nat → Int) (k : Nat), k + m = 100 → mInv X → mRo X → mNb X → mFm I2 X → (0 ≤ X 104 458 ∧ X 104 458 ≤ 500) → yW l zSS D cy zFk z (d + 6) 220 bc bs K 0 0 43 [(0, yr (some 102)), (1, yi x1), (2, yi (k : Int))] [] (N, T, R, X) := by
    intro m
    induction m with
    | zero =>
      intro X k h iX rX nX fX mX
      have fin := fun r => hk r X iX mX (mUnR_fm fX u2 rX nX) (mPu_tr (mPu_sc s1) (mPu_tr k2.2 (mPu_fm fX)))
      exact B_220_43 hT hR ⟨fun _ => fin _, fun q => absurd q (by omega)⟩
    | succ m ih =>
      intro X k h iX rX nX fX mX
      have fin := fun r => hk r X iX mX (mUnR_fm fX u2 rX nX) (mPu_tr (mPu_sc s1) (mPu_tr k2.2 (mPu_fm fX)))
      refine B_220_43 hT hR ⟨fun _ => fin _, fun q => ⟨fun _ => fin _, fun q2 => ?_⟩⟩
      rw [yadd_eq (x := (k : Int)) (by omega) (by omega)]
      exact r_minuteR (d := d) hT hR iX rX (by omega) (by omega) (fun Y iY rY nY fY eY => ⟨_, rfl, rfl, ih Y (k + 1) (by omega) iY rY nY (mFm_tr fX fY) (by omega)⟩)
  exact loop 100 I3 0 rfl (mInv_wy k2.1 w3) (mRo_eq u2.2.1 u2.1 (fun j _ => w3 104 j (by decide) (by decide))) (mNb_eq u2.2.2.1 (fun j _ => w3 104 j (by decide) (by decide))) (mFm_wy w3) (by rw [w3 104 458 (by decide) (by decide)]; exact m2)
end Sm
