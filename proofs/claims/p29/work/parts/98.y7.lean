/-! THE REFERENCE's CONTRACTS: ROOM is kept, 8: where all begins anew; DRAWN. -/
theorem mRo_none {I : Nat → Nat → Int} (hI : mInv I) (h : ∀ q, q < 8 → I 104 (470 + q) = -1) : mRo I ∧ mNb I := by
  have h8 := hI.1.2.2.2.2.2
  refine ⟨fun c c0 c1 => ?_, fun k k8 _ k0 => by have := h k k8; omega⟩
  have z : ∀ n, n ≤ 8 → mOn I c n = 0 := by
    intro n
    induction n with
    | zero => intro _; rfl
    | succ n ih =>
      intro hn
      show mOn I c n + _ = 0
      rw [ih (by omega), h n (by omega), if_neg (by omega)]; rfl
  have g := hI.2.2.1 c.toNat (by omega)
  rw [z _ (by omega)]; omega
section Sm
variable {l : Launch} {D : va_G} {cy : Nat → ClassId} {z d bc bs N : Nat} {T : Nat → Nat × Nat} {R : Nat → Nat → Option Nat} {I : Nat → Nat → Int} {K : yKo}
theorem r_beginsR (hT : yLT T) (hR : yLR R) (hI : mInv I) (hk : ∀ I', mInv I' → mRo I' → mNb I' → mFm I I' → I' 104 458 = 0 → K none (N, T, R, I')) : yW l zSS D cy zFk z d 161 bc bs K 0 0 0 [(0, yr (some 102))] [] (N, T, R, I) := by
  have loop : ∀ (m : Nat) (I' : Nat → Nat → Int) (k : Nat), k + m = 8 → mInv I' → mFm I I' → I' 104 458 = 0 → (∀ q, q < k → I' 104 (470 + q) = -1) → yW l zSS D cy zFk z d 161 bc bs K 0 0 38 [(0, yr (some 102)), (1, yi (k : Int))] [] (N, T, R, I') := by
    intro m
    induction m with
    | zero => intro I' k h1 h2 h3 h4 hn; exact B_161_38 hT hR ⟨fun _ => hk I' h2 (mRo_none h2 (fun q hq => hn q (by omega))).1 (mRo_none h2 (fun q hq => hn q (by omega))).2 h3 h4, fun c => absurd c (by omega)⟩
    | succ m ih =>
      intro I' k h1 h2 h3 h4 hn
      refine B_161_38 hT hR ⟨fun c => absurd c (by omega), fun _ => ?_⟩
      rw [yadd_eq (x := 470) (by omega) (by omega), yadd_eq (x := 478) (by omega) (by omega), yadd_eq (x := 486) (by omega) (by omega), yadd_eq (x := 494) (by omega) (by omega), yadd_eq (x := 502) (by omega) (by omega), yadd_eq (x := 510) (by omega) (by omega), yadd_eq (x := 518) (by omega) (by omega), yadd_eq (x := (k : Int)) (by omega) (by omega), ynar1_eq (x := -1) (by omega) (by omega)]
      have e1 : ((470 : Int) + (k : Int)).toNat = 470 + k := by omega
      have e2 : ((478 : Int) + (k : Int)).toNat = 478 + k := by omega
      have e3 : ((486 : Int) + (k : Int)).toNat = 486 + k := by omega
      have e4 : ((494 : Int) + (k : Int)).toNat = 494 + k := by omega
      have e5 : ((502 : Int) + (k : Int)).toNat = 502 + k := by omega
      have e6 : ((510 : Int) + (k : Int)).toNat = 510 + k := by omega
      have e7 : ((518 : Int) + (k : Int)).toNat = 518 + k := by omega
      rw [e1, e2, e3, e4, e5, e6, e7]
      refine ⟨by omega, by omega, ?_⟩
      intro I4 g4
      have a4 : mInv I4 := by rw [g4]; exact mInv_set h2 (by omega) (by omega) (by omega) (fun _ _ => .inl rfl) (by omega)
      refine ⟨by omega, by omega, ?_⟩
      intro I7 g7
      have a7 : mInv I7 := by rw [g7]; exact mInv_set a4 (by omega) (by omega) (by omega) (by omega) (by omega)
      refine ⟨by omega, by omega, ?_⟩
      intro I10 g10
      have a10 : mInv I10 := by rw [g10]; exact mInv_set a7 (by omega) (by omega) (by omega) (by omega) (fun _ _ => .inl rfl)
      refine ⟨by omega, by omega, ?_⟩
      intro I13 g13
      have a13 : mInv I13 := by rw [g13]; exact mInv_set a10 (by omega) (by omega) (by omega) (by omega) (by omega)
      refine ⟨by omega, by omega, ?_⟩
      intro I16 g16
      have a16 : mInv I16 := by rw [g16]; exact mInv_set a13 (by omega) (by omega) (by omega) (by omega) (by omega)
      refine ⟨by omega, by omega, ?_⟩
      intro I19 g19
      have a19 : mInv I19 := by rw [g19]; exact mInv_set a16 (by omega) (by omega) (by omega) (by omega) (by omega)
      refine ⟨by omega, by omega, ?_⟩
      intro I22 g22
      refine ih I22 (k + 1) (by omega) (by rw [g22]; exact mInv_set a19 (by omega) (by omega) (by omega) (by omega) (by omega)) ?_ ?_ (fun q hq => ?_)
      · rw [g22, g19, g16, g13, g10, g7, g4]
        exact mFm_set (mFm_set (mFm_set (mFm_set (mFm_set (mFm_set (mFm_set h3 (by omega) (by omega) _) (by omega) (by omega) _) (by omega) (by omega) _) (by omega) (by omega) _) (by omega) (by omega) _) (by omega) (by omega) _) (by omega) (by omega) _
      · rw [g22, yU_ne _ _ (by omega), g19, yU_ne _ _ (by omega), g16, yU_ne _ _ (by omega), g13, yU_ne _ _ (by omega), g10, yU_ne _ _ (by omega), g7, yU_ne _ _ (by omega), g4, yU_ne _ _ (by omega)]
        exact h4
      · rw [g22, yU_ne _ _ (by omega), g19, yU_ne _ _ (by omega), g16, yU_ne _ _ (by omega), g13, yU_ne _ _ (by omega), g10, yU_ne _ _ (by omega), g7, yU_ne _ _ (by omega), g4]
        by_cases e : q = k
        · subst e; rw [yU_eq]
        · rw [yU_ne _ _ (by omega)]; exact hn q (by omega)
  refine B_161_0 hT hR ?_
  rw [ynar1_eq (x := 0) (by omega) (by omega)]
  intro I1 g1 I2 g2 I3 g3 I4 g4
  have a1 : mInv I1 := by rw [g1]; exact mInv_set hI (by omega) (by omega) (by omega) (by omega) (by omega)
  have a2 : mInv I2 := by rw [g2]; exact mInv_set a1 (by omega) (by omega) (by omega) (by omega) (by omega)
  have a3 : mInv I3 := by rw [g3]; exact mInv_set a2 (by omega) (by omega) (by omega) (by omega) (by omega)
  refine loop 8 I4 0 rfl (by rw [g4]; exact mInv_set a3 (by omega) (by omega) (by omega) (by omega) (by omega)) ?_ ?_ (fun q hq => absurd hq (Nat.not_lt_zero _))
  · rw [g4, g3, g2, g1]
    exact mFm_set (mFm_set (mFm_set (mFm_set (mFm_rf I) (by omega) (by omega) _) (by omega) (by omega) _) (by omega) (by omega) _) (by omega) (by omega) _
  · rw [g4, yU_ne _ _ (by omega), g3, yU_ne _ _ (by omega), g2, yU_ne _ _ (by omega), g1, yU_eq]
theorem r_drawnR (hT : yLT T) (hR : yLR R) (hN : 126 ≤ N) {x1 : Int} (hI : mInv I) (hm : 0 ≤ I 104 458 ∧ I 104 458 ≤ 500) (hU : mUnR I) (hk : ∀ r I', mInv I' → (0 ≤ I' 104 458 ∧ I' 104 458 ≤ 500) → mUnR I' → mPd I I' → K (some (yi r)) (N, T, R, I')) : yW l zSS D cy zFk z (d + 2) 175 bc bs K 0 0 0 [(0, yr (some 102)), (1, yi x1)] [] (N, T, R, I) := by
  refine B_175_0 hT hR ?_
  intro I1 e1
  have n1 : ∀ k j, (k ≠ 102 ∨ j ≠ 0) → I1 k j = I k j := fun k j h => by rw [e1, yU_ne _ _ (by omega)]
  have i1 : mInv I1 := by rw [e1]; exact mInv_fld hI _ _ _ (by decide) (by decide) (by decide)
  have u1 : mUnR I1 := mUnR_sc (by rw [e1]; exact mSc_thrown I 0) hU
  have m1 : 0 ≤ I1 104 458 ∧ I1 104 458 ≤ 500 := by rw [n1 104 458 (by omega)]; exact hm
  refine ⟨fun _ => ?_, fun _ => hk _ I1 i1 m1 u1 (fun k j _ _ _ _ _ _ h => n1 k j (by omega))⟩
  refine r_keepR hT hR hN i1 m1 u1 (fun I3 u3 _ f3 => ⟨_, rfl, rfl, ?_⟩)
  have i3 := (mKp_inv i1 f3).1
  refine r_starts (d := d) hT hR i3 (fun I4 i4 f4 => ⟨_, rfl, rfl, ?_⟩)
  refine r_beginsR hT hR i4 (fun I5 i5 r5 n5 f5 z5 => ⟨_, rfl, rfl, ?_⟩)
  refine hk _ I5 i5 (by omega) ?_ (fun k j a b1 b2 b3 b4 b5 b6 => ?_)
  · refine mUnR_sl (fun j hj => ?_) ?_ (fun j => ?_) u3 r5 n5
    · rw [f5 104 j (by omega) (by omega) (by omega) (by omega) (by omega) (by omega)]; exact f4 104 j (by omega) (by omega)
    · rw [f5 102 35 (by omega) (by omega) (by omega) (by omega) (by omega) (by omega)]; exact f4 102 35 (by omega) (by omega)
    · rw [f5 113 j (by omega) (by omega) (by omega) (by omega) (by omega) (by omega)]; exact f4 113 j (by omega) (by omega)
  · rw [f5 k j a b1 b2 b3 b4 (by omega), f4 k j (by omega) (by omega), f3 k j b5 (by omega)]; exact n1 k j (by omega)
end Sm
