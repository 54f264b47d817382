/-! THE REFERENCE's CONTRACTS, 11: INVITED, LENT. -/
section Sm
variable {l : Launch} {D : va_G} {cy : Nat → ClassId} {z d bc bs N : Nat} {T : Nat → Nat × Nat} {R : Nat → Nat → Option Nat} {I : Nat → Nat → Int} {K : yKo}
theorem r_invited (hT : yLT T) (hR : yLR R) (hN : 126 ≤ N) {x1 : Int} (hI : mInv I) (hk : ∀ r I', mInv I' → mSc I I' → K (some (yi r)) (N, T, R, I')) : yW l zSS D cy zFk z (d + 7) 185 bc bs K 0 0 0 [(0, yr (some 102)), (1, yi x1)] [] (N, T, R, I) := by
  refine B_185_0 hT hR ?_
  intro I1 e1
  have s1 : mSc I I1 := by rw [e1]; exact mSc_thrown I 0
  have i1 : mInv I1 := by rw [e1]; exact mInv_fld hI _ _ _ (by decide) (by decide) (by decide)
  refine r_isIn hT hR ⟨_, _, rfl, rfl, fun _ => hk _ _ i1 s1, fun _ => ?_⟩
  refine r_isIn hT hR ⟨_, _, rfl, rfl, fun c => ?_, fun _ => hk _ _ i1 s1⟩
  have hc : 1 ≤ I1 104 2 ∧ I1 104 2 ≤ 4 := by
    by_cases g : 1 ≤ I1 104 2 ∧ I1 104 2 ≤ 4
    · exact g
    · rw [if_neg g] at c; exact absurd rfl c
  refine r_tries2 hT hR hN (fun I5 t5 => ⟨_, rfl, rfl, ?_⟩)
  have ts5 := mTs_tr s1 i1 t5
  obtain ⟨q, hq, hq1, hq4⟩ : ∃ q : Nat, I1 104 2 = (q : Int) ∧ 1 ≤ q ∧ q ≤ 4 := ⟨(I1 104 2).toNat, by omega, by omega, by omega⟩
  rw [hq]
  obtain ⟨P, hP, hP2⟩ : ∃ P : Nat, yshl 1 (ymul 2 (q : Int)) = (P : Int) ∧ P ≤ 256 := by
    have : q = 1 ∨ q = 2 ∨ q = 3 ∨ q = 4 := by omega
    rcases this with rfl | rfl | rfl | rfl
    · exact ⟨4, by decide, by decide⟩
    · exact ⟨16, by decide, by decide⟩
    · exact ⟨64, by decide, by decide⟩
    · exact ⟨256, by decide, by decide⟩
  have inner : ∀ (m : Nat) (X0 X : Nat → Nat → Int) (p k : Nat), k + m = q → p < P → mTs I X0 → mFm X0 X → mInv X → (∀ Z, mTs I Z → yW l zSS D cy zFk z (d + 7) 185 bc bs K 0 0 39 [(0, yr (some 102)), (1, yi x1), (2, yi (q : Int)), (3, yi ((p + 1 : Nat) : Int))] [] (N, T, R, Z)) →
      yW l zSS D cy zFk z (d + 7) 185 bc bs K 0 0 51 [(0, yr (some 102)), (1, yi x1), (2, yi (q : Int)), (3, yi (p : Int)), (4, yi (k : Int))] [] (N, T, R, X) := by
    intro m
    induction m with
    | zero =>
      intro X0 X p k h1 h2 h3 h4 h5 hgo
      refine B_185_51 hT hR ⟨fun _ => ?_, fun c => absurd c (by omega)⟩
      rw [yadd_eq (x := (p : Int)) (by omega) (by omega)]
      refine r_isMet (d := d) hT hR h5 (fun r Y2 _ i2 f2 => ⟨_, _, rfl, rfl, fun _ => ?_, fun _ => ?_⟩)
      · exact r_back2 hT hR hN (fun Z b => ⟨_, rfl, rfl, hgo Z (mTs_back h3 (mFm_tr h4 f2) i2 b)⟩)
      · refine r_back2 hT hR hN (fun Z b => ⟨_, rfl, rfl, ?_⟩)
        have tz := mTs_back h3 (mFm_tr h4 f2) i2 b
        exact hk _ Z (mTs_inv hI tz) tz.1
    | succ m ih =>
      intro X0 X p k h1 h2 h3 h4 h5 hgo
      refine B_185_51 hT hR ⟨fun c => absurd c (by omega), fun _ => ?_⟩
      rw [yadd_eq (x := 462) (by omega) (by omega), yadd_eq (x := (k : Int)) (by omega) (by omega)]
      refine ⟨by omega, by omega, ?_⟩
      intro Y eY
      have e1 : ((462 : Int) + (k : Int)).toNat = 462 + k := by omega
      rw [e1] at eY
      refine ih X0 Y p (k + 1) (by omega) h2 h3 ?_ ?_ hgo
      · rw [eY]; exact mFm_set h4 (by omega) (by omega) _
      · rw [eY]; exact mInv_set h5 (by omega) (by omega) (by omega) (by omega) (by omega)
  have outer : ∀ (m : Nat) (X : Nat → Nat → Int) (p : Nat), p + m = P → mTs I X → yW l zSS D cy zFk z (d + 7) 185 bc bs K 0 0 39 [(0, yr (some 102)), (1, yi x1), (2, yi (q : Int)), (3, yi (p : Int))] [] (N, T, R, X) := by
    intro m
    induction m with
    | zero =>
      intro X p h1 h2
      refine B_185_39 hT hR ?_
      rw [hP]
      exact ⟨fun _ => hk _ X (mTs_inv hI h2) h2.1, fun c => absurd c (by omega)⟩
    | succ m ih =>
      intro X p h1 h2
      refine B_185_39 hT hR ?_
      rw [hP]
      refine ⟨fun c => absurd c (by omega), fun _ => ?_⟩
      exact inner q X X p 0 (by omega) (by omega) h2 (mFm_rf X) (mTs_inv hI h2) (fun Z tz => ih Z (p + 1) (by omega) tz)
  exact outer P I5 0 (by omega) ts5
end Sm
