/-! THE REFERENCE's CONTRACTS, 10: VOTED. -/
section Sm
variable {l : Launch} {D : va_G} {cy : Nat → ClassId} {z d bc bs N : Nat} {T : Nat → Nat × Nat} {R : Nat → Nat → Option Nat} {I : Nat → Nat → Int} {K : yKo}
theorem r_voted (hT : yLT T) (hR : yLR R) (hN : 126 ≤ N) {x1 : Int} (hI : mInv I) (hm0 : 0 ≤ I 104 458) (hk : ∀ r I', mInv I' → mSc I I' → K (some (yi r)) (N, T, R, I')) : yW l zSS D cy zFk z (d + 7) 252 bc bs K 0 0 0 [(0, yr (some 102)), (1, yi x1)] [] (N, T, R, I) := by
  refine B_252_0 hT hR ?_
  intro I1 e1
  have s1 : mSc I I1 := by rw [e1]; exact mSc_thrown I 0
  have i1 : mInv I1 := by rw [e1]; exact mInv_fld hI _ _ _ (by decide) (by decide) (by decide)
  have h8 := i1.1.2.2.2.2
  refine r_isChair (d := d + 5) hT hR h8 (fun r hr => ⟨_, _, rfl, rfl, fun c => ?_, fun _ => hk _ _ i1 s1⟩)
  have hx : 0 ≤ x1 ∧ x1 < I1 104 2 := by rcases hr with ⟨_, g1, g2⟩ | ⟨g, _⟩; exact ⟨g1, g2⟩; exact absurd g c
  obtain ⟨q, rfl⟩ : ∃ q : Nat, x1 = (q : Int) := ⟨x1.toNat, by omega⟩
  have hq : q < 8 := by omega
  refine r_tries2 hT hR hN (fun I5 t5 => ⟨_, rfl, rfl, ?_⟩)
  have loop : ∀ (m : Nat) (X : Nat → Nat → Int) (k : Nat) (v : Int), k + m = 9 → mTs I X → (k : Int) ≤ I 104 2 → yW l zSS D cy zFk z (d + 7) 252 bc bs K 0 0 23 [(0, yr (some 102)), (1, yi (q : Int)), (2, yi v), (3, yi (k : Int))] [] (N, T, R, X) := by
    intro m
    induction m with
    | zero => intro X k v h1 h2 h3; have := hI.1.2.2.2.2.2; omega
    | succ m ih =>
      intro X k v h1 h2 h3
      have iX := mTs_inv hI h2
      have e2 := mTs_104 h2 2
      have e458 := mTs_104 h2 458
      have hC := hI.1.2.2.2.2.2
      refine B_252_23 hT hR ⟨fun _ => ⟨fun _ => hk _ X iX h2.1, fun _ => hk _ X iX h2.1⟩, fun c => ?_⟩
      have next : ∀ (Z : Nat → Nat → Int) (v : Int), mTs I Z → yW l zSS D cy zFk z (d + 7) 252 bc bs K 0 0 23 [(0, yr (some 102)), (1, yi (q : Int)), (2, yi v), (3, yi ((k : Int) + 1))] [] (N, T, R, Z) := fun Z v hz => ih Z (k + 1) v (by omega) hz (by omega)
      rw [yadd_eq (x := 470) (y := (k : Int)) (by omega) (by omega), yadd_eq (x := (k : Int)) (by omega) (by omega), yadd_eq (x := 470) (y := (q : Int)) (by omega) (by omega)]
      refine ⟨by omega, by omega, fun _ => ⟨fun _ => ?_, fun _ => next X _ h2⟩, fun _ => next X _ h2⟩
      refine r_whenOf (d := d) hT hR hN (by omega) iX (by omega) (fun r Y Z iY fY bZ => ⟨_, _, rfl, rfl, ?_⟩)
      have tZ := mTs_back h2 fY iY bZ
      have iZ := mTs_inv hI tZ
      have m458 := mTs_104 tZ 458
      intro I9 e9
      refine ⟨by omega, by omega, ?_⟩
      intro I12 e12
      have e1 : ((470 : Int) + (q : Int)).toNat = 470 + q := by omega
      rw [e1, ynar1_eq (by omega) (by omega)] at e12
      have i9 : mInv I9 := by rw [e9]; exact mInv_fld iZ _ _ _ (by decide) (by decide) (by decide)
      have f9 : mFm Z I9 := by rw [e9]; exact mFm_fld (mFm_rf Z) (by omega) (by omega) _
      have i12 : mInv I12 := by rw [e12]; exact mInv_set i9 (by omega) (by omega) (by omega) (fun _ _ => .inl rfl) (by omega)
      have f12 : mFm Z I12 := by rw [e12]; exact mFm_set f9 (by omega) (by omega) _
      have m12 : I12 104 458 = Z 104 458 := by rw [e12, yU_ne _ _ (by omega), e9, yU_ne _ _ (by omega)]
      refine r_whenOf (d := d) hT hR hN (by omega) i12 (by omega) (fun r' Y2 Z2 iY2 fY2 bZ2 => ⟨_, _, rfl, rfl, ?_⟩)
      have tz := mTs_back tZ (mFm_tr f12 fY2) iY2 bZ2
      exact ⟨fun _ => next Z2 _ tz, fun _ => next Z2 _ tz⟩
  exact loop 9 I5 0 0 rfl (mTs_tr s1 i1 t5) (by have := hI.1.2.2.2.2.1; omega)
end Sm
