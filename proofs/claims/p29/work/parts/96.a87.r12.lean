/-! THE REFERENCE's CONTRACTS, 12: LENT. -/
/-- a RANK may be any -/
theorem mInv_rank {I : Nat → Nat → Int} (h : mInv I) {q : Nat} (hq : q < 8) (v : Int) : mInv (yU I 104 (310 + q) v) := by
  have e : ∀ i, i < 310 ∨ 318 ≤ i → yU I 104 (310 + q) v 104 i = I 104 i := fun i hi => yU_ne _ _ (by omega)
  have e1 : ∀ i, yU I 104 (310 + q) v 111 i = I 111 i := fun i => yU_ne _ _ (by omega)
  have e2 : ∀ i, yU I 104 (310 + q) v 112 i = I 112 i := fun i => yU_ne _ _ (by omega)
  obtain ⟨a, b, c, d, f, g, o⟩ := h
  refine ⟨?_, ?_, fun k hk => ?_, fun k hk hlt => ?_, ?_, fun k hk => ?_, fun i hi => ?_⟩
  · unfold mDim; rw [e 0 (by omega), e 1 (by omega), e 2 (by omega)]; exact a
  · rw [e 6 (by omega)]; exact b
  · rw [e _ (by omega)]; exact c k hk
  · rw [e 2 (by omega)] at hlt
    rw [e 0 (by omega), e 1 (by omega), e _ (by omega), e _ (by omega)]; exact d k hk hlt
  · rw [e 461 (by omega)]; exact f
  · unfold mAt; rw [e 0 (by omega), e 1 (by omega), e _ (by omega), e _ (by omega)]; exact g k hk
  · rw [e1, e2]; exact o i hi
section Sm
variable {l : Launch} {D : va_G} {cy : Nat → ClassId} {z d bc bs N : Nat} {T : Nat → Nat × Nat} {R : Nat → Nat → Option Nat} {I : Nat → Nat → Int} {K : yKo}
theorem r_lent (hT : yLT T) (hR : yLR R) (hN : 126 ≤ N) {x1 x2 : Int} (hI : mInv I) (hm0 : 0 ≤ I 104 458) (hrk : ∀ k, k < 8 → -2147483648 ≤ I 104 (310 + k) ∧ I 104 (310 + k) < 2147483648) (hk : ∀ r I', mInv I' → mSc I I' → K (some (yi r)) (N, T, R, I')) : yW l zSS D cy zFk z (d + 7) 210 bc bs K 0 0 0 [(0, yr (some 102)), (1, yi x1), (2, yi x2)] [] (N, T, R, I) := by
  refine B_210_0 hT hR ?_
  intro I1 e1
  have s1 : mSc I I1 := by rw [e1]; exact mSc_thrown I 0
  have i1 : mInv I1 := by rw [e1]; exact mInv_fld hI _ _ _ (by decide) (by decide) (by decide)
  have h8 := i1.1.2.2.2.2
  refine r_isChair (d := d + 5) hT hR h8 (fun r hr => ⟨_, _, rfl, rfl, fun _ => hk _ _ i1 s1, fun c => ?_⟩)
  have hx : 0 ≤ x1 ∧ x1 < I1 104 2 := by rcases hr with ⟨_, g1, g2⟩ | ⟨g, _⟩; exact ⟨g1, g2⟩; exact absurd g c
  refine r_isChair (d := d + 5) hT hR h8 (fun r' hr' => ⟨_, _, rfl, rfl, fun _ => hk _ _ i1 s1, fun c' => ?_⟩)
  have hx2 : 0 ≤ x2 ∧ x2 < I1 104 2 := by rcases hr' with ⟨_, g1, g2⟩ | ⟨g, _⟩; exact ⟨g1, g2⟩; exact absurd g c'
  obtain ⟨q, rfl⟩ : ∃ q : Nat, x1 = (q : Int) := ⟨x1.toNat, by omega⟩
  obtain ⟨p, rfl⟩ : ∃ p : Nat, x2 = (p : Int) := ⟨x2.toNat, by omega⟩
  have hq : q < 8 := by omega
  have hp : p < 8 := by omega
  rw [yadd_eq (x := 510) (by omega) (by omega), yadd_eq (x := 310) (y := (q : Int)) (by omega) (by omega), yadd_eq (x := 310) (y := (p : Int)) (by omega) (by omega)]
  refine ⟨by omega, by omega, fun _ => ?_, fun _ => hk _ _ i1 s1⟩
  refine r_tries2 hT hR hN (fun I5 t5 => ⟨_, rfl, rfl, ?_⟩)
  have ts5 := mTs_tr s1 i1 t5
  have i5 := mTs_inv hI ts5
  have m5 := mTs_104 ts5 458
  refine r_whenOf (d := d) hT hR hN hq i5 (by omega) (fun r Y Z iY fY bZ => ⟨_, _, rfl, rfl, ?_⟩)
  have tZ := mTs_back ts5 fY iY bZ
  have iZ := mTs_inv hI tZ
  have e0 : ((310 : Int) + (q : Int)).toNat = 310 + q := by omega
  rw [e0]
  refine ⟨by omega, by omega, by omega, by omega, by omega, by omega, ?_⟩
  intro I20 e20
  have i20 : mInv I20 := by rw [e20]; exact mInv_rank iZ hq _
  have m20 : I20 104 458 = I 104 458 := by rw [e20, yU_ne _ _ (by omega)]; exact mTs_104 tZ 458
  have t20 : mTs I20 I20 := by
    refine ⟨fun _ _ _ _ _ _ _ _ => rfl, fun j hj => ?_, i20.2.2.2.2.2.2⟩
    rw [e20, yU_ne _ _ (by omega), yU_ne _ _ (by omega), tZ.2.1 j hj, mTs_104 tZ (458 + j)]
  refine r_whenOf (d := d) hT hR hN hq i20 (by omega) (fun r' Y2 Z2 iY2 fY2 bZ2 => ⟨_, _, rfl, rfl, ?_⟩)
  have tz := mTs_back t20 fY2 iY2 bZ2
  have iz := mTs_inv i20 tz
  refine ⟨by omega, by omega, ?_⟩
  intro I25 e25
  have i25 : mInv I25 := by rw [e25]; exact mInv_rank iz hq _
  refine hk _ _ i25 (fun k j a b c d e f => ?_)
  by_cases g : k = 104 ∧ j = 310 + q
  · obtain ⟨rfl, rfl⟩ := g
    have h := hrk q hq
    have w := mTs_104 tZ (310 + q)
    rw [e25, yU_eq, w, ynar1_eq h.1 h.2]
  · rw [e25, yU_ne _ _ (by omega), tz.1 k j a b c d e f, e20, yU_ne _ _ (by omega)]
    exact tZ.1 k j a b c d e f
end Sm
