/-! THE REFERENCE's CONTRACTS: ROOM is kept, 2: STEPS, setting out. -/
theorem mRo_room {I I' : Nat → Nat → Int} {v : Int} (h8 : I 104 2 ≤ 8) (h1 : v < 100) (e : ∀ j, j < 458 ∨ (470 ≤ j ∧ j < 478) → I' 104 j = I 104 j) (r : mOn I v (I 104 2).toNat < 1 + I 104 (210 + v.toNat)) : mOn I' v (I' 104 2).toNat < 1 + I' 104 (210 + v.toNat) := by
  rw [e 2 (by omega), e (210 + v.toNat) (by omega), mOn_cg (I := I) _ (fun q hq => e _ (by omega))]
  exact r
section Sm
variable {l : Launch} {D : va_G} {cy : Nat → ClassId} {z d bc bs N : Nat} {T : Nat → Nat × Nat} {R : Nat → Nat → Option Nat} {I : Nat → Nat → Int} {K : yKo}
theorem r_stepsR (hT : yLT T) (hR : yLR R) {k : Nat} {x2 : Int} (hk8 : k < 8) (hc : mCell (I 104 0) (I 104 1) x2) (hI : mInv I) (hRo : mRo I) (hroom : mOn I x2 (I 104 2).toNat < 1 + I 104 (210 + x2.toNat)) (hk : ∀ I', mInv I' → mRo I' → mFr I I' → (∀ j, I' 111 j = I 111 j ∧ I' 112 j = I 112 j) → K none (N, T, R, I')) : yW l zSS D cy zFk z d 243 bc bs K 0 0 0 [(0, yr (some 102)), (1, yi (k : Int)), (2, yi x2)] [] (N, T, R, I) := by
  obtain ⟨c0, c1⟩ := mCell_100 hI.1.2.1 hI.1.2.2.2.1 hc
  obtain ⟨a1, a2⟩ := hI.2.2.2.2.2.1 k hk8
  have ar := mInv_at hI a1
  have h8 := hI.1.2.2.2.2.2
  refine B_243_0 hT hR ?_
  rw [yadd_eq (x := 470) (by omega) (by omega), yadd_eq (x := 486) (by omega) (by omega), yadd_eq (x := 478) (by omega) (by omega), yadd_eq (x := 110) (by omega) (by omega), yadd_eq (x := 518) (by omega) (by omega)]
  have e1 : ((470 : Int) + (k : Int)).toNat = 470 + k := by omega
  have e2 : ((486 : Int) + (k : Int)).toNat = 486 + k := by omega
  have e3 : ((478 : Int) + (k : Int)).toNat = 478 + k := by omega
  have e4 : ((518 : Int) + (k : Int)).toNat = 518 + k := by omega
  rw [e1, e2, e3, e4]
  refine ⟨by omega, by omega, by omega, by omega, ?_⟩
  intro I5 g5
  rw [ynar1_eq (by omega) (by omega)] at g5
  have i5 : mInv I5 := by rw [g5]; exact mInv_set hI (by omega) (by omega) (by omega) (by omega) (fun _ _ => a1)
  have r5 : mRo I5 := by rw [g5]; exact mRo_set hRo h8 (by omega) (by omega) (by omega)
  have room5 := mRo_room (I' := I5) h8 c1 (fun j hj => by rw [g5, yU_ne _ _ (by omega)]) hroom
  refine ⟨by omega, by omega, ?_⟩
  intro I8 g8
  rw [ynar1_eq (by omega) (by omega)] at g8
  have hc5 : mAt I5 x2 := by
    right; left
    rw [g5, yU_ne _ _ (by omega), yU_ne _ _ (by omega)]; exact hc
  have i8 : mInv I8 := by rw [g8]; exact mInv_set i5 (by omega) (by omega) (by omega) (fun _ _ => hc5) (by omega)
  refine ⟨by omega, by omega, by omega, by omega, ?_⟩
  intro I13 g13
  have r8 : mRo I8 := by rw [g8]; exact mRo_set r5 i5.1.2.2.2.2.2 (by omega) (by omega) (fun _ _ => .inr room5)
  have r13 : mRo I13 := by rw [g13]; exact mRo_set r8 i8.1.2.2.2.2.2 (by omega) (by omega) (by omega)
  have i13 : mInv I13 := by rw [g13]; exact mInv_set i8 (by omega) (by omega) (by omega) (by omega) (by omega)
  refine ⟨by omega, by omega, by omega, by omega, ?_⟩
  intro I18 g18
  refine hk I18 ?_ (by rw [g18]; exact mRo_set r13 i13.1.2.2.2.2.2 (by omega) (by omega) (by omega)) ?_ ?_
  · rw [g18]; exact mInv_set i13 (by omega) (by omega) (by omega) (by omega) (by omega)
  · rw [g18, g13, g8, g5]
    exact mFr_set (mFr_set (mFr_set (mFr_set (mFr_rf I) (by omega) (by omega) _) (by omega) (by omega) _) (by omega) (by omega) _) (by omega) (by omega) _
  · intro j
    rw [g18, yU_ne _ _ (by omega), yU_ne _ _ (by omega), g13, yU_ne _ _ (by omega), yU_ne _ _ (by omega), g8, yU_ne _ _ (by omega), yU_ne _ _ (by omega), g5, yU_ne _ _ (by omega), yU_ne _ _ (by omega)]
    exact ⟨rfl, rfl⟩
theorem r_setsOutR (hT : yLT T) (hR : yLR R) (hI : mInv I) (hRo : mRo I) (hk : ∀ I', mInv I' → mRo I' → mFr I I' → K none (N, T, R, I')) : yW l zSS D cy zFk z (d + 2) 235 bc bs K 0 0 0 [(0, yr (some 102))] [] (N, T, R, I) := by
  have loop : ∀ (m : Nat) (I' : Nat → Nat → Int) (k : Nat), k + m = 9 → mInv I' → mRo I' → mFr I I' → (k : Int) ≤ I' 104 2 → yW l zSS D cy zFk z (d + 2) 235 bc bs K 0 0 2 [(0, yr (some 102)), (1, yi (k : Int))] [] (N, T, R, I') := by
    intro m
    induction m with
    | zero => intro I' k h1 h2 hr h3 h4; have := h2.1.2.2.2.2.2; omega
    | succ m ih =>
      intro I' k h1 h2 hr h3 h4
      have h8 := h2.1.2.2.2.2.2
      refine B_235_2 hT hR ⟨fun _ => hk I' h2 hr h3, fun c => ?_⟩
      have next : ∀ {I2}, mInv I2 → mRo I2 → mFr I I2 → yW l zSS D cy zFk z (d + 2) 235 bc bs K 0 0 2 [(0, yr (some 102)), (1, yi ((k : Int) + 1))] [] (N, T, R, I2) := fun i2 r2 f2 =>
        ih _ (k + 1) (by omega) i2 r2 f2 (by rw [mFr_low f2 (by omega)]; rw [mFr_low h3 (by omega)] at c; omega)
      rw [yadd_eq (x := (k : Int)) (by omega) (by omega)]
      refine r_bitOf hT hR ⟨_, _, rfl, rfl, fun _ => next h2 hr h3, fun _ => ?_⟩
      rw [yadd_eq (x := 510) (by omega) (by omega), yadd_eq (x := 470) (by omega) (by omega), yadd_eq (x := 462) (by omega) (by omega), yadd_eq (x := 326) (by omega) (by omega), yadd_eq (x := 334) (by omega) (by omega), yadd_eq (x := 486) (by omega) (by omega)]
      have e1 : ((510 : Int) + (k : Int)).toNat = 510 + k := by omega
      have e2 : ((470 : Int) + (k : Int)).toNat = 470 + k := by omega
      have e3 : ((462 : Int) + (k : Int)).toNat = 462 + k := by omega
      have e4 : ((326 : Int) + (k : Int)).toNat = 326 + k := by omega
      have e5 : ((334 : Int) + (k : Int)).toNat = 334 + k := by omega
      have e6 : ((486 : Int) + (k : Int)).toNat = 486 + k := by omega
      rw [e1, e2, e3, e4, e5, e6]
      obtain ⟨hfr, _⟩ := h2.2.2.2.1 k (by omega) (by omega)
      obtain ⟨c0, c1⟩ := mCell_100 h2.1.2.1 h2.1.2.2.2.1 hfr
      have hrm := h2.2.2.1 (I' 104 (326 + k)).toNat (by omega)
      refine ⟨by omega, by omega, fun _ => next h2 hr h3, fun _ => ⟨by omega, by omega, fun _ => next h2 hr h3, fun _ => ⟨by omega, by omega, fun _ => ⟨by omega, by omega, by omega, by omega, fun _ => ⟨by omega, by omega, ?_⟩, fun _ => ⟨by omega, by omega, ?_⟩⟩, fun _ => next h2 hr h3⟩⟩⟩
      · refine r_hasRoom (d := d) hT hR h2.1.2.2.2.2 c0 c1 hrm.1 hrm.2 (fun r hrr => ⟨_, _, rfl, rfl, fun _ => next h2 hr h3, fun rne => ⟨by omega, by omega, by omega, by omega, ?_⟩⟩)
        intro I28 g28
        rw [ynar1_eq (by omega) (by omega)] at g28
        have i28 : mInv I28 := by rw [g28]; exact mInv_set h2 (by omega) (by omega) (by omega) (fun _ _ => .inr (.inl hfr)) (by omega)
        have r28 : mRo I28 := by rw [g28]; exact mRo_set hr h8 (by omega) (by omega) (fun _ _ => .inr (by rcases hrr with ⟨_, g⟩ | ⟨g, _⟩; exact g; exact absurd g rne))
        have f28 : mFr I I28 := by rw [g28]; exact mFr_set h3 (by omega) (by omega) _
        refine ⟨by omega, by omega, ?_⟩
        intro I31 g31
        rw [ynar1_eq (by omega) (by omega)] at g31
        exact next (by rw [g31]; exact mInv_set i28 (by omega) (by omega) (by omega) (by omega) (fun _ _ => .inl rfl)) (by rw [g31]; exact mRo_set r28 i28.1.2.2.2.2.2 (by omega) (by omega) (by omega)) (by rw [g31]; exact mFr_set f28 (by omega) (by omega) _)
      · intro I34 g34
        exact next (by rw [g34]; exact mInv_set h2 (by omega) (by omega) (by omega) (by omega) (by omega)) (by rw [g34]; exact mRo_set hr h8 (by omega) (by omega) (by omega)) (by rw [g34]; exact mFr_set h3 (by omega) (by omega) _)
  exact B_235_0 hT hR (loop 9 I 0 rfl hI hRo (mFr_rf I) (by have := hI.1.2.2.2.2.1; omega))
end Sm
