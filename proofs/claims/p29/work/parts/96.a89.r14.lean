/-! THE REFERENCE's CONTRACTS, 14: WAY, COUNT, NOW, CELL, CHAIR. -/
section Sm
variable {l : Launch} {D : va_G} {cy : Nat → ClassId} {z d bc bs N : Nat} {T : Nat → Nat × Nat} {R : Nat → Nat → Option Nat} {I : Nat → Nat → Int} {K : yKo}
theorem mSc_spr {I I' : Nat → Nat → Int} (h : mSpr 0 I I') : mWy I I' := fun k j a b => h k j (.inl a) b
theorem r_way (hT : yLT T) (hR : yLR R) {x1 x2 : Int} (hI : mInv I) (hk : ∀ r I', mInv I' → mSc I I' → K (some (yi r)) (N, T, R, I')) : yW l zSS D cy zFk z (d + 4) 254 bc bs K 0 0 0 [(0, yr (some 102)), (1, yi x1), (2, yi x2)] [] (N, T, R, I) := by
  refine B_254_0 hT hR ?_
  intro I1 e1
  have s1 : mSc I I1 := by rw [e1]; exact mSc_thrown I 0
  have i1 : mInv I1 := by rw [e1]; exact mInv_fld hI _ _ _ (by decide) (by decide) (by decide)
  have hM := i1.1
  refine r_isFree (d := d + 2) hT hR hM (fun r hr => ⟨_, _, rfl, rfl, fun _ => hk _ _ i1 s1, fun c => ?_⟩)
  have hx : mCell (I1 104 0) (I1 104 1) x1 := by rcases hr with ⟨_, g, _⟩ | ⟨g, _⟩; exact g; exact absurd g c
  have h1 := mCell_100 hM.2.1 hM.2.2.2.1 hx
  refine r_isFree (d := d + 2) hT hR hM (fun r' _ => ⟨_, _, rfl, rfl, fun _ => ?_, fun _ => hk _ _ i1 s1⟩)
  refine r_spreads (d := d) (b := 0) hT hR hM (by decide) (fun I2 w2 => ⟨_, rfl, rfl, ?_⟩)
  have w := mSc_spr w2
  exact ⟨by omega, by omega, hk _ _ (mInv_wy i1 w) (mSc_tr s1 (mSc_wy w))⟩
theorem r_count (hT : yLT T) (hR : yLR R) {x1 : Int} (hI : mInv I) (hk : ∀ r I', mInv I' → mSc I I' → K (some (yi r)) (N, T, R, I')) : yW l zSS D cy zFk z (d + 1) 170 bc bs K 0 0 0 [(0, yr (some 102)), (1, yi x1)] [] (N, T, R, I) := by
  refine B_170_0 hT hR ?_
  intro I1 e1
  have s1 : mSc I I1 := by rw [e1]; exact mSc_thrown I 0
  have i1 : mInv I1 := by rw [e1]; exact mInv_fld hI _ _ _ (by decide) (by decide) (by decide)
  have loop : ∀ (m k : Nat) (v : Int), k + m = 100 → yW l zSS D cy zFk z (d + 1) 170 bc bs K 0 0 9 [(0, yr (some 102)), (1, yi x1), (2, yi v), (3, yi (k : Int))] [] (N, T, R, I1) := by
    intro m
    induction m with
    | zero =>
      intro k v h
      refine B_170_9 hT hR ⟨fun _ => ⟨fun _ => ⟨fun _ => ⟨fun _ => ?_, fun _ => hk _ _ i1 s1⟩, fun _ => hk _ _ i1 s1⟩, fun _ => hk _ _ i1 s1⟩, fun c => absurd c (by omega)⟩
      refine r_isIn hT hR ⟨_, _, rfl, rfl, fun _ => hk _ _ i1 s1, fun c => ?_⟩
      have a := mIn_ok c
      exact ⟨by omega, by omega, hk _ _ i1 s1⟩
    | succ m ih =>
      intro k v h
      refine B_170_9 hT hR ⟨fun c => absurd c (by omega), fun _ => ?_⟩
      rw [yadd_eq (x := 526) (by omega) (by omega), yadd_eq (x := (k : Int)) (by omega) (by omega)]
      exact ⟨by omega, by omega, fun _ => ih (k + 1) _ (by omega), fun _ => ih (k + 1) _ (by omega)⟩
  exact loop 100 0 0 rfl
theorem r_now (hT : yLT T) (hR : yLR R) {x1 : Int} (hI : mInv I) (hk : ∀ r I', mInv I' → mSc I I' → K (some (yi r)) (N, T, R, I')) : yW l zSS D cy zFk z d 218 bc bs K 0 0 0 [(0, yr (some 102)), (1, yi x1)] [] (N, T, R, I) := by
  refine B_218_0 hT hR ?_
  intro I1 e1
  have s1 : mSc I I1 := by rw [e1]; exact mSc_thrown I 0
  have i1 : mInv I1 := by rw [e1]; exact mInv_fld hI _ _ _ (by decide) (by decide) (by decide)
  have h8 := i1.1.2.2.2.2
  have loop : ∀ (m k : Nat) (a b v : Int), k + m = 9 → (k : Int) ≤ I1 104 2 → yW l zSS D cy zFk z d 218 bc bs K 0 0 15 [(0, yr (some 102)), (1, yi x1), (2, yi a), (3, yi b), (4, yi v), (5, yi (k : Int))] [] (N, T, R, I1) := by
    intro m
    induction m with
    | zero => intro k a b v h h'; omega
    | succ m ih =>
      intro k a b v h h'
      refine B_218_15 hT hR ⟨fun _ => ?_, fun c => ?_⟩
      · exact ⟨fun _ => hk _ _ i1 s1, fun _ => ⟨fun _ => hk _ _ i1 s1, fun _ => ⟨fun _ => hk _ _ i1 s1, fun _ => ⟨fun _ => hk _ _ i1 s1, fun _ => ⟨fun _ => hk _ _ i1 s1, fun _ => ⟨fun _ => hk _ _ i1 s1, fun _ => hk _ _ i1 s1⟩⟩⟩⟩⟩⟩
      · rw [yadd_eq (x := 470) (by omega) (by omega), yadd_eq (x := 510) (by omega) (by omega), yadd_eq (x := 502) (by omega) (by omega), yadd_eq (x := (k : Int)) (by omega) (by omega)]
        have n := fun a b v => ih (k + 1) a b v (by omega) (by omega)
        exact ⟨by omega, by omega, fun _ => ⟨by omega, by omega, fun _ => ⟨by omega, by omega, n _ _ _⟩, fun _ => ⟨by omega, by omega, n _ _ _⟩⟩, fun _ => ⟨by omega, by omega, fun _ => ⟨by omega, by omega, n _ _ _⟩, fun _ => ⟨by omega, by omega, n _ _ _⟩⟩⟩
  exact loop 9 0 0 0 0 rfl (by omega)
/-- a fault or none, as it is told -/
theorem r_throws (hT : yLT T) (hR : yLR R) {x1 : Int} (hx : x1 = 0 ∨ x1 = 1) (hI : mInv I) (hk : ∀ I', mInv I' → mSc I I' → (∀ j, I' 104 j = I 104 j) → K (some (yi x1)) (N, T, R, I')) : yW l zSS D cy zFk z d 247 bc bs K 0 0 0 [(0, yr (some 102)), (1, yi x1)] [] (N, T, R, I) := by
  have e : ∀ v j, yU I 102 0 v 104 j = I 104 j := fun v j => yU_ne _ _ (by omega)
  refine B_247_0 hT hR ⟨fun _ I2 e2 => ⟨hx, ?_⟩, fun _ I2 e2 => ⟨hx, ?_⟩⟩
  · rw [e2]; exact hk _ (mInv_fld hI _ _ _ (by decide) (by decide) (by decide)) (mSc_thrown I 0) (e 0)
  · rw [e2]; exact hk _ (mInv_fld hI _ _ _ (by decide) (by decide) (by decide)) (mSc_thrown I 1) (e 1)
theorem r_cell (hT : yLT T) (hR : yLR R) {x1 x2 : Int} (hI : mInv I) (hk : ∀ r I', mInv I' → mSc I I' → K (some (yi r)) (N, T, R, I')) : yW l zSS D cy zFk z (d + 1) 165 bc bs K 0 0 0 [(0, yr (some 102)), (1, yi x1), (2, yi x2)] [] (N, T, R, I) := by
  have hM := hI.1
  have fin : ∀ t : Int, (t = 0 ∨ t = 1) → (t = 0 → (0 ≤ x1 ∧ x1 < 100)) → yW l zSS D cy zFk z (d + 1) 165 bc bs K 0 0 23 [(0, yr (some 102)), (1, yi x1), (2, yi x2)] [yi t, yr (some 102)] (N, T, R, I) := by
    intro t h1 h2
    refine B_165_23 hT hR (r_throws hT hR h1 hI (fun I1 i1 s1 _ => ⟨_, _, rfl, rfl, fun c => ?_, fun _ => hk _ _ i1 s1⟩))
    have h := h2 c
    rw [yadd_eq (x := 10) (by omega) (by omega), yadd_eq (x := 110) (by omega) (by omega), yadd_eq (x := 210) (by omega) (by omega), yadd_eq (x := 526) (by omega) (by omega)]
    refine ⟨fun _ => ⟨by omega, by omega, hk _ _ i1 s1⟩, fun _ => ⟨fun _ => ⟨by omega, by omega, hk _ _ i1 s1⟩, fun _ => ⟨fun _ => ⟨by omega, by omega, hk _ _ i1 s1⟩, fun _ => ⟨fun _ => ⟨by omega, by omega, hk _ _ i1 s1⟩, fun _ => ?_⟩⟩⟩⟩
    exact r_chairsOn hT hR i1.1.2.2.2.2 ⟨_, _, rfl, rfl, hk _ _ i1 s1⟩
  refine B_165_0 hT hR (r_isCell hT hR (fun r hr => ⟨_, _, rfl, rfl, fun _ => ?_, fun c => ?_⟩))
  · exact B_165_18 hT hR (fin 1 (.inr rfl) (fun q => absurd q (by decide)))
  · have hx : mCell (I 104 0) (I 104 1) x1 := by rcases hr with ⟨_, g⟩ | ⟨g, _⟩; exact g; exact absurd g c
    have h1 := mCell_100 hM.2.1 hM.2.2.2.1 hx
    refine r_isIn hT hR ⟨_, _, rfl, rfl, fun _ => fin 0 (.inl rfl) (fun _ => h1), fun _ => ?_⟩
    exact B_165_18 hT hR (fin 1 (.inr rfl) (fun q => absurd q (by decide)))
theorem r_chair (hT : yLT T) (hR : yLR R) {x1 x2 : Int} (hI : mInv I) (hk : ∀ r I', mInv I' → mSc I I' → K (some (yi r)) (N, T, R, I')) : yW l zSS D cy zFk z (d + 2) 167 bc bs K 0 0 0 [(0, yr (some 102)), (1, yi x1), (2, yi x2)] [] (N, T, R, I) := by
  have h8 := hI.1.2.2.2.2
  have fin : ∀ t : Int, (t = 0 ∨ t = 1) → (t = 0 → (0 ≤ x1 ∧ x1 < 8)) → yW l zSS D cy zFk z (d + 2) 167 bc bs K 0 0 24 [(0, yr (some 102)), (1, yi x1), (2, yi x2)] [yi t, yr (some 102)] (N, T, R, I) := by
    intro t h1 h2
    refine B_167_24 hT hR (r_throws hT hR h1 hI (fun I1 i1 s1 _ => ⟨_, _, rfl, rfl, fun c => ?_, fun _ => hk _ _ i1 s1⟩))
    have h := h2 c
    have e : ∀ a : Int, 0 ≤ a → a ≤ 600 → yadd a x1 = a + x1 := fun a p q => yadd_eq (by omega) (by omega)
    rw [e 470 (by decide) (by decide), e 310 (by decide) (by decide), e 318 (by decide) (by decide), e 334 (by decide) (by decide), e 462 (by decide) (by decide), e 342 (by decide) (by decide), e 478 (by decide) (by decide), e 494 (by decide) (by decide), e 502 (by decide) (by decide), e 510 (by decide) (by decide)]
    have k := fun (r : Int) => hk r _ i1 s1
    exact ⟨fun _ => ⟨by omega, by omega, k _⟩, fun _ => ⟨fun _ => ⟨by omega, by omega, k _⟩, fun _ => ⟨fun _ => ⟨by omega, by omega, k _⟩, fun _ => ⟨fun _ => ⟨by omega, by omega, k _⟩, fun _ => ⟨fun _ => ⟨by omega, by omega, k _⟩, fun _ => ⟨fun _ => ⟨by omega, by omega, k _⟩, fun _ => ⟨fun _ => ⟨by omega, by omega, k _⟩, fun _ => ⟨fun _ => ⟨by omega, by omega, k _⟩, fun _ => ⟨fun _ => ⟨by omega, by omega, k _⟩, fun _ => ⟨by omega, by omega, k _⟩⟩⟩⟩⟩⟩⟩⟩⟩⟩
  refine B_167_0 hT hR (r_isChair (d := d) hT hR h8 (fun r hr => ⟨_, _, rfl, rfl, fun _ => ?_, fun c => ?_⟩))
  · exact B_167_19 hT hR (fin 1 (.inr rfl) (fun q => absurd q (by decide)))
  · have hx : 0 ≤ x1 ∧ x1 < I 104 2 := by rcases hr with ⟨_, g1, g2⟩ | ⟨g, _⟩; exact ⟨g1, g2⟩; exact absurd g c
    refine r_isIn hT hR ⟨_, _, rfl, rfl, fun _ => fin 0 (.inl rfl) (fun _ => by omega), fun _ => ?_⟩
    exact B_167_19 hT hR (fin 1 (.inr rfl) (fun q => absurd q (by decide)))
end Sm
