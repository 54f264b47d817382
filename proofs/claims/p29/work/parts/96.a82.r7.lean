/-! THE REFERENCE's CONTRACTS, 7: what is tried and brought back: last, latest, when. -/
/-- brought back from what was kept -/
def mBk (I I' : Nat → Nat → Int) : Prop := (∀ j, j < 468 → I' 104 (458 + j) = I 114 j) ∧ ∀ k j, (k ≠ 104 ∨ j < 458 ∨ 926 ≤ j) → (k ≠ 102 ∨ (j ≠ 28 ∧ j ≠ 29)) → I' k j = I k j
/-- what is so is kept -/
def mTr (I I' : Nat → Nat → Int) : Prop := (∀ j, j < 468 → I' 114 j = I 104 (458 + j)) ∧ ∀ k j, k ≠ 114 → I' k j = I k j
/-- rows in hand alone have changed -/
def mSc (I I' : Nat → Nat → Int) : Prop := ∀ k j, k ≠ 109 → k ≠ 110 → k ≠ 111 → k ≠ 112 → k ≠ 114 → (k ≠ 102 ∨ (j ≠ 0 ∧ (j < 28 ∨ 33 ≤ j))) → I' k j = I k j
theorem mSc_tr {I I' I2 : Nat → Nat → Int} (h : mSc I I') (h' : mSc I' I2) : mSc I I2 := fun k j a b c d e f => (h' k j a b c d e f).trans (h k j a b c d e f)
theorem mSc_inv {I I' : Nat → Nat → Int} (h : mInv I) (hs : mSc I I') (ho : mOr I') : mInv I' :=
  mInv_eq h (fun j => hs 104 j (by decide) (by decide) (by decide) (by decide) (by decide) (.inl (by decide))) ho
theorem mSc_thrown (I : Nat → Nat → Int) (v : Int) : mSc I (yU I 102 0 v) := fun k j _ _ _ _ _ f => yU_ne _ _ (by omega)
theorem mSc_back {I0 I1 I2 I3 : Nat → Nat → Int} (t : mTr I0 I1) (f : mFm I1 I2) (i2 : mInv I2) (b : mBk I2 I3) : mSc I0 I3 ∧ mOr I3 := by
  refine ⟨fun k j a1 a2 a3 a4 a5 a6 => ?_, fun i hi => ?_⟩
  · by_cases h : k = 104 ∧ 458 ≤ j ∧ j < 926
    · obtain ⟨rfl, h1, h2⟩ := h
      have e := b.1 (j - 458) (by omega)
      rw [show 458 + (j - 458) = j by omega] at e
      rw [e, f 114 _ (.inl (by decide)) (by decide) (by decide) (by decide) (by decide) (.inl (by decide)), t.1 _ (by omega), show 458 + (j - 458) = j by omega]
    · rw [b.2 k j (by omega) (by omega), f k j (by omega) a1 a2 a3 a4 (by omega), t.2 k j a5]
  · rw [b.2 111 i (.inl (by decide)) (.inl (by decide)), b.2 112 i (.inl (by decide)) (.inl (by decide))]
    exact i2.2.2.2.2.2.2 i hi
theorem mTr_inv {I I' : Nat → Nat → Int} (h : mInv I) (t : mTr I I') : mInv I' :=
  mInv_eq h (fun j => t.2 104 j (by decide)) (fun i hi => by rw [t.2 111 i (by decide), t.2 112 i (by decide)]; exact h.2.2.2.2.2.2 i hi)
section Sm
variable {l : Launch} {D : va_G} {cy : Nat → ClassId} {z d bc bs N : Nat} {T : Nat → Nat × Nat} {R : Nat → Nat → Option Nat} {I : Nat → Nat → Int} {K : yKo}
theorem r_tries2 (hT : yLT T) (hR : yLR R) (hN : 126 ≤ N) (hk : ∀ I', mTr I I' → K none (N, T, R, I')) : yW l zSS D cy zFk z d 249 bc bs K 0 0 0 [(0, yr (some 102))] [] (N, T, R, I) := r_tries hT hR hN (fun I' h1 h2 => hk I' ⟨h1, h2⟩)
theorem r_back2 (hT : yLT T) (hR : yLR R) (hN : 126 ≤ N) (hk : ∀ I', mBk I I' → K none (N, T, R, I')) : yW l zSS D cy zFk z d 158 bc bs K 0 0 0 [(0, yr (some 102))] [] (N, T, R, I) := r_back hT hR hN (fun I' h1 _ _ h4 => hk I' ⟨h1, h4⟩)
theorem r_lastOf (hT : yLT T) (hR : yLR R) (hC : 0 ≤ I 104 2 ∧ I 104 2 ≤ 8) (hk : ∀ r, K (some (yi r)) (N, T, R, I)) : yW l zSS D cy zFk z (d + 2) 207 bc bs K 0 0 0 [(0, yr (some 102))] [] (N, T, R, I) := by
  have loop : ∀ (m k : Nat) (v : Int), k + m = 9 → (k : Int) ≤ I 104 2 → yW l zSS D cy zFk z (d + 2) 207 bc bs K 0 0 4 [(0, yr (some 102)), (1, yi v), (2, yi (k : Int))] [] (N, T, R, I) := by
    intro m
    induction m with
    | zero => intro k v h1 h2; omega
    | succ m ih =>
      intro k v h1 h2
      refine B_207_4 hT hR ⟨fun _ => hk v, fun c => ?_⟩
      rw [yadd_eq (x := (k : Int)) (by omega) (by omega), yadd_eq (x := 510) (by omega) (by omega)]
      have next := fun w => ih (k + 1) w (by omega) (by omega)
      refine r_isToCome (d := d) hT hR (by omega) (fun r _ _ => ⟨_, _, rfl, rfl, fun _ => ?_, fun _ => hk 500⟩)
      exact r_bitOf hT hR ⟨_, _, rfl, rfl, fun _ => next v, fun _ => ⟨by omega, by omega, fun _ => next v, fun _ => ⟨by omega, by omega, next _⟩⟩⟩
  exact B_207_0 hT hR (loop 9 0 (-1) rfl (by omega))
theorem r_waits (hT : yLT T) (hR : yLR R) (hC : 0 ≤ I 104 2 ∧ I 104 2 ≤ 8) (hk : ∀ r, K (some (yi r)) (N, T, R, I)) : yW l zSS D cy zFk z d 253 bc bs K 0 0 0 [(0, yr (some 102))] [] (N, T, R, I) := by
  have loop : ∀ (m k : Nat) (v : Int), k + m = 9 → (k : Int) ≤ I 104 2 → yW l zSS D cy zFk z d 253 bc bs K 0 0 4 [(0, yr (some 102)), (1, yi v), (2, yi (k : Int))] [] (N, T, R, I) := by
    intro m
    induction m with
    | zero => intro k v h1 h2; omega
    | succ m ih =>
      intro k v h1 h2
      refine B_253_4 hT hR ⟨fun _ => hk v, fun c => ?_⟩
      rw [yadd_eq (x := (k : Int)) (by omega) (by omega), yadd_eq (x := 502) (by omega) (by omega)]
      exact ⟨by omega, by omega, ih (k + 1) _ (by omega) (by omega)⟩
  exact B_253_0 hT hR (loop 9 0 0 rfl (by omega))
theorem r_last (hT : yLT T) (hR : yLR R) (hN : 126 ≤ N) (hI : mInv I) (hm0 : 0 ≤ I 104 458) (hk : ∀ r I', mInv I' → mSc I I' → K (some (yi r)) (N, T, R, I')) : yW l zSS D cy zFk z (d + 7) 206 bc bs K 0 0 0 [(0, yr (some 102))] [] (N, T, R, I) := by
  refine B_206_0 hT hR ?_
  intro I1 e1
  have s1 : mSc I I1 := by rw [e1]; exact mSc_thrown I 0
  have i1 : mInv I1 := by rw [e1]; exact mInv_fld hI _ _ _ (by decide) (by decide) (by decide)
  have m1 : I1 104 458 = I 104 458 := by rw [e1, yU_ne _ _ (by omega)]
  refine r_areAllThere (d := d + 4) hT hR i1.1.2.2.2.2 (fun r _ => ⟨_, _, rfl, rfl, fun _ => ?_, fun _ => hk _ _ i1 s1⟩)
  refine r_tries2 hT hR hN (fun I5 t5 => ⟨_, rfl, rfl, ?_⟩)
  have i5 := mTr_inv i1 t5
  refine r_runs (d := d) hT hR i5 (by rw [t5.2 104 458 (by decide)]; omega) (fun I6 i6 f6 => ⟨_, rfl, rfl, ?_⟩)
  refine r_lastOf (d := d + 4) hT hR i6.1.2.2.2.2 (fun v => ⟨_, _, rfl, rfl, ?_⟩)
  refine r_back2 hT hR hN (fun I9 b9 => ⟨_, rfl, rfl, ?_⟩)
  obtain ⟨s9, o9⟩ := mSc_back t5 f6 i6 b9
  exact hk _ _ (mSc_inv hI (mSc_tr s1 s9) o9) (mSc_tr s1 s9)
theorem r_latest (hT : yLT T) (hR : yLR R) (hN : 126 ≤ N) (hI : mInv I) (hm0 : 0 ≤ I 104 458) (hk : ∀ r I', mInv I' → mSc I I' → K (some (yi r)) (N, T, R, I')) : yW l zSS D cy zFk z (d + 7) 208 bc bs K 0 0 0 [(0, yr (some 102))] [] (N, T, R, I) := by
  refine B_208_0 hT hR ?_
  intro I1 e1
  have s1 : mSc I I1 := by rw [e1]; exact mSc_thrown I 0
  have i1 : mInv I1 := by rw [e1]; exact mInv_fld hI _ _ _ (by decide) (by decide) (by decide)
  have m1 : I1 104 458 = I 104 458 := by rw [e1, yU_ne _ _ (by omega)]
  refine r_tries2 hT hR hN (fun I5 t5 => ⟨_, rfl, rfl, ?_⟩)
  have i5 := mTr_inv i1 t5
  refine r_runs (d := d) hT hR i5 (by rw [t5.2 104 458 (by decide)]; omega) (fun I6 i6 f6 => ⟨_, rfl, rfl, ?_⟩)
  have h0 := i6.1.2.2.2.2
  have loop : ∀ (m k : Nat) (v : Int), k + m = 9 → (k : Int) ≤ I6 104 2 → (v = -1 ∨ (0 ≤ v ∧ v < 8)) → yW l zSS D cy zFk z (d + 7) 208 bc bs K 0 0 17 [(0, yr (some 102)), (1, yi v), (2, yi (k : Int))] [] (N, T, R, I6) := by
    intro m
    induction m with
    | zero => intro k v h1 h2 h3; omega
    | succ m ih =>
      intro k v h1 h2 h3
      refine B_208_17 hT hR ⟨fun _ => ?_, fun c => ?_⟩
      · refine r_back2 hT hR hN (fun I9 b9 => ⟨_, rfl, rfl, ?_⟩)
        obtain ⟨s9, o9⟩ := mSc_back t5 f6 i6 b9
        exact hk _ _ (mSc_inv hI (mSc_tr s1 s9) o9) (mSc_tr s1 s9)
      · rw [yadd_eq (x := (k : Int)) (by omega) (by omega)]
        have a := ih (k + 1) (k : Int) (by omega) (by omega) (.inr (by omega))
        have b := ih (k + 1) v (by omega) (by omega) h3
        refine ⟨fun _ => a, fun c2 => ?_⟩
        rw [yadd_eq (x := 502) (y := (k : Int)) (by omega) (by omega), yadd_eq (x := 502) (y := v) (by omega) (by omega)]
        exact ⟨by omega, by omega, by omega, by omega, fun _ => b, fun _ => a⟩
  exact loop 9 0 (-1) rfl (by omega) (.inl rfl)
theorem r_whenOf (hT : yLT T) (hR : yLR R) (hN : 126 ≤ N) {k : Nat} (hk8 : k < 8) (hI : mInv I) (hm0 : 0 ≤ I 104 458) (hk : ∀ r I2 I3, mInv I2 → mFm I I2 → mBk I2 I3 → K (some (yi r)) (N, T, R, I3)) : yW l zSS D cy zFk z (d + 6) 257 bc bs K 0 0 0 [(0, yr (some 102)), (1, yi (k : Int))] [] (N, T, R, I) := by
  have e1 : ((510 : Int) + (k : Int)).toNat = 510 + k := by omega
  have loop : ∀ (m : Nat) (I' : Nat → Nat → Int), 500 ≤ I' 104 458 + (m : Int) → mInv I' → mFm I I' → 0 ≤ I' 104 458 → yW l zSS D cy zFk z (d + 6) 257 bc bs K 0 0 4 [(0, yr (some 102)), (1, yi (k : Int))] [] (N, T, R, I') := by
    intro m
    induction m with
    | zero =>
      intro I' h1 h2 h3 h4
      refine B_257_4 hT hR ⟨fun _ => ?_, fun c => absurd c (by omega)⟩
      rw [yadd_eq (x := 510) (by omega) (by omega), e1]
      exact ⟨by omega, by omega, fun _ => ⟨by omega, by omega, r_back2 hT hR hN (fun I9 b9 => ⟨_, rfl, rfl, hk _ _ _ h2 h3 b9⟩)⟩, fun _ => r_back2 hT hR hN (fun I9 b9 => ⟨_, rfl, rfl, hk _ _ _ h2 h3 b9⟩)⟩
    | succ m ih =>
      intro I' h1 h2 h3 h4
      refine B_257_4 hT hR ?_
      rw [yadd_eq (x := 510) (by omega) (by omega), e1]
      refine ⟨fun _ => ⟨by omega, by omega, fun _ => ⟨by omega, by omega, r_back2 hT hR hN (fun I9 b9 => ⟨_, rfl, rfl, hk _ _ _ h2 h3 b9⟩)⟩, fun _ => r_back2 hT hR hN (fun I9 b9 => ⟨_, rfl, rfl, hk _ _ _ h2 h3 b9⟩)⟩, fun c => ⟨by omega, by omega, fun _ => ⟨by omega, by omega, fun _ => ⟨by omega, by omega, r_back2 hT hR hN (fun I9 b9 => ⟨_, rfl, rfl, hk _ _ _ h2 h3 b9⟩)⟩, fun _ => r_back2 hT hR hN (fun I9 b9 => ⟨_, rfl, rfl, hk _ _ _ h2 h3 b9⟩)⟩, fun _ => ?_⟩⟩
      exact r_minute (d := d) hT hR h2 (by omega) (by omega) (fun I2 i2 f2 e2 => ⟨_, rfl, rfl, ih I2 (by omega) i2 (mFm_tr h3 f2) (by omega)⟩)
  refine B_257_0 hT hR (r_ways (d := d + 1) hT hR hI.1 (fun I1 w1 => ⟨_, rfl, rfl, ?_⟩))
  have e : I1 104 458 = I 104 458 := w1 104 458 (by decide) (by decide)
  exact loop 500 I1 (by omega) (mInv_wy hI w1) (mFm_wy w1) (by omega)
theorem r_when (hT : yLT T) (hR : yLR R) (hN : 126 ≤ N) {x1 : Int} (hI : mInv I) (hm0 : 0 ≤ I 104 458) (hk : ∀ r I', mInv I' → mSc I I' → K (some (yi r)) (N, T, R, I')) : yW l zSS D cy zFk z (d + 7) 256 bc bs K 0 0 0 [(0, yr (some 102)), (1, yi x1)] [] (N, T, R, I) := by
  refine B_256_0 hT hR ?_
  intro I1 e1
  have s1 : mSc I I1 := by rw [e1]; exact mSc_thrown I 0
  have i1 : mInv I1 := by rw [e1]; exact mInv_fld hI _ _ _ (by decide) (by decide) (by decide)
  have m1 : I1 104 458 = I 104 458 := by rw [e1, yU_ne _ _ (by omega)]
  have h8 := i1.1.2.2.2.2
  refine r_isChair (d := d + 5) hT hR h8 (fun r hr => ⟨_, _, rfl, rfl, fun _ => hk _ _ i1 s1, fun c => ?_⟩)
  have hx : 0 ≤ x1 ∧ x1 < I1 104 2 := by rcases hr with ⟨_, g1, g2⟩ | ⟨g, _⟩; exact ⟨g1, g2⟩; exact absurd g c
  obtain ⟨k, rfl⟩ : ∃ k : Nat, x1 = (k : Int) := ⟨x1.toNat, by omega⟩
  rw [yadd_eq (x := 510) (by omega) (by omega)]
  refine ⟨by omega, by omega, fun _ => ?_, fun _ => hk _ _ i1 s1⟩
  refine r_tries2 hT hR hN (fun I5 t5 => ⟨_, rfl, rfl, ?_⟩)
  have i5 := mTr_inv i1 t5
  refine r_whenOf (d := d) hT hR hN (by omega) i5 (by rw [t5.2 104 458 (by decide)]; omega) (fun r I6 I9 i6 f6 b9 => ⟨_, _, rfl, rfl, ?_⟩)
  obtain ⟨s9, o9⟩ := mSc_back t5 f6 i6 b9
  exact hk _ _ (mSc_inv hI (mSc_tr s1 s9) o9) (mSc_tr s1 s9)
end Sm
