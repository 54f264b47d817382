/-! THE REFERENCE's CONTRACTS, 9: tries of many MINUTES from the beginning; ONE WAY, INVITED, BEGAN, VOTED. -/
/-- between two tries: rows in hand alone have changed, and what was so is kept -/
def mTs (I0 X : Nat → Nat → Int) : Prop := mSc I0 X ∧ (∀ j, j < 468 → X 114 j = I0 104 (458 + j)) ∧ mOr X
theorem mTs_tr {I0 I1 I2 : Nat → Nat → Int} (h : mSc I0 I1) (hI : mInv I1) (t : mTr I1 I2) : mTs I0 I2 := by
  have e : ∀ j, I1 104 j = I0 104 j := fun j => h 104 j (by decide) (by decide) (by decide) (by decide) (by decide) (.inl (by decide))
  refine ⟨fun k j a b c d f g => ?_, fun j hj => ?_, fun i hi => ?_⟩
  · rw [t.2 k j f]; exact h k j a b c d f g
  · rw [t.1 j hj, e]
  · rw [t.2 111 i (by decide), t.2 112 i (by decide)]; exact hI.2.2.2.2.2.2 i hi
theorem mTs_inv {I0 X : Nat → Nat → Int} (h : mInv I0) (t : mTs I0 X) : mInv X := mSc_inv h t.1 t.2.2
theorem mTs_104 {I0 X : Nat → Nat → Int} (t : mTs I0 X) (j : Nat) : X 104 j = I0 104 j := t.1 104 j (by decide) (by decide) (by decide) (by decide) (by decide) (.inl (by decide))
theorem mTs_back {I0 X Y Z : Nat → Nat → Int} (t : mTs I0 X) (f : mFm X Y) (i : mInv Y) (b : mBk Y Z) : mTs I0 Z := by
  refine ⟨fun k j a1 a2 a3 a4 a5 a6 => ?_, fun j hj => ?_, fun q hq => ?_⟩
  · by_cases h : k = 104 ∧ 458 ≤ j ∧ j < 926
    · obtain ⟨rfl, h1, h2⟩ := h
      have e := b.1 (j - 458) (by omega)
      rw [show 458 + (j - 458) = j by omega] at e
      rw [e, f 114 _ (.inl (by decide)) (by decide) (by decide) (by decide) (by decide) (.inl (by decide)), t.2.1 _ (by omega), show 458 + (j - 458) = j by omega]
    · rw [b.2 k j (by omega) (by omega), f k j (by omega) a1 a2 a3 a4 (by omega)]
      exact t.1 k j a1 a2 a3 a4 a5 a6
  · rw [b.2 114 j (.inl (by decide)) (.inl (by decide)), f 114 _ (.inl (by decide)) (by decide) (by decide) (by decide) (by decide) (.inl (by decide))]
    exact t.2.1 j hj
  · rw [b.2 111 q (.inl (by decide)) (.inl (by decide)), b.2 112 q (.inl (by decide)) (.inl (by decide))]
    exact i.2.2.2.2.2.2 q hq
theorem mFm_set {I I' : Nat → Nat → Int} (h : mFm I I') {j : Nat} (h1 : 458 ≤ j) (h2 : j < 926) (v : Int) : mFm I (yU I' 104 j v) := fun k i a b c d e f => by
  rw [yU_ne _ _ (by omega)]; exact h k i a b c d e f
theorem mFm_fld {I I' : Nat → Nat → Int} (h : mFm I I') {j : Nat} (h1 : 28 ≤ j) (h2 : j < 33) (v : Int) : mFm I (yU I' 102 j v) := fun k i a b c d e f => by
  rw [yU_ne _ _ (by omega)]; exact h k i a b c d e f
section Sm
variable {l : Launch} {D : va_G} {cy : Nat → ClassId} {z d bc bs N : Nat} {T : Nat → Nat × Nat} {R : Nat → Nat → Option Nat} {I : Nat → Nat → Int} {K : yKo}
theorem r_begins (hT : yLT T) (hR : yLR R) (hI : mInv I) (hk : ∀ I', mInv I' → mFm I I' → I' 104 458 = 0 → K none (N, T, R, I')) : yW l zSS D cy zFk z d 161 bc bs K 0 0 0 [(0, yr (some 102))] [] (N, T, R, I) := by
  have loop : ∀ (m : Nat) (I' : Nat → Nat → Int) (k : Nat), k + m = 8 → mInv I' → mFm I I' → I' 104 458 = 0 → yW l zSS D cy zFk z d 161 bc bs K 0 0 38 [(0, yr (some 102)), (1, yi (k : Int))] [] (N, T, R, I') := by
    intro m
    induction m with
    | zero => intro I' k h1 h2 h3 h4; exact B_161_38 hT hR ⟨fun _ => hk I' h2 h3 h4, fun c => absurd c (by omega)⟩
    | succ m ih =>
      intro I' k h1 h2 h3 h4
      refine B_161_38 hT hR ⟨fun c => absurd c (by omega), fun _ => ?_⟩
      rw [yadd_eq (x := 470) (by omega) (by omega), yadd_eq (x := 478) (by omega) (by omega), yadd_eq (x := 486) (by omega) (by omega), yadd_eq (x := 494) (by omega) (by omega), yadd_eq (x := 502) (by omega) (by omega), yadd_eq (x := 510) (by omega) (by omega), yadd_eq (x := 518) (by omega) (by omega), yadd_eq (x := (k : Int)) (by omega) (by omega), ynar1_eq (x := -1) (by omega) (by omega)]
      have e1 : ((470 : Int) + (k : Int)).toNat = 470 + k := by omega
      have e2 : ((478 : Int) + (k : Int)).toNat = 478 + k := by omega
      have e3 : ((486 : Int) + (k : Int)).toNat = 486 + k := by omega
      have e4 : ((494 : Int) + (k : Int)).toNat = 494 + k := by omega
      have e5 : ((502 : Int) + (k : Int)).toNat = 502 + k := by omega
      have e6 : ((510 : Int) + (k : Int)).toNat = 510 + k := by omega
      have e7 : ((518 : Int) + (k : Int)).toNat = 518 + k := by omega
      rw [e1, e2, e3, e4, e5, e6, e7]
      refine ⟨by omega, by omega, ?_⟩
      intro I4 g4
      have a4 : mInv I4 := by rw [g4]; exact mInv_set h2 (by omega) (by omega) (by omega) (fun _ _ => .inl rfl) (by omega)
      refine ⟨by omega, by omega, ?_⟩
      intro I7 g7
      have a7 : mInv I7 := by rw [g7]; exact mInv_set a4 (by omega) (by omega) (by omega) (by omega) (by omega)
      refine ⟨by omega, by omega, ?_⟩
      intro I10 g10
      have a10 : mInv I10 := by rw [g10]; exact mInv_set a7 (by omega) (by omega) (by omega) (by omega) (fun _ _ => .inl rfl)
      refine ⟨by omega, by omega, ?_⟩
      intro I13 g13
      have a13 : mInv I13 := by rw [g13]; exact mInv_set a10 (by omega) (by omega) (by omega) (by omega) (by omega)
      refine ⟨by omega, by omega, ?_⟩
      intro I16 g16
      have a16 : mInv I16 := by rw [g16]; exact mInv_set a13 (by omega) (by omega) (by omega) (by omega) (by omega)
      refine ⟨by omega, by omega, ?_⟩
      intro I19 g19
      have a19 : mInv I19 := by rw [g19]; exact mInv_set a16 (by omega) (by omega) (by omega) (by omega) (by omega)
      refine ⟨by omega, by omega, ?_⟩
      intro I22 g22
      refine ih I22 (k + 1) (by omega) (by rw [g22]; exact mInv_set a19 (by omega) (by omega) (by omega) (by omega) (by omega)) ?_ ?_
      · rw [g22, g19, g16, g13, g10, g7, g4]
        exact mFm_set (mFm_set (mFm_set (mFm_set (mFm_set (mFm_set (mFm_set h3 (by omega) (by omega) _) (by omega) (by omega) _) (by omega) (by omega) _) (by omega) (by omega) _) (by omega) (by omega) _) (by omega) (by omega) _) (by omega) (by omega) _
      · rw [g22, yU_ne _ _ (by omega), g19, yU_ne _ _ (by omega), g16, yU_ne _ _ (by omega), g13, yU_ne _ _ (by omega), g10, yU_ne _ _ (by omega), g7, yU_ne _ _ (by omega), g4, yU_ne _ _ (by omega)]
        exact h4
  refine B_161_0 hT hR ?_
  rw [ynar1_eq (x := 0) (by omega) (by omega)]
  intro I1 g1 I2 g2 I3 g3 I4 g4
  have a1 : mInv I1 := by rw [g1]; exact mInv_set hI (by omega) (by omega) (by omega) (by omega) (by omega)
  have a2 : mInv I2 := by rw [g2]; exact mInv_set a1 (by omega) (by omega) (by omega) (by omega) (by omega)
  have a3 : mInv I3 := by rw [g3]; exact mInv_set a2 (by omega) (by omega) (by omega) (by omega) (by omega)
  refine loop 8 I4 0 rfl (by rw [g4]; exact mInv_set a3 (by omega) (by omega) (by omega) (by omega) (by omega)) ?_ ?_
  · rw [g4, g3, g2, g1]
    exact mFm_set (mFm_set (mFm_set (mFm_set (mFm_rf I) (by omega) (by omega) _) (by omega) (by omega) _) (by omega) (by omega) _) (by omega) (by omega) _
  · rw [g4, yU_ne _ _ (by omega), g3, yU_ne _ _ (by omega), g2, yU_ne _ _ (by omega), g1, yU_eq]
theorem r_isMet (hT : yLT T) (hR : yLR R) (hI : mInv I) (hk : ∀ r I', (r = 0 ∨ r = 1) → mInv I' → mFm I I' → K (some (yi r)) (N, T, R, I')) : yW l zSS D cy zFk z (d + 6) 193 bc bs K 0 0 0 [(0, yr (some 102))] [] (N, T, R, I) := by
  have loop : ∀ (m : Nat) (I' : Nat → Nat → Int), 100 ≤ I' 104 458 + (m : Int) → mInv I' → mFm I I' → 0 ≤ I' 104 458 → yW l zSS D cy zFk z (d + 6) 193 bc bs K 0 0 8 [(0, yr (some 102))] [] (N, T, R, I') := by
    intro m
    induction m with
    | zero => intro I' h1 h2 h3 h4; exact B_193_8 hT hR ⟨fun _ => ⟨fun _ => hk _ _ (.inl rfl) h2 h3, fun _ => hk _ _ (.inr rfl) h2 h3⟩, fun c => absurd c (by omega)⟩
    | succ m ih =>
      intro I' h1 h2 h3 h4
      refine B_193_8 hT hR ⟨fun _ => ⟨fun _ => hk _ _ (.inl rfl) h2 h3, fun _ => hk _ _ (.inr rfl) h2 h3⟩, fun c => ⟨fun _ => ⟨fun _ => hk _ _ (.inl rfl) h2 h3, fun _ => hk _ _ (.inr rfl) h2 h3⟩, fun _ => ?_⟩⟩
      exact r_minute (d := d) hT hR h2 (by omega) (by omega) (fun I2 i2 f2 e2 => ⟨_, rfl, rfl, ih I2 (by omega) i2 (mFm_tr h3 f2) (by omega)⟩)
  refine B_193_0 hT hR (r_begins hT hR hI (fun I1 i1 f1 m1 => ⟨_, rfl, rfl, ?_⟩))
  refine r_ways (d := d + 1) hT hR i1.1 (fun I2 w2 => ⟨_, rfl, rfl, ?_⟩)
  have e : I2 104 458 = 0 := by rw [w2 104 458 (by decide) (by decide)]; exact m1
  exact loop 100 I2 (by omega) (mInv_wy i1 w2) (mFm_tr f1 (mFm_wy w2)) (by omega)
theorem r_began (hT : yLT T) (hR : yLR R) (hN : 126 ≤ N) (hI : mInv I) (hk : ∀ r I', mInv I' → mSc I I' → K (some (yi r)) (N, T, R, I')) : yW l zSS D cy zFk z (d + 7) 160 bc bs K 0 0 0 [(0, yr (some 102))] [] (N, T, R, I) := by
  refine B_160_0 hT hR ?_
  intro I1 e1
  have s1 : mSc I I1 := by rw [e1]; exact mSc_thrown I 0
  have i1 : mInv I1 := by rw [e1]; exact mInv_fld hI _ _ _ (by decide) (by decide) (by decide)
  refine r_tries2 hT hR hN (fun I2 t2 => ⟨_, rfl, rfl, ?_⟩)
  have loop : ∀ (m : Nat) (X : Nat → Nat → Int) (k : Nat) (v : Int), k + m = 9 → mTs I X → (k : Int) ≤ I 104 2 → yW l zSS D cy zFk z (d + 7) 160 bc bs K 0 0 13 [(0, yr (some 102)), (1, yi v), (2, yi (k : Int))] [] (N, T, R, X) := by
    intro m
    induction m with
    | zero => intro X k v h1 h2 h3; have := hI.1.2.2.2.2.2; omega
    | succ m ih =>
      intro X k v h1 h2 h3
      have iX := mTs_inv hI h2
      have e2 := mTs_104 h2 2
      refine B_160_13 hT hR ⟨fun _ => hk _ X iX h2.1, fun c => ?_⟩
      rw [yadd_eq (x := (k : Int)) (by omega) (by omega)]
      intro Y eY
      have fY : mFm X Y := by rw [eY]; exact mFm_fld (mFm_rf X) (by omega) (by omega) _
      have iY : mInv Y := by rw [eY]; exact mInv_fld iX _ _ _ (by decide) (by decide) (by decide)
      refine r_isMet (d := d) hT hR iY (fun r Y2 _ i2 f2 => ⟨_, _, rfl, rfl, fun _ => ?_, fun _ => ?_⟩)
      · exact r_back2 hT hR hN (fun Z b => ⟨_, rfl, rfl, ih Z (k + 1) _ (by omega) (mTs_back h2 (mFm_tr fY f2) i2 b) (by omega)⟩)
      · exact r_back2 hT hR hN (fun Z b => ⟨_, rfl, rfl, ih Z (k + 1) _ (by omega) (mTs_back h2 (mFm_tr fY f2) i2 b) (by omega)⟩)
  exact loop 9 I2 0 0 rfl (mTs_tr s1 i1 t2) (by have := hI.1.2.2.2.2.1; omega)
theorem r_oneWay (hT : yLT T) (hR : yLR R) (hN : 126 ≤ N) (hI : mInv I) (hm0 : 0 ≤ I 104 458) (hk : ∀ r I', mInv I' → mSc I I' → K (some (yi r)) (N, T, R, I')) : yW l zSS D cy zFk z (d + 7) 221 bc bs K 0 0 0 [(0, yr (some 102))] [] (N, T, R, I) := by
  refine B_221_0 hT hR ?_
  intro I1 e1
  have s1 : mSc I I1 := by rw [e1]; exact mSc_thrown I 0
  have i1 : mInv I1 := by rw [e1]; exact mInv_fld hI _ _ _ (by decide) (by decide) (by decide)
  refine r_areAllThere (d := d + 4) hT hR i1.1.2.2.2.2 (fun r _ => ⟨_, _, rfl, rfl, fun _ => ?_, fun _ => hk _ _ i1 s1⟩)
  refine r_tries2 hT hR hN (fun I5 t5 => ⟨_, rfl, rfl, ?_⟩)
  have ts5 := mTs_tr s1 i1 t5
  have i5 := mTs_inv hI ts5
  -- one try: MINUTES, what is told, back
  have inner : ∀ (m : Nat) (X : Nat → Nat → Int) (at_ dir : Nat) (a b c : Int), dir + m = 4 → at_ < 100 → mTs I X → (∀ X2 a b c, mTs I X2 → yW l zSS D cy zFk z (d + 7) 221 bc bs K 0 0 41 [(0, yr (some 102)), (1, yi a), (2, yi b), (3, yi c), (4, yi ((at_ + 1 : Nat) : Int))] [] (N, T, R, X2)) →
      yW l zSS D cy zFk z (d + 7) 221 bc bs K 0 0 51 [(0, yr (some 102)), (1, yi a), (2, yi b), (3, yi c), (4, yi (at_ : Int)), (5, yi (dir : Int))] [] (N, T, R, X) := by
    intro m
    induction m with
    | zero =>
      intro X at_ dir a b c h1 h2 h3 hgo
      refine B_221_51 hT hR ⟨fun _ => ?_, fun q => absurd q (by omega)⟩
      rw [yadd_eq (x := (at_ : Int)) (by omega) (by omega)]
      exact hgo X a b c h3
    | succ m ih =>
      intro X at_ dir a b c h1 h2 h3 hgo
      have iX := mTs_inv hI h3
      refine B_221_51 hT hR ⟨fun q => absurd q (by omega), fun _ => ?_⟩
      rw [yadd_eq (x := (dir : Int)) (by omega) (by omega), yadd_eq (x := 526) (by omega) (by omega)]
      have e1 : ((526 : Int) + (at_ : Int)).toNat = 526 + at_ := by omega
      rw [e1]
      have next : ∀ (Z : Nat → Nat → Int) (a b c : Int), mTs I Z → yW l zSS D cy zFk z (d + 7) 221 bc bs K 0 0 51 [(0, yr (some 102)), (1, yi a), (2, yi b), (3, yi c), (4, yi (at_ : Int)), (5, yi ((dir : Int) + 1))] [] (N, T, R, Z) := fun Z a b c hz => ih Z at_ (dir + 1) a b c (by omega) h2 hz hgo
      refine r_isFree (d := d + 5) hT hR iX.1 (fun r _ => ⟨_, _, rfl, rfl, fun _ => next X a b c h3, fun _ => ⟨by omega, by omega, fun _ => ⟨by omega, by omega, ?_⟩, fun _ => next X a b c h3⟩⟩)
      intro Y eY
      have fY : mFm X Y := by rw [eY]; exact mFm_set (mFm_rf X) (by omega) (by omega) _
      have iY : mInv Y := by rw [eY]; exact mInv_set iX (by omega) (by omega) (by omega) (by omega) (by omega)
      have mY : Y 104 458 = I 104 458 := by rw [eY, yU_ne _ _ (by omega)]; exact mTs_104 h3 458
      refine r_runs (d := d) hT hR iY (by omega) (fun Y2 i2 f2 => ⟨_, rfl, rfl, ?_⟩)
      refine r_lastOf (d := d + 4) hT hR i2.1.2.2.2.2 (fun v => ⟨_, _, rfl, rfl, ?_⟩)
      refine r_waits hT hR i2.1.2.2.2.2 (fun w => ⟨_, _, rfl, rfl, ?_⟩)
      refine r_back2 hT hR hN (fun Z bk => ⟨_, rfl, rfl, ?_⟩)
      have tz := mTs_back h3 (mFm_tr fY f2) i2 bk
      exact ⟨fun _ => next Z _ _ _ tz, fun _ => ⟨fun _ => next Z _ _ _ tz, fun _ => ⟨fun _ => next Z _ _ _ tz, fun _ => next Z _ _ _ tz⟩⟩⟩
  have outer : ∀ (m : Nat) (X : Nat → Nat → Int) (at_ : Nat) (a b c : Int), at_ + m = 100 → mTs I X → yW l zSS D cy zFk z (d + 7) 221 bc bs K 0 0 41 [(0, yr (some 102)), (1, yi a), (2, yi b), (3, yi c), (4, yi (at_ : Int))] [] (N, T, R, X) := by
    intro m
    induction m with
    | zero => intro X at_ a b c h1 h2; exact B_221_41 hT hR ⟨fun _ => hk _ X (mTs_inv hI h2) h2.1, fun q => absurd q (by omega)⟩
    | succ m ih =>
      intro X at_ a b c h1 h2
      refine B_221_41 hT hR ⟨fun q => absurd q (by omega), fun _ => ?_⟩
      exact inner 4 X at_ 0 a b c rfl (by omega) h2 (fun X2 a b c h => ih X2 (at_ + 1) a b c (by omega) h)
  have m5 : I5 104 458 = I 104 458 := mTs_104 ts5 458
  refine r_runs (d := d) hT hR i5 (by omega) (fun I6 i6 f6 => ⟨_, rfl, rfl, ?_⟩)
  refine r_lastOf (d := d + 4) hT hR i6.1.2.2.2.2 (fun v => ⟨_, _, rfl, rfl, ?_⟩)
  refine r_waits hT hR i6.1.2.2.2.2 (fun w => ⟨_, _, rfl, rfl, ?_⟩)
  refine r_back2 hT hR hN (fun Z bk => ⟨_, rfl, rfl, ?_⟩)
  exact outer 100 Z 0 v w (-1) rfl (mTs_back ts5 f6 i6 bk)
end Sm
