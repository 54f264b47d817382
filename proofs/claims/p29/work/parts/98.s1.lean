/-! THE REFERENCE's CONTRACTS: days drawn. -/
/-- between two tries, E apart: rows in hand alone have changed, and what was so is kept -/
def mTz (E : Nat → Nat → Prop) (I0 X : Nat → Nat → Int) : Prop := (∀ q j, ¬ E q j → q ≠ 109 → q ≠ 110 → q ≠ 111 → q ≠ 112 → q ≠ 114 → (q ≠ 102 ∨ (j ≠ 0 ∧ (j < 28 ∨ 33 ≤ j))) → X q j = I0 q j) ∧ (∀ j, j < 468 → X 114 j = I0 104 (458 + j)) ∧ mOr X
theorem mTz_inv {E : Nat → Nat → Prop} {I0 X : Nat → Nat → Int} (hE : ∀ j, ¬ E 104 j) (h : mInv I0) (t : mTz E I0 X) : mInv X := mInv_eq h (fun j => t.1 104 j (hE j) (by decide) (by decide) (by decide) (by decide) (by decide) (.inl (by decide))) t.2.2
theorem mTz_back {E : Nat → Nat → Prop} {I0 X Y Z : Nat → Nat → Int} (hE : ∀ j, ¬ E 104 j ∧ ¬ E 114 j) (t : mTz E I0 X) (f : ∀ q j, ¬ E q j → (q ≠ 104 ∨ j < 458 ∨ 926 ≤ j) → q ≠ 109 → q ≠ 110 → q ≠ 111 → q ≠ 112 → (q ≠ 102 ∨ j < 28 ∨ 33 ≤ j) → Y q j = X q j) (i : mInv Y) (b : mBk Y Z) : mTz E I0 Z := by
  refine ⟨fun q j e a1 a2 a3 a4 a5 a6 => ?_, fun j hj => ?_, fun u hu => ?_⟩
  · by_cases h : q = 104 ∧ 458 ≤ j ∧ j < 926
    · obtain ⟨rfl, h1, h2⟩ := h
      have g := b.1 (j - 458) (by omega)
      rw [show 458 + (j - 458) = j by omega] at g
      rw [g, f 114 _ (hE _).2 (.inl (by decide)) (by decide) (by decide) (by decide) (by decide) (.inl (by decide)), t.2.1 _ (by omega), show 458 + (j - 458) = j by omega]
    · rw [b.2 q j (by omega) (by omega), f q j e (by omega) a1 a2 a3 a4 (by omega)]
      exact t.1 q j e a1 a2 a3 a4 a5 a6
  · rw [b.2 114 j (.inl (by decide)) (.inl (by decide)), f 114 _ (hE _).2 (.inl (by decide)) (by decide) (by decide) (by decide) (by decide) (.inl (by decide))]
    exact t.2.1 j hj
  · rw [b.2 111 u (.inl (by decide)) (.inl (by decide)), b.2 112 u (.inl (by decide)) (.inl (by decide))]
    exact i.2.2.2.2.2.2 u hu
section Sm
variable {l : Launch} {D : va_G} {cy : Nat → ClassId} {z d bc bs N : Nat} {T : Nat → Nat × Nat} {R : Nat → Nat → Option Nat} {I : Nat → Nat → Int} {K : yKo}
/-- what a draw answers, and the seed then -/
def mDr (x n : Int) : Int := yrem (yushr (yadd (ymul x (nI 1103515245).toInt) 12345) 8) n
set_option maxRecDepth 20000 in
theorem r_draw (hT : yLT T) (hR : yLR R) {x1 : Int} (hx : x1 ≠ 0) (hk : K (some (yi (mDr (I 102 44) x1))) (N, T, R, yU I 102 44 (yadd (ymul (I 102 44) (nI 1103515245).toInt) 12345))) : yW l zSS D cy zFk z d 174 bc bs K 0 0 0 [(0, yr (some 102)), (1, yi x1)] [] (N, T, R, I) := by
  unfold mDr at hk
  refine e_12 (f_174 (pc := 0) (e := (0, 12, 0, 0, 0, 0, 0, 1)) rfl) rfl ?_
  refine e_12 (f_174 (pc := 1) (e := (1, 12, 0, 0, 0, 0, 0, 2)) rfl) rfl ?_
  refine e_90 zA (f_174 (pc := 2) (e := (2, 90, 11, 44, 0, 395, 1253, 5)) rfl) rfl (hT 102 rfl) rfl rfl ?_
  refine e_4 (f_174 (pc := 5) (e := (5, 4, 1103515245, 0, 0, 398, 1254, 8)) rfl) (v := (nI 1103515245).toInt) rfl ?_
  generalize (nI 1103515245).toInt = q at *
  have hk2 : ∀ I2, I2 = yU I 102 44 (yadd (ymul (I 102 44) q) 12345) → K (some (yi (yrem (yushr (I2 102 44) 8) x1))) (N, T, R, I2) := by
    intro I2 e
    rw [e, yU_eq]; exact hk
  refine e_32 (f_174 (pc := 8) (e := (8, 32, 0, 0, 0, 0, 0, 9)) rfl) ?_
  refine e_2 (f_174 (pc := 9) (e := (9, 2, 12345, 0, 0, 0, 0, 12)) rfl) (v := 12345) rfl ?_
  refine e_30 (f_174 (pc := 12) (e := (12, 30, 0, 0, 0, 0, 0, 13)) rfl) ?_
  show yW l zSS D cy zFk z d 174 bc bs K 0 0 13 [(0, yr (some 102)), (1, yi x1)] [yi (yadd (ymul (I 102 44) q) 12345), yr (some 102)] (N, T, R, I)
  clear hk
  generalize yadd (ymul (I 102 44) q) 12345 = v at *
  refine e_91 zA (f_174 (pc := 13) (e := (13, 91, 11, 44, 0, 395, 1253, 16)) rfl) rfl (hT 102 rfl) rfl rfl trivial ?_
  show yW l zSS D cy zFk z d 174 bc bs K 0 0 16 [(0, yr (some 102)), (1, yi x1)] [] (N, T, R, yU I 102 44 v)
  have hk3 := hk2 _ rfl
  generalize yU I 102 44 v = I2 at *
  refine e_12 (f_174 (pc := 16) (e := (16, 12, 0, 0, 0, 0, 0, 17)) rfl) rfl ?_
  refine e_90 zA (f_174 (pc := 17) (e := (17, 90, 11, 44, 0, 395, 1253, 20)) rfl) rfl (hT 102 rfl) rfl rfl ?_
  refine e_1 (f_174 (pc := 20) (e := (20, 1, 8, 0, 0, 0, 0, 22)) rfl) (v := 8) rfl ?_
  refine e_41 (f_174 (pc := 22) (e := (22, 41, 0, 0, 0, 0, 0, 23)) rfl) ?_
  refine e_10 (f_174 (pc := 23) (e := (23, 10, 1, 0, 0, 0, 0, 24)) rfl) rfl ?_
  refine e_34 (f_174 (pc := 24) (e := (24, 34, 0, 0, 0, 0, 0, 25)) rfl) hx ?_
  exact e_120 (f_174 (pc := 25) (e := (25, 120, 0, 0, 0, 0, 0, 0)) rfl) hk3
theorem r_starts (hT : yLT T) (hR : yLR R) {x1 : Int} (hI : mInv I) (hk : ∀ I', mInv I' → (∀ q j, (q ≠ 104 ∨ j < 462 ∨ 470 ≤ j) → (q ≠ 102 ∨ j ≠ 44) → I' q j = I q j) → K none (N, T, R, I')) : yW l zSS D cy zFk z (d + 1) 239 bc bs K 0 0 0 [(0, yr (some 102)), (1, yi x1)] [] (N, T, R, I) := by
  have loop : ∀ (m : Nat) (X : Nat → Nat → Int) (k : Nat), k + m = 9 → (k : Int) ≤ I 104 2 → mInv X → (∀ q j, (q ≠ 104 ∨ j < 462 ∨ 470 ≤ j) → (q ≠ 102 ∨ j ≠ 44) → X q j = I q j) → yW l zSS D cy zFk z (d + 1) 239 bc bs K 0 0 7 [(0, yr (some 102)), (2, yi (k : Int))] [] (N, T, R, X) := by
    intro m
    induction m with
    | zero => intro X k h1 h2; have := hI.1.2.2.2.2; omega
    | succ m ih =>
      intro X k h1 h2 iX fX
      have h8 := hI.1.2.2.2.2
      have c2 : X 104 2 = I 104 2 := fX 104 2 (by omega) (by omega)
      refine B_239_7 hT hR ⟨fun _ => hk X iX fX, fun _ => ?_⟩
      refine r_draw hT hR (by omega) ⟨_, _, rfl, rfl, ?_⟩
      rw [yadd_eq (x := 462) (by omega) (by omega), yadd_eq (x := (k : Int)) (by omega) (by omega), show ((462 : Int) + (k : Int)).toNat = 462 + k by omega]
      refine ⟨by omega, by omega, ?_⟩
      intro I6 e6
      have iY := mInv_fld iX 102 44 (yadd (ymul (X 102 44) (nI 1103515245).toInt) 12345) (by decide) (by decide) (by decide)
      refine ih I6 (k + 1) (by omega) (by omega) (by rw [e6]; exact mInv_set iY (by omega) (by omega) (by omega) (by omega) (by omega)) (fun q j a b => ?_)
      rw [e6, yU_ne _ _ (by omega), yU_ne _ _ (by omega)]; exact fX q j a b
  refine B_239_0 hT hR ?_
  intro I1 e1
  exact loop 9 I1 0 rfl (by have := hI.1.2.2.2.2; omega) (by rw [e1]; exact mInv_fld hI _ _ _ (by decide) (by decide) (by decide)) (fun q j _ b => by rw [e1, yU_ne _ _ (by omega)])
/-- what DRAWN starts may change -/
def mPd (I I' : Nat → Nat → Int) : Prop := ∀ k j, (k ≠ 104 ∨ j < 458 ∨ 926 ≤ j) → k ≠ 109 → k ≠ 110 → k ≠ 111 → k ≠ 112 → k ≠ 113 → (k ≠ 102 ∨ (j ≠ 0 ∧ (j < 28 ∨ 33 ≤ j) ∧ j ≠ 35 ∧ j ≠ 44)) → I' k j = I k j
theorem r_drawn (hT : yLT T) (hR : yLR R) (hN : 126 ≤ N) {x1 : Int} (hI : mInv I) (hm : 0 ≤ I 104 458 ∧ I 104 458 ≤ 500) (hU : mUn I) (hk : ∀ r I', mInv I' → (0 ≤ I' 104 458 ∧ I' 104 458 ≤ 500) → mUn I' → mPd I I' → K (some (yi r)) (N, T, R, I')) : yW l zSS D cy zFk z (d + 2) 175 bc bs K 0 0 0 [(0, yr (some 102)), (1, yi x1)] [] (N, T, R, I) := by
  refine B_175_0 hT hR ?_
  intro I1 e1
  have n1 : ∀ k j, (k ≠ 102 ∨ j ≠ 0) → I1 k j = I k j := fun k j h => by rw [e1, yU_ne _ _ (by omega)]
  have i1 : mInv I1 := by rw [e1]; exact mInv_fld hI _ _ _ (by decide) (by decide) (by decide)
  have u1 : mUn I1 := mUn_sc (by rw [e1]; exact mSc_thrown I 0) hU
  have m1 : 0 ≤ I1 104 458 ∧ I1 104 458 ≤ 500 := by rw [n1 104 458 (by omega)]; exact hm
  refine ⟨fun _ => ?_, fun _ => hk _ I1 i1 m1 u1 (fun k j _ _ _ _ _ _ h => n1 k j (by omega))⟩
  refine r_keep hT hR hN i1 m1 u1 (fun I3 u3 _ f3 => ⟨_, rfl, rfl, ?_⟩)
  have i3 := (mKp_inv i1 f3).1
  refine r_starts (d := d) hT hR i3 (fun I4 i4 f4 => ⟨_, rfl, rfl, ?_⟩)
  refine r_begins hT hR i4 (fun I5 i5 f5 z5 => ⟨_, rfl, rfl, ?_⟩)
  refine hk _ I5 i5 (by omega) ?_ (fun k j a b1 b2 b3 b4 b5 b6 => ?_)
  · refine mUn_fm f5 ?_
    obtain ⟨v0, v8, vs⟩ := u3
    have a35 : I4 102 35 = I3 102 35 := f4 102 35 (by omega) (by omega)
    exact ⟨by omega, by omega, fun u hu => mSl_at (f4 104 0 (by omega) (by omega)) (f4 104 1 (by omega) (by omega)) (fun j hj => f4 113 _ (by omega) (by omega)) (vs u (by omega))⟩
  · rw [f5 k j a b1 b2 b3 b4 (by omega), f4 k j (by omega) (by omega), f3 k j b5 (by omega)]; exact n1 k j (by omega)
/-- what ODDS may change -/
def mPo (I I' : Nat → Nat → Int) : Prop := ∀ q j, ¬ (q = 102 ∧ j = 44) → q ≠ 109 → q ≠ 110 → q ≠ 111 → q ≠ 112 → q ≠ 114 → (q ≠ 102 ∨ (j ≠ 0 ∧ (j < 28 ∨ 33 ≤ j))) → I' q j = I q j
theorem r_odds (hT : yLT T) (hR : yLR R) (hN : 126 ≤ N) {x1 x2 : Int} (hI : mInv I) (hk : ∀ r I', mInv I' → mPo I I' → K (some (yi r)) (N, T, R, I')) : yW l zSS D cy zFk z (d + 7) 219 bc bs K 0 0 0 [(0, yr (some 102)), (1, yi x1), (2, yi x2)] [] (N, T, R, I) := by
  refine B_219_0 hT hR ?_
  intro I1 e1
  have s1 : mSc I I1 := by rw [e1]; exact mSc_thrown I 0
  have i1 : mInv I1 := by rw [e1]; exact mInv_fld hI _ _ _ (by decide) (by decide) (by decide)
  have no := hk (-1) I1 i1 (fun q j _ a b c d e f => s1 q j a b c d e f)
  refine w_191 hT hR (fun r3 q3 => ⟨_, _, rfl, rfl, fun _ => no, fun c3 => ⟨fun _ => ?_, fun _ => no⟩⟩)
  refine r_tries2 hT hR hN (fun I6 t6 => ⟨_, rfl, rfl, ?_⟩)
  have ts := mTs_tr s1 i1 t6
  have t0 : mTz (fun q j => q = 102 ∧ j = 44) I I6 := ⟨fun q j _ a b c d e f => ts.1 q j a b c d e f, ts.2⟩
  have loop : ∀ (m : Nat) (X : Nat → Nat → Int) (k n : Nat), k + m = 40 → n ≤ k → (k : Int) ≤ x1 → mTz (fun q j => q = 102 ∧ j = 44) I X → yW l zSS D cy zFk z (d + 7) 219 bc bs K 0 0 35 [(0, yr (some 102)), (1, yi x1), (2, yi x2), (3, yi (n : Int)), (4, yi (k : Int))] [] (N, T, R, X) := by
    intro m
    induction m with
    | zero =>
      intro X k n h1 h2 h3 tX
      exact B_219_35 hT hR ⟨fun _ => hk _ X (mTz_inv (fun j => by omega) hI tX) tX.1, fun q => absurd q (by omega)⟩
    | succ m ih =>
      intro X k n h1 h2 h3 tX
      have iX := mTz_inv (fun j => by omega) hI tX
      refine B_219_35 hT hR ⟨fun _ => hk _ X iX tX.1, fun _ => ?_⟩
      rw [yadd_eq (x := (n : Int)) (y := 0) (by omega) (by omega), yadd_eq (x := (n : Int)) (y := 1) (by omega) (by omega), yadd_eq (x := (k : Int)) (by omega) (by omega)]
      refine r_starts (d := d + 5) hT hR iX (fun I2 i2 f2 => ⟨_, rfl, rfl, ?_⟩)
      refine r_isMet (d := d) hT hR i2 (fun r4 I3 _ i3 f3 => ⟨_, _, rfl, rfl, fun _ => ?_, fun _ => ?_⟩)
      · refine r_back2 hT hR hN (fun I5 b5 => ⟨_, rfl, rfl, ?_⟩)
        refine ih I5 (k + 1) n (by omega) (by omega) (by omega) (mTz_back (fun j => by omega) tX (fun q j e a1 a2 a3 a4 a5 a6 => ?_) i3 b5)
        rw [f3 q j a1 a2 a3 a4 a5 a6, f2 q j (by omega) (by omega)]
      · refine r_back2 hT hR hN (fun I5 b5 => ⟨_, rfl, rfl, ?_⟩)
        refine ih I5 (k + 1) (n + 1) (by omega) (by omega) (by omega) (mTz_back (fun j => by omega) tX (fun q j e a1 a2 a3 a4 a5 a6 => ?_) i3 b5)
        rw [f3 q j a1 a2 a3 a4 a5 a6, f2 q j (by omega) (by omega)]
  exact loop 40 I6 0 0 rfl (Nat.le_refl _) (by omega) t0
end Sm
