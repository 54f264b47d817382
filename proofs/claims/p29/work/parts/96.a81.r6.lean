/-! THE REFERENCE's CONTRACTS, 6: MINUTES. -/
/-- what MINUTES may change -/
def mFm (I I' : Nat → Nat → Int) : Prop := ∀ k j, (k ≠ 104 ∨ j < 458 ∨ 926 ≤ j) → k ≠ 109 → k ≠ 110 → k ≠ 111 → k ≠ 112 → (k ≠ 102 ∨ j < 28 ∨ 33 ≤ j) → I' k j = I k j
theorem mFm_rf (I : Nat → Nat → Int) : mFm I I := fun _ _ _ _ _ _ _ _ => rfl
theorem mFm_tr {I I' I2 : Nat → Nat → Int} (h : mFm I I') (h' : mFm I' I2) : mFm I I2 := fun k j a b c d e f => (h' k j a b c d e f).trans (h k j a b c d e f)
theorem mFm_fr {I I' : Nat → Nat → Int} (h : mFr I I') : mFm I I' := fun k j a b c d e f => h k j (by omega) b c d e f
theorem mFm_wy {I I' : Nat → Nat → Int} (h : mWy I I') : mFm I I' := fun k j _ b c _ _ _ => h k j b c
theorem mInv_eq {I I' : Nat → Nat → Int} (h : mInv I) (h1 : ∀ j, I' 104 j = I 104 j) (h2 : mOr I') : mInv I' := by
  obtain ⟨a, b, c, d, e, f, _⟩ := h
  unfold mInv mDim mAt
  simp only [h1]
  exact ⟨a, b, c, d, e, f, h2⟩
theorem mInv_wy {I I' : Nat → Nat → Int} (h : mInv I) (hw : mWy I I') : mInv I' :=
  mInv_eq h (fun j => hw 104 j (by decide) (by decide)) (fun i hi => by rw [hw 111 i (by decide) (by decide), hw 112 i (by decide) (by decide)]; exact h.2.2.2.2.2.2 i hi)
section Sm
variable {l : Launch} {D : va_G} {cy : Nat → ClassId} {z d bc bs N : Nat} {T : Nat → Nat × Nat} {R : Nat → Nat → Option Nat} {I : Nat → Nat → Int} {K : yKo}
theorem r_setsOut (hT : yLT T) (hR : yLR R) (hI : mInv I) (hk : ∀ I', mInv I' → mFr I I' → K none (N, T, R, I')) : yW l zSS D cy zFk z (d + 2) 235 bc bs K 0 0 0 [(0, yr (some 102))] [] (N, T, R, I) := by
  have loop : ∀ (m : Nat) (I' : Nat → Nat → Int) (k : Nat), k + m = 9 → mInv I' → mFr I I' → (k : Int) ≤ I' 104 2 → yW l zSS D cy zFk z (d + 2) 235 bc bs K 0 0 2 [(0, yr (some 102)), (1, yi (k : Int))] [] (N, T, R, I') := by
    intro m
    induction m with
    | zero => intro I' k h1 h2 h3 h4; have := h2.1.2.2.2.2.2; omega
    | succ m ih =>
      intro I' k h1 h2 h3 h4
      have h8 := h2.1.2.2.2.2.2
      refine B_235_2 hT hR ⟨fun _ => hk I' h2 h3, fun c => ?_⟩
      have next : ∀ {I2}, mInv I2 → mFr I I2 → yW l zSS D cy zFk z (d + 2) 235 bc bs K 0 0 2 [(0, yr (some 102)), (1, yi ((k : Int) + 1))] [] (N, T, R, I2) := fun i2 f2 =>
        ih _ (k + 1) (by omega) i2 f2 (by rw [mFr_low f2 (by omega)]; rw [mFr_low h3 (by omega)] at c; omega)
      rw [yadd_eq (x := (k : Int)) (by omega) (by omega)]
      refine r_bitOf hT hR ⟨_, _, rfl, rfl, fun _ => next h2 h3, fun _ => ?_⟩
      rw [yadd_eq (x := 510) (by omega) (by omega), yadd_eq (x := 470) (by omega) (by omega), yadd_eq (x := 462) (by omega) (by omega), yadd_eq (x := 326) (by omega) (by omega), yadd_eq (x := 334) (by omega) (by omega), yadd_eq (x := 486) (by omega) (by omega)]
      have e1 : ((510 : Int) + (k : Int)).toNat = 510 + k := by omega
      have e2 : ((470 : Int) + (k : Int)).toNat = 470 + k := by omega
      have e3 : ((462 : Int) + (k : Int)).toNat = 462 + k := by omega
      have e4 : ((326 : Int) + (k : Int)).toNat = 326 + k := by omega
      have e5 : ((334 : Int) + (k : Int)).toNat = 334 + k := by omega
      have e6 : ((486 : Int) + (k : Int)).toNat = 486 + k := by omega
      rw [e1, e2, e3, e4, e5, e6]
      obtain ⟨hfr, _⟩ := h2.2.2.2.1 k (by omega) (by omega)
      obtain ⟨c0, c1⟩ := mCell_100 h2.1.2.1 h2.1.2.2.2.1 hfr
      have hrm := h2.2.2.1 (I' 104 (326 + k)).toNat (by omega)
      refine ⟨by omega, by omega, fun _ => next h2 h3, fun _ => ⟨by omega, by omega, fun _ => next h2 h3, fun _ => ⟨by omega, by omega, fun _ => ⟨by omega, by omega, by omega, by omega, fun _ => ⟨by omega, by omega, ?_⟩, fun _ => ⟨by omega, by omega, ?_⟩⟩, fun _ => next h2 h3⟩⟩⟩
      · refine r_hasRoom (d := d) hT hR h2.1.2.2.2.2 c0 c1 hrm.1 hrm.2 (fun r _ => ⟨_, _, rfl, rfl, fun _ => next h2 h3, fun _ => ⟨by omega, by omega, by omega, by omega, ?_⟩⟩)
        intro I28 g28
        rw [ynar1_eq (by omega) (by omega)] at g28
        have i28 : mInv I28 := by rw [g28]; exact mInv_set h2 (by omega) (by omega) (by omega) (fun _ _ => .inr (.inl hfr)) (by omega)
        have f28 : mFr I I28 := by rw [g28]; exact mFr_set h3 (by omega) (by omega) _
        refine ⟨by omega, by omega, ?_⟩
        intro I31 g31
        rw [ynar1_eq (by omega) (by omega)] at g31
        exact next (by rw [g31]; exact mInv_set i28 (by omega) (by omega) (by omega) (by omega) (fun _ _ => .inl rfl)) (by rw [g31]; exact mFr_set f28 (by omega) (by omega) _)
      · intro I34 g34
        exact next (by rw [g34]; exact mInv_set h2 (by omega) (by omega) (by omega) (by omega) (by omega)) (by rw [g34]; exact mFr_set h3 (by omega) (by omega) _)
  exact B_235_0 hT hR (loop 9 I 0 rfl hI (mFr_rf I) (by have := hI.1.2.2.2.2.1; omega))
/-- a MINUTE -/
theorem r_minute (hT : yLT T) (hR : yLR R) (hI : mInv I) (hm0 : -2147483648 ≤ I 104 458) (hm1 : I 104 458 < 2147483647) (hk : ∀ I', mInv I' → mFm I I' → I' 104 458 = I 104 458 + 1 → K none (N, T, R, I')) : yW l zSS D cy zFk z (d + 5) 215 bc bs K 0 0 0 [(0, yr (some 102))] [] (N, T, R, I) := by
  have dim : ∀ {I'}, mFr I I' → I' 104 2 = I 104 2 := fun h => mFr_low h (by omega)
  have h0 := hI.1.2.2.2.2.1
  have h8 := hI.1.2.2.2.2.2
  have l107 : ∀ (m : Nat) (I' : Nat → Nat → Int) (k : Nat), k + m = 9 → mInv I' → mFr I I' → (k : Int) ≤ I 104 2 → yW l zSS D cy zFk z (d + 5) 215 bc bs K 0 0 107 [(0, yr (some 102)), (1, yi (k : Int))] [] (N, T, R, I') := by
    intro m
    induction m with
    | zero => intro I' k h1 h2 h3 h4; omega
    | succ m ih =>
      intro I' k h1 h2 h3 h4
      have e2 := dim h3
      have e458 : I' 104 458 = I 104 458 := mFr_low h3 (by omega)
      refine B_215_107 hT hR ⟨fun _ => ?_, fun c => ?_⟩
      · intro I2 g2
        rw [yadd_eq (by omega) (by omega), ynar1_eq (by omega) (by omega)] at g2
        refine hk I2 (by rw [g2]; exact mInv_set h2 (by omega) (by omega) (by omega) (by omega) (by omega)) (fun a b p q r s t u => ?_) (by rw [g2, yU_eq, e458])
        rw [g2, yU_ne _ _ (by omega)]
        exact mFm_fr h3 a b p q r s t u
      · have next : ∀ {I2}, mInv I2 → mFr I I2 → yW l zSS D cy zFk z (d + 5) 215 bc bs K 0 0 107 [(0, yr (some 102)), (1, yi ((k : Int) + 1))] [] (N, T, R, I2) := fun i2 f2 => ih _ (k + 1) (by omega) i2 f2 (by omega)
        rw [yadd_eq (x := 470) (by omega) (by omega), yadd_eq (x := 334) (by omega) (by omega), yadd_eq (x := 510) (by omega) (by omega), yadd_eq (x := (k : Int)) (by omega) (by omega)]
        have e1 : ((470 : Int) + (k : Int)).toNat = 470 + k := by omega
        have e3 : ((510 : Int) + (k : Int)).toNat = 510 + k := by omega
        rw [e1, e3]
        refine ⟨by omega, by omega, fun _ => next h2 h3, fun _ => ⟨by omega, by omega, by omega, by omega, fun _ => ⟨by omega, by omega, ?_⟩, fun _ => next h2 h3⟩⟩
        intro I13 g13
        refine ⟨by omega, by omega, ?_⟩
        intro I16 g16
        rw [ynar1_eq (by omega) (by omega)] at g16
        have i13 : mInv I13 := by rw [g13]; exact mInv_set h2 (by omega) (by omega) (by omega) (by omega) (by omega)
        have f13 : mFr I I13 := by rw [g13]; exact mFr_set h3 (by omega) (by omega) _
        exact next (by rw [g16]; exact mInv_set i13 (by omega) (by omega) (by omega) (fun _ _ => .inl rfl) (by omega)) (by rw [g16]; exact mFr_set f13 (by omega) (by omega) _)
  have l79 : ∀ (m : Nat) (I' : Nat → Nat → Int) (k : Nat), k + m = 9 → mInv I' → mFr I I' → (k : Int) ≤ I 104 2 → yW l zSS D cy zFk z (d + 5) 215 bc bs K 0 0 79 [(0, yr (some 102)), (1, yi (k : Int))] [] (N, T, R, I') := by
    intro m
    induction m with
    | zero => intro I' k h1 h2 h3 h4; omega
    | succ m ih =>
      intro I' k h1 h2 h3 h4
      have e2 := dim h3
      refine B_215_79 hT hR ⟨fun _ => l107 9 I' 0 rfl h2 h3 (by omega), fun c => ⟨by omega, by omega, ?_⟩⟩
      have ek : ((k : Int)).toNat = k := by omega
      rw [yadd_eq (x := (k : Int)) (by omega) (by omega), ek]
      obtain ⟨o1, o2, _, _⟩ := h2.2.2.2.2.2.2 k (by omega)
      obtain ⟨o, ho⟩ : ∃ o : Nat, I' 111 k = (o : Int) := ⟨(I' 111 k).toNat, by omega⟩
      rw [ho]
      exact r_acts (d := d) hT hR (by omega) h2 (fun I2 i2 f2 => ⟨_, rfl, rfl, ih I2 (k + 1) (by omega) i2 (mFr_tr h3 f2) (by omega)⟩)
  have l20 : ∀ (m : Nat) (I' : Nat → Nat → Int) (k : Nat), k + m = 9 → mInv I' → mFr I I' → (k : Int) ≤ I 104 2 → yW l zSS D cy zFk z (d + 5) 215 bc bs K 0 0 20 [(0, yr (some 102)), (1, yi (k : Int))] [] (N, T, R, I') := by
    intro m
    induction m with
    | zero => intro I' k h1 h2 h3 h4; omega
    | succ m ih =>
      intro I' k h1 h2 h3 h4
      have e2 := dim h3
      refine B_215_20 hT hR ⟨fun _ => l79 9 I' 0 rfl h2 h3 (by omega), fun c => ?_⟩
      rw [yadd_eq (x := 518) (by omega) (by omega), yadd_eq (x := (k : Int)) (by omega) (by omega)]
      have e1 : ((518 : Int) + (k : Int)).toNat = 518 + k := by omega
      rw [e1]
      have both : ∀ v w : Int, yW l zSS D cy zFk z (d + 5) 215 bc bs K 0 0 20 [(0, yr (some 102)), (1, yi ((k : Int) + 1))] [] (N, T, R, yU (yU I' 102 32 v) 104 (518 + k) w) := fun v w =>
        ih _ (k + 1) (by omega) (mInv_set (mInv_fld h2 _ _ _ (by decide) (by decide) (by decide)) (by omega) (by omega) (by omega) (by omega) (by omega)) (mFr_set (mFr_fld h3 (by omega) (by omega) _) (by omega) (by omega) _) (by omega)
      refine ⟨by omega, by omega, fun _ => ?_, fun _ => ?_⟩
      · intro I5 g5
        refine ⟨by omega, by omega, ?_⟩
        intro I8 g8
        rw [g8, g5]; exact both _ _
      · intro I9 g9
        refine ⟨by omega, by omega, ?_⟩
        intro I12 g12
        rw [g12, g9]; exact both _ _
  refine B_215_0 hT hR (r_setsOut (d := d + 2) hT hR hI (fun I1 i1 f1 => ⟨_, rfl, rfl, ?_⟩))
  refine r_orders (d := d + 3) hT hR i1.1.2.2.2.2 i1.2.1 i1.2.2.2.2.2.2 (fun I2 f2 o2 => ⟨_, rfl, rfl, ?_⟩)
  intro I3 g3 I4 g4
  have i2 : mInv I2 := mInv_eq i1 (fun j => f2 104 j (by decide) (by decide)) o2
  have fr2 : mFr I I2 := fun a b p q r s t u => by rw [f2 a b s t]; exact f1 a b p q r s t u
  refine l20 9 I4 0 rfl ?_ ?_ (by omega)
  · rw [g4, g3]; exact mInv_fld (mInv_fld i2 _ _ _ (by decide) (by decide) (by decide)) _ _ _ (by decide) (by decide) (by decide)
  · rw [g4, g3]; exact mFr_fld (mFr_fld fr2 (by omega) (by omega) _) (by omega) (by omega) _
/-- on, till all are there, or to the last MINUTE -/
theorem r_runs (hT : yLT T) (hR : yLR R) (hI : mInv I) (hm0 : 0 ≤ I 104 458) (hk : ∀ I', mInv I' → mFm I I' → K none (N, T, R, I')) : yW l zSS D cy zFk z (d + 6) 232 bc bs K 0 0 0 [(0, yr (some 102))] [] (N, T, R, I) := by
  have loop : ∀ (m : Nat) (I' : Nat → Nat → Int), 500 ≤ I' 104 458 + (m : Int) → mInv I' → mFm I I' → 0 ≤ I' 104 458 → yW l zSS D cy zFk z (d + 6) 232 bc bs K 0 0 4 [(0, yr (some 102))] [] (N, T, R, I') := by
    intro m
    induction m with
    | zero => intro I' h1 h2 h3 h4; exact B_232_4 hT hR ⟨fun _ => hk I' h2 h3, fun c => absurd c (by omega)⟩
    | succ m ih =>
      intro I' h1 h2 h3 h4
      refine B_232_4 hT hR ⟨fun _ => hk I' h2 h3, fun c => ?_⟩
      refine r_areAllThere (d := d + 3) hT hR h2.1.2.2.2.2 (fun r _ => ⟨_, _, rfl, rfl, fun _ => hk I' h2 h3, fun _ => ?_⟩)
      exact r_minute (d := d) hT hR h2 (by omega) (by omega) (fun I2 i2 f2 e2 => ⟨_, rfl, rfl, ih I2 (by omega) i2 (mFm_tr h3 f2) (by omega)⟩)
  refine B_232_0 hT hR (r_ways (d := d + 1) hT hR hI.1 (fun I1 w1 => ⟨_, rfl, rfl, ?_⟩))
  have e : I1 104 458 = I 104 458 := w1 104 458 (by decide) (by decide)
  exact loop 500 I1 (by omega) (mInv_wy hI w1) (mFm_wy w1) (by omega)
end Sm
