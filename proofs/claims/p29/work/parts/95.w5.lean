/-! CONTRACTS of the class, printed by wip/whole/y/t4.py: SENTENCES read -/
section Sw
variable {l : Launch} {D : va_G} {cy : Nat → ClassId} {z d bc bs N : Nat} {T : Nat → Nat × Nat} {R : Nat → Nat → Option Nat} {I : Nat → Nat → Int} {K : yKo}
/-- readOne's contract within one another less than e -/
def cSn (l : Launch) (D : va_G) (cy : Nat → ClassId) (z N : Nat) (T : Nat → Nat × Nat) (R : Nat → Nat → Option Nat) (p e : Nat) : Prop := ∀ d : Nat, 3 * e ≤ d → ∀ (K : yKo) (I : Nat → Nat → Int) (x3 : Int), (0 ≤ I 1 1 ∧ I 1 1 ≤ 940 ∧ 0 ≤ I 1 3 ∧ I 1 3 ≤ 940) → (x3 ≤ 9 ∧ 9 - x3 < (e : Int)) → (∀ r I', (∀ k j, ¬ ((k = 1 ∧ 2 ≤ j) ∨ (p ≤ k ∧ k < p + 4)) → I' k j = I k j) → ((0 ≤ I' 1 1 ∧ I' 1 1 ≤ 940 ∧ 0 ≤ I' 1 3 ∧ I' 1 3 ≤ 940) ∧ (r = 0 ∨ r = 1)) → K (some (yi r)) (N, T, R, I')) → yW l zSS D cy zFk z (d + 8) 53 0 0 K 0 0 0 [(0, yr (some p)), (1, yr (some 1)), (2, yr (some 4)), (3, yi x3)] [] (N, T, R, I)
/-- ChairAlley$Sentence.readAll(LChairAlley$Reader;LChairAlley$Land;I)Z -/
theorem w_51 (hT : yLT T) (hR : yLR R) {e : Nat} {p : Nat} (hp : yAtSentence T R p) (gp : (1 < p ∧ p + 4 ≤ 102) ∨ 126 ≤ p) {x3 : Int} (h0 : 0 ≤ I 1 1 ∧ I 1 1 ≤ 940 ∧ 0 ≤ I 1 3 ∧ I 1 3 ≤ 940) (h1 : x3 ≤ 9 ∧ 9 - x3 < (e : Int)) (he : 3 * e ≤ d) (H : cSn l D cy z N T R p e) (hk : ∀ r I', (∀ k j, ¬ ((k = 1 ∧ 2 ≤ j) ∨ (p ≤ k ∧ k < p + 4)) → I' k j = I k j) → ((0 ≤ I' 1 1 ∧ I' 1 1 ≤ 940 ∧ 0 ≤ I' 1 3 ∧ I' 1 3 ≤ 940) ∧ (r = 0 ∨ r = 1)) → K (some (yi r)) (N, T, R, I')) : yW l zSS D cy zFk z (d + 9) 51 0 0 K 0 0 0 [(0, yr (some p)), (1, yr (some 1)), (2, yr (some 4)), (3, yi x3)] [] (N, T, R, I) := by
  have k0 : ∀ k j, ¬ ((k = 1 ∧ 2 ≤ j) ∨ (p ≤ k ∧ k < p + 4)) → I k j = I k j := fun _ _ _ => rfl
  have L : ∀ m : Nat, (∀ x3 x4 x5 : Int, ∀ X : Nat → Nat → Int, (∀ k j, ¬ ((k = 1 ∧ 2 ≤ j) ∨ (p ≤ k ∧ k < p + 4)) → X k j = I k j) → (20 - x5 : Int).toNat < m → (0 ≤ X 1 1 ∧ X 1 1 ≤ 940 ∧ 0 ≤ X 1 3 ∧ X 1 3 ≤ 940 ∧ 0 ≤ x5 ∧ x5 ≤ 20 ∧ (x4 = 0 ∨ x4 = 1) ∧ x3 ≤ 9 ∧ 9 - x3 < (e : Int)) → yW l zSS D cy zFk z (d + 9) 51 0 0 K 0 0 12 [(0, yr (some p)), (1, yr (some 1)), (2, yr (some 4)), (3, yi x3), (4, yi x4), (5, yi x5)] [] (N, T, R, X)) := by
    intro m
    induction m with
    | zero => exact fun _ _ _ _ _ h => absurd h (Nat.not_lt_zero _)
    | succ m ih =>
      intro x3 x4 x5 X kX hm iv
      first | have tX_1_1 := kX 1 1 (by omega) | skip
      first | have tX_1_3 := kX 1 3 (by omega) | skip
      refine e_li (i := 3) (x := x3) rfl fun _ _ => ?_
      refine e_li (i := 4) (x := x4) rfl fun _ _ => ?_
      refine e_li (i := 5) (x := x5) rfl fun _ _ => ?_
      refine B_51_12 hT hR hp ?_
      refine ⟨fun c1 => ?_, fun c1 => ?_⟩
      · refine ⟨by omega, ?_⟩
        exact hk _ _ kX (by omega)
      · refine ⟨fun c2 => ?_, fun c2 => ?_⟩
        · refine ⟨by omega, ?_⟩
          exact hk _ _ kX (by omega)
        · refine w_39 (d := d + 8) hT hR   (fun r3 q4 => ⟨_, _, rfl, rfl, ?_⟩)
          refine ⟨fun c6 => ?_, fun c6 => ?_⟩
          · refine ⟨by omega, ?_⟩
            exact hk _ _ kX (by omega)
          · refine w_31 (d := d + 3) hT hR  (by omega) (fun I7 f9 q8 => ⟨_, rfl, rfl, ?_⟩)
            have k10 : ∀ k j, ¬ ((k = 1 ∧ 2 ≤ j) ∨ (p ≤ k ∧ k < p + 4)) → I7 k j = I k j := fun k j h => (f9 k j (by omega)).trans (kX k j h)
            first | have tI7_1_1 := f9 1 1 (by omega) | skip
            first | have tI7_1_3 := f9 1 3 (by omega) | skip
            refine H d (by omega) _ _ _ (by omega) (by omega) (fun r11 I12 f14 q13 => ⟨_, _, rfl, rfl, ?_⟩)
            have k15 : ∀ k j, ¬ ((k = 1 ∧ 2 ≤ j) ∨ (p ≤ k ∧ k < p + 4)) → I12 k j = I k j := fun k j h => (f14 k j (by omega)).trans (k10 k j h)
            first | have tI12_1_1 := f14 1 1 (by omega) | skip
            first | have tI12_1_3 := f14 1 3 (by omega) | skip
            refine w_46 (d := d + 8) hT hR hp (by omega)  (fun I16 f18 q17 => ⟨_, rfl, rfl, ?_⟩)
            have k19 : ∀ k j, ¬ ((k = 1 ∧ 2 ≤ j) ∨ (p ≤ k ∧ k < p + 4)) → I16 k j = I k j := fun k j h => (f18 k j (by omega)).trans (k15 k j h)
            first | have tI16_1_1 := f18 1 1 (by omega) | skip
            first | have tI16_1_3 := f18 1 3 (by omega) | skip
            have a20 : yadd x5 1 = (x5 + 1) := yadd_eq (by omega) (by omega)
            try rw [a20]
            exact ih _ _ _ _ k19 (by omega) (by omega)
  refine e_li (i := 3) (x := x3) rfl fun _ _ => ?_
  refine B_51_0 hT hR hp ?_
  refine H d (by omega) _ _ _ (by omega) (by omega) (fun r21 I22 f24 q23 => ⟨_, _, rfl, rfl, ?_⟩)
  have k25 : ∀ k j, ¬ ((k = 1 ∧ 2 ≤ j) ∨ (p ≤ k ∧ k < p + 4)) → I22 k j = I k j := fun k j h => (f24 k j (by omega)).trans (k0 k j h)
  first | have tI22_1_1 := f24 1 1 (by omega) | skip
  first | have tI22_1_3 := f24 1 3 (by omega) | skip
  exact (L _) _ _ _ _ k25 (Nat.lt_succ_self _) (by omega)
/-- ChairAlley$Sentence.readCond(LChairAlley$Reader;LChairAlley$Land;I)Z -/
theorem w_52 (hT : yLT T) (hR : yLR R) {e : Nat} {p : Nat} (hp : yAtSentence T R p) (gp : (1 < p ∧ p + 4 ≤ 102) ∨ 126 ≤ p) {x3 : Int} (h0 : 0 ≤ I 1 1 ∧ I 1 1 ≤ 940 ∧ 0 ≤ I 1 3 ∧ I 1 3 ≤ 940) (h1 : x3 ≤ 9 ∧ 9 - x3 < (e : Int)) (he : 3 * e ≤ d) (H : cSn l D cy z N T R p e) (hk : ∀ r I', (∀ k j, ¬ ((k = 1 ∧ 2 ≤ j) ∨ (p ≤ k ∧ k < p + 4)) → I' k j = I k j) → ((0 ≤ I' 1 1 ∧ I' 1 1 ≤ 940 ∧ 0 ≤ I' 1 3 ∧ I' 1 3 ≤ 940) ∧ (r = 0 ∨ r = 1)) → K (some (yi r)) (N, T, R, I')) : yW l zSS D cy zFk z (d + 10) 52 0 0 K 0 0 0 [(0, yr (some p)), (1, yr (some 1)), (2, yr (some 4)), (3, yi x3)] [] (N, T, R, I) := by
  have k0 : ∀ k j, ¬ ((k = 1 ∧ 2 ≤ j) ∨ (p ≤ k ∧ k < p + 4)) → I k j = I k j := fun _ _ _ => rfl
  have L : ∀ m : Nat, (∀ x3 x4 x5 : Int, ∀ X : Nat → Nat → Int, (∀ k j, ¬ ((k = 1 ∧ 2 ≤ j) ∨ (p ≤ k ∧ k < p + 4)) → X k j = I k j) → (20 - x5 : Int).toNat < m → (0 ≤ X 1 1 ∧ X 1 1 ≤ 940 ∧ 0 ≤ X 1 3 ∧ X 1 3 ≤ 940 ∧ 0 ≤ x5 ∧ x5 ≤ 20 ∧ (x4 = 0 ∨ x4 = 1) ∧ x3 ≤ 9 ∧ 9 - x3 < (e : Int)) → yW l zSS D cy zFk z (d + 10) 52 0 0 K 0 0 12 [(0, yr (some p)), (1, yr (some 1)), (2, yr (some 4)), (3, yi x3), (4, yi x4), (5, yi x5)] [] (N, T, R, X)) := by
    intro m
    induction m with
    | zero => exact fun _ _ _ _ _ h => absurd h (Nat.not_lt_zero _)
    | succ m ih =>
      intro x3 x4 x5 X kX hm iv
      first | have tX_1_1 := kX 1 1 (by omega) | skip
      first | have tX_1_3 := kX 1 3 (by omega) | skip
      refine e_li (i := 3) (x := x3) rfl fun _ _ => ?_
      refine e_li (i := 4) (x := x4) rfl fun _ _ => ?_
      refine e_li (i := 5) (x := x5) rfl fun _ _ => ?_
      refine B_52_12 hT hR hp ?_
      refine ⟨fun c1 => ?_, fun c1 => ?_⟩
      · refine ⟨by omega, ?_⟩
        exact hk _ _ kX (by omega)
      · refine ⟨fun c2 => ?_, fun c2 => ?_⟩
        · refine ⟨by omega, ?_⟩
          exact hk _ _ kX (by omega)
        · refine w_39 (d := d + 9) hT hR   (fun r3 q4 => ⟨_, _, rfl, rfl, ?_⟩)
          refine ⟨fun c6 => ?_, fun c6 => ?_⟩
          · refine ⟨by omega, ?_⟩
            exact hk _ _ kX (by omega)
          · refine w_31 (d := d + 4) hT hR  (by omega) (fun I7 f9 q8 => ⟨_, rfl, rfl, ?_⟩)
            have k10 : ∀ k j, ¬ ((k = 1 ∧ 2 ≤ j) ∨ (p ≤ k ∧ k < p + 4)) → I7 k j = I k j := fun k j h => (f9 k j (by omega)).trans (kX k j h)
            first | have tI7_1_1 := f9 1 1 (by omega) | skip
            first | have tI7_1_3 := f9 1 3 (by omega) | skip
            refine w_51 (d := d) (e := e) hT hR hp (by omega) (by omega) (by omega) (by omega) H (fun r11 I12 f14 q13 => ⟨_, _, rfl, rfl, ?_⟩)
            have k15 : ∀ k j, ¬ ((k = 1 ∧ 2 ≤ j) ∨ (p ≤ k ∧ k < p + 4)) → I12 k j = I k j := fun k j h => (f14 k j (by omega)).trans (k10 k j h)
            first | have tI12_1_1 := f14 1 1 (by omega) | skip
            first | have tI12_1_3 := f14 1 3 (by omega) | skip
            refine w_46 (d := d + 9) hT hR hp (by omega)  (fun I16 f18 q17 => ⟨_, rfl, rfl, ?_⟩)
            have k19 : ∀ k j, ¬ ((k = 1 ∧ 2 ≤ j) ∨ (p ≤ k ∧ k < p + 4)) → I16 k j = I k j := fun k j h => (f18 k j (by omega)).trans (k15 k j h)
            first | have tI16_1_1 := f18 1 1 (by omega) | skip
            first | have tI16_1_3 := f18 1 3 (by omega) | skip
            have a20 : yadd x5 1 = (x5 + 1) := yadd_eq (by omega) (by omega)
            try rw [a20]
            exact ih _ _ _ _ k19 (by omega) (by omega)
  refine e_li (i := 3) (x := x3) rfl fun _ _ => ?_
  refine B_52_0 hT hR hp ?_
  refine w_51 (d := d) (e := e) hT hR hp (by omega) (by omega) (by omega) (by omega) H (fun r21 I22 f24 q23 => ⟨_, _, rfl, rfl, ?_⟩)
  have k25 : ∀ k j, ¬ ((k = 1 ∧ 2 ≤ j) ∨ (p ≤ k ∧ k < p + 4)) → I22 k j = I k j := fun k j h => (f24 k j (by omega)).trans (k0 k j h)
  first | have tI22_1_1 := f24 1 1 (by omega) | skip
  first | have tI22_1_3 := f24 1 3 (by omega) | skip
  exact (L _) _ _ _ _ k25 (Nat.lt_succ_self _) (by omega)
/-- ChairAlley$Sentence.readOne(LChairAlley$Reader;LChairAlley$Land;I)Z -/
theorem w_53a (hT : yLT T) (hR : yLR R) {e : Nat} {p : Nat} (hp : yAtSentence T R p) (gp : (1 < p ∧ p + 4 ≤ 102) ∨ 126 ≤ p) {x3 : Int} (h0 : 0 ≤ I 1 1 ∧ I 1 1 ≤ 940 ∧ 0 ≤ I 1 3 ∧ I 1 3 ≤ 940) (h1 : x3 ≤ 9 ∧ 9 - x3 < (e : Int) + 1) (he : 3 * e ≤ d) (H : cSn l D cy z N T R p e) (hk : ∀ r I', (∀ k j, ¬ ((k = 1 ∧ 2 ≤ j) ∨ (p ≤ k ∧ k < p + 4)) → I' k j = I k j) → ((0 ≤ I' 1 1 ∧ I' 1 1 ≤ 940 ∧ 0 ≤ I' 1 3 ∧ I' 1 3 ≤ 940) ∧ (r = 0 ∨ r = 1)) → K (some (yi r)) (N, T, R, I')) : yW l zSS D cy zFk z (d + 11) 53 0 0 K 0 0 0 [(0, yr (some p)), (1, yr (some 1)), (2, yr (some 4)), (3, yi x3)] [] (N, T, R, I) := by
  have k0 : ∀ k j, ¬ ((k = 1 ∧ 2 ≤ j) ∨ (p ≤ k ∧ k < p + 4)) → I k j = I k j := fun _ _ _ => rfl
  have L : ∀ m : Nat, (∀ x3 x4 : Int, ∀ X : Nat → Nat → Int, (∀ k j, ¬ ((k = 1 ∧ 2 ≤ j) ∨ (p ≤ k ∧ k < p + 4)) → X k j = I k j) → (4 : Int).toNat < m → (0 ≤ X 1 1 ∧ X 1 1 ≤ 940 ∧ 0 ≤ X 1 3 ∧ X 1 3 ≤ 940 ∧ x3 ≤ 9 ∧ 9 - x3 < (e : Int) + 1) → yW l zSS D cy zFk z (d + 11) 53 0 0 K 0 0 41 [(0, yr (some p)), (1, yr (some 1)), (2, yr (some 4)), (3, yi x3), (4, yi x4)] [] (N, T, R, X)) ∧ (∀ x3 x4 : Int, ∀ X : Nat → Nat → Int, (∀ k j, ¬ ((k = 1 ∧ 2 ≤ j) ∨ (p ≤ k ∧ k < p + 4)) → X k j = I k j) → (3 : Int).toNat < m → (0 ≤ X 1 1 ∧ X 1 1 ≤ 940 ∧ 0 ≤ X 1 3 ∧ X 1 3 ≤ 940 ∧ x3 ≤ 9 ∧ 9 - x3 < (e : Int) + 1) → yW l zSS D cy zFk z (d + 11) 53 0 0 K 0 0 64 [(0, yr (some p)), (1, yr (some 1)), (2, yr (some 4)), (3, yi x3), (4, yi x4)] [] (N, T, R, X)) ∧ (∀ X : Nat → Nat → Int, (∀ k j, ¬ ((k = 1 ∧ 2 ≤ j) ∨ (p ≤ k ∧ k < p + 4)) → X k j = I k j) → (1 : Int).toNat < m → (0 ≤ X 1 1 ∧ X 1 1 ≤ 940 ∧ 0 ≤ X 1 3 ∧ X 1 3 ≤ 940) → yW l zSS D cy zFk z (d + 11) 53 0 0 K 0 0 79 [(1, yr (some 1))] [] (N, T, R, X)) ∧ (∀ X : Nat → Nat → Int, (∀ k j, ¬ ((k = 1 ∧ 2 ≤ j) ∨ (p ≤ k ∧ k < p + 4)) → X k j = I k j) → (1 : Int).toNat < m → (0 ≤ X 1 1 ∧ X 1 1 ≤ 940 ∧ 0 ≤ X 1 3 ∧ X 1 3 ≤ 940) → yW l zSS D cy zFk z (d + 11) 53 0 0 K 0 0 135 [] [] (N, T, R, X)) := by
    intro m
    induction m with
    | zero => exact ⟨fun _ _ _ _ h => absurd h (Nat.not_lt_zero _), fun _ _ _ _ h => absurd h (Nat.not_lt_zero _), fun _ _ h => absurd h (Nat.not_lt_zero _), fun _ _ h => absurd h (Nat.not_lt_zero _)⟩
    | succ m ih =>
      refine ⟨?_, ?_, ?_, ?_⟩
      · intro x3 x4 X kX hm iv
        first | have tX_1_1 := kX 1 1 (by omega) | skip
        first | have tX_1_3 := kX 1 3 (by omega) | skip
        refine e_li (i := 3) (x := x3) rfl fun _ _ => ?_
        refine e_li (i := 4) (x := x4) rfl fun _ _ => ?_
        refine B_53_41 hT hR hp ?_
        refine ⟨fun c1 => ?_, fun c1 => ?_⟩
        · exact ih.2.1 _ _ _ kX (by omega) (by omega)
        · exact ih.2.1 _ _ _ kX (by omega) (by omega)
      · intro x3 x4 X kX hm iv
        first | have tX_1_1 := kX 1 1 (by omega) | skip
        first | have tX_1_3 := kX 1 3 (by omega) | skip
        refine e_li (i := 3) (x := x3) rfl fun _ _ => ?_
        refine e_li (i := 4) (x := x4) rfl fun _ _ => ?_
        refine B_53_64 hT hR hp ?_
        refine ⟨fun c2 => ?_, fun c2 => ?_⟩
        · exact ih.2.2.1  _ kX (by omega) (by omega)
        · refine ⟨fun c3 => ?_, fun c3 => ?_⟩
          · intro I4 e5
            have k6 : ∀ k j, ¬ ((k = 1 ∧ 2 ≤ j) ∨ (p ≤ k ∧ k < p + 4)) → I4 k j = I k j := fun k j h => ((congrFun (congrFun e5 k) j).trans (yU_ne _ _ (by omega))).trans (kX k j h)
            first | have tI4_1_1 : I4 1 1 = X 1 1 := (congrFun (congrFun e5 1) 1).trans (yU_ne _ _ (by omega)) | skip
            first | have tI4_1_3 : I4 1 3 = X 1 3 := (congrFun (congrFun e5 1) 3).trans (yU_ne _ _ (by omega)) | skip
            refine w_31 (d := d + 5) hT hR  (by omega) (fun I7 f9 q8 => ⟨_, rfl, rfl, ?_⟩)
            have k10 : ∀ k j, ¬ ((k = 1 ∧ 2 ≤ j) ∨ (p ≤ k ∧ k < p + 4)) → I7 k j = I k j := fun k j h => (f9 k j (by omega)).trans (k6 k j h)
            first | have tI7_1_1 := f9 1 1 (by omega) | skip
            first | have tI7_1_3 := f9 1 3 (by omega) | skip
            refine ⟨fun c11 => ?_, fun c11 => ?_⟩
            · refine ⟨fun c12 => ?_, fun c12 => ?_⟩
              · refine w_54 (d := d + 3) hT hR hp (by omega) (by omega) (fun r13 I14 f16 q15 => ⟨_, _, rfl, rfl, ?_⟩)
                have k17 : ∀ k j, ¬ ((k = 1 ∧ 2 ≤ j) ∨ (p ≤ k ∧ k < p + 4)) → I14 k j = I k j := fun k j h => (f16 k j (by omega)).trans (k10 k j h)
                first | have tI14_1_1 := f16 1 1 (by omega) | skip
                first | have tI14_1_3 := f16 1 3 (by omega) | skip
                refine ⟨by omega, ?_⟩
                exact hk _ _ k17 (by omega)
              · have a18 : yadd x3 1 = (x3 + 1) := yadd_eq (by omega) (by omega)
                try rw [a18]
                refine H (d + 2) (by omega) _ _ _ (by omega) (by omega) (fun r19 I20 f22 q21 => ⟨_, _, rfl, rfl, ?_⟩)
                have k23 : ∀ k j, ¬ ((k = 1 ∧ 2 ≤ j) ∨ (p ≤ k ∧ k < p + 4)) → I20 k j = I k j := fun k j h => (f22 k j (by omega)).trans (k10 k j h)
                first | have tI20_1_1 := f22 1 1 (by omega) | skip
                first | have tI20_1_3 := f22 1 3 (by omega) | skip
                refine w_46 (d := d + 10) hT hR hp (by omega)  (fun I24 f26 q25 => ⟨_, rfl, rfl, ?_⟩)
                have k27 : ∀ k j, ¬ ((k = 1 ∧ 2 ≤ j) ∨ (p ≤ k ∧ k < p + 4)) → I24 k j = I k j := fun k j h => (f26 k j (by omega)).trans (k23 k j h)
                first | have tI24_1_1 := f26 1 1 (by omega) | skip
                first | have tI24_1_3 := f26 1 3 (by omega) | skip
                refine ⟨by omega, ?_⟩
                exact hk _ _ k27 (by omega)
            · have a28 : yadd x3 1 = (x3 + 1) := yadd_eq (by omega) (by omega)
              try rw [a28]
              refine w_52 (d := d) (e := e) hT hR hp (by omega) (by omega) (by omega) (by omega) H (fun r29 I30 f32 q31 => ⟨_, _, rfl, rfl, ?_⟩)
              have k33 : ∀ k j, ¬ ((k = 1 ∧ 2 ≤ j) ∨ (p ≤ k ∧ k < p + 4)) → I30 k j = I k j := fun k j h => (f32 k j (by omega)).trans (k10 k j h)
              first | have tI30_1_1 := f32 1 1 (by omega) | skip
              first | have tI30_1_3 := f32 1 3 (by omega) | skip
              refine ⟨fun c34 => ?_, fun c34 => ?_⟩
              · exact ih.2.2.2  _ k33 (by omega) (by omega)
              · refine w_43 (d := d + 4) hT hR  (by omega) (fun r35 I36 f38 q37 => ⟨_, _, rfl, rfl, ?_⟩)
                have k39 : ∀ k j, ¬ ((k = 1 ∧ 2 ≤ j) ∨ (p ≤ k ∧ k < p + 4)) → I36 k j = I k j := fun k j h => (f38 k j (by omega)).trans (k33 k j h)
                first | have tI36_1_1 := f38 1 1 (by omega) | skip
                first | have tI36_1_3 := f38 1 3 (by omega) | skip
                refine ⟨fun c40 => ?_, fun c40 => ?_⟩
                · exact ih.2.2.2  _ k39 (by omega) (by omega)
                · exact hk _ _ k39 (by omega)
          · exact ih.2.2.1  _ kX (by omega) (by omega)
      · intro X kX hm iv
        first | have tX_1_1 := kX 1 1 (by omega) | skip
        first | have tX_1_3 := kX 1 3 (by omega) | skip
        refine B_53_79 hT hR hp ?_
        refine w_34 (d := d + 10) hT hR  (by omega) (fun r41 I42 f44 q43 => ⟨_, _, rfl, rfl, ?_⟩)
        have k45 : ∀ k j, ¬ ((k = 1 ∧ 2 ≤ j) ∨ (p ≤ k ∧ k < p + 4)) → I42 k j = I k j := fun k j h => (f44 k j (by omega)).trans (kX k j h)
        first | have tI42_1_1 := f44 1 1 (by omega) | skip
        first | have tI42_1_3 := f44 1 3 (by omega) | skip
        refine ⟨by omega, ?_⟩
        exact hk _ _ k45 (by omega)
      · intro X kX hm iv
        first | have tX_1_1 := kX 1 1 (by omega) | skip
        first | have tX_1_3 := kX 1 3 (by omega) | skip
        refine B_53_135 hT hR hp ?_
        exact hk _ _ kX (by omega)
  refine e_li (i := 3) (x := x3) rfl fun _ _ => ?_
  refine B_53_0 hT hR hp ?_
  refine w_38 (d := d + 10) hT hR   (fun r46 q47 => ⟨_, _, rfl, rfl, ?_⟩)
  refine w_39 (d := d + 10) hT hR   (fun r49 q50 => ⟨_, _, rfl, rfl, ?_⟩)
  refine ⟨fun c52 => ?_, fun c52 => ?_⟩
  · exact (L _).1 _ _ _ k0 (Nat.lt_succ_self _) (by omega)
  · refine w_39 (d := d + 10) hT hR   (fun r53 q54 => ⟨_, _, rfl, rfl, ?_⟩)
    refine ⟨fun c56 => ?_, fun c56 => ?_⟩
    · exact (L _).1 _ _ _ k0 (Nat.lt_succ_self _) (by omega)
    · refine w_39 (d := d + 10) hT hR   (fun r57 q58 => ⟨_, _, rfl, rfl, ?_⟩)
      refine ⟨fun c60 => ?_, fun c60 => ?_⟩
      · refine ⟨fun c61 => ?_, fun c61 => ?_⟩
        · exact (L _).2.1 _ _ _ k0 (Nat.lt_succ_self _) (by omega)
        · refine w_34 (d := d + 10) hT hR  (by omega) (fun r62 I63 f65 q64 => ⟨_, _, rfl, rfl, ?_⟩)
          have k66 : ∀ k j, ¬ ((k = 1 ∧ 2 ≤ j) ∨ (p ≤ k ∧ k < p + 4)) → I63 k j = I k j := fun k j h => (f65 k j (by omega)).trans (k0 k j h)
          first | have tI63_1_1 := f65 1 1 (by omega) | skip
          first | have tI63_1_3 := f65 1 3 (by omega) | skip
          refine ⟨by omega, ?_⟩
          exact hk _ _ k66 (by omega)
      · exact (L _).1 _ _ _ k0 (Nat.lt_succ_self _) (by omega)
theorem cSn_all (hT : yLT T) (hR : yLR R) {p : Nat} (hp : yAtSentence T R p) (gp : (1 < p ∧ p + 4 ≤ 102) ∨ 126 ≤ p) : ∀ e, cSn l D cy z N T R p e := by
  intro e
  induction e with
  | zero => intro d _ K I x3 _ h; omega
  | succ e ih =>
    intro d hd K I x3 h0 h1 hk
    obtain ⟨d1, rfl⟩ : ∃ d1, d = d1 + 3 := ⟨d - 3, by omega⟩
    exact w_53a (d := d1) hT hR hp gp h0 (by omega) (by omega) ih hk
/-- ChairAlley$Sentence.read(LChairAlley$Reader;LChairAlley$Land;)I -/
theorem w_50 (hT : yLT T) (hR : yLR R) {p : Nat} (hp : yAtSentence T R p) (gp : (1 < p ∧ p + 4 ≤ 102) ∨ 126 ≤ p) (h0 : 0 ≤ I 1 1 ∧ I 1 1 ≤ 940 ∧ 0 ≤ I 1 3 ∧ I 1 3 ≤ 940) (hk : ∀ r I', (∀ k j, ¬ ((k = 1 ∧ 2 ≤ j) ∨ (p ≤ k ∧ k < p + 4)) → I' k j = I k j) → ((0 ≤ I' 1 1 ∧ I' 1 1 ≤ 940 ∧ 0 ≤ I' 1 3 ∧ I' 1 3 ≤ 940)) → K (some (yi r)) (N, T, R, I')) : yW l zSS D cy zFk z (d + 38) 50 bc bs K 0 0 0 [(0, yr (some p)), (1, yr (some 1)), (2, yr (some 4))] [] (N, T, R, I) := by
  have k0 : ∀ k j, ¬ ((k = 1 ∧ 2 ≤ j) ∨ (p ≤ k ∧ k < p + 4)) → I k j = I k j := fun _ _ _ => rfl
  refine B_50_0 hT hR hp ?_
  intro I1 e2
  have k3 : ∀ k j, ¬ ((k = 1 ∧ 2 ≤ j) ∨ (p ≤ k ∧ k < p + 4)) → I1 k j = I k j := fun k j h => ((congrFun (congrFun e2 k) j).trans (yU_ne _ _ (by omega))).trans (k0 k j h)
  first | have tI1_1_1 : I1 1 1 = I 1 1 := (congrFun (congrFun e2 1) 1).trans (yU_ne _ _ (by omega)) | skip
  first | have tI1_1_3 : I1 1 3 = I 1 3 := (congrFun (congrFun e2 1) 3).trans (yU_ne _ _ (by omega)) | skip
  intro I4 e5
  have k6 : ∀ k j, ¬ ((k = 1 ∧ 2 ≤ j) ∨ (p ≤ k ∧ k < p + 4)) → I4 k j = I k j := fun k j h => ((congrFun (congrFun e5 k) j).trans (yU_ne _ _ (by omega))).trans (k3 k j h)
  first | have tI4_1_1 : I4 1 1 = I1 1 1 := (congrFun (congrFun e5 1) 1).trans (yU_ne _ _ (by omega)) | skip
  first | have tI4_1_3 : I4 1 3 = I1 1 3 := (congrFun (congrFun e5 1) 3).trans (yU_ne _ _ (by omega)) | skip
  refine w_52 (d := d + 27) (e := 9) hT hR hp (by omega) (by omega) (by omega) (by omega) (cSn_all hT hR hp gp 9) (fun r7 I8 f10 q9 => ⟨_, _, rfl, rfl, ?_⟩)
  have k11 : ∀ k j, ¬ ((k = 1 ∧ 2 ≤ j) ∨ (p ≤ k ∧ k < p + 4)) → I8 k j = I k j := fun k j h => (f10 k j (by omega)).trans (k6 k j h)
  first | have tI8_1_1 := f10 1 1 (by omega) | skip
  first | have tI8_1_3 := f10 1 3 (by omega) | skip
  refine ⟨fun c12 => ?_, fun c12 => ?_⟩
  · exact hk _ _ k11 (by omega)
  · refine w_33 (d := d + 36) hT hR  (by omega) (fun r13 I14 f16 q15 => ⟨_, _, rfl, rfl, ?_⟩)
    have k17 : ∀ k j, ¬ ((k = 1 ∧ 2 ≤ j) ∨ (p ≤ k ∧ k < p + 4)) → I14 k j = I k j := fun k j h => (f16 k j (by omega)).trans (k11 k j h)
    first | have tI14_1_1 := f16 1 1 (by omega) | skip
    first | have tI14_1_3 := f16 1 3 (by omega) | skip
    refine ⟨fun c18 => ?_, fun c18 => ?_⟩
    · exact hk _ _ k17 (by omega)
    · exact hk _ _ k17 (by omega)
end Sw
