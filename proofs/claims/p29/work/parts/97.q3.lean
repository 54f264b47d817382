/-! THE REFERENCE's CONTRACTS: SENTENCE, operands, what comes behind them, all of it. -/
def mOw (k j : Nat) : Prop := (k = 102 ∧ (j = 4 ∨ (11 ≤ j ∧ j ≤ 18) ∨ (48 ≤ j ∧ j ≤ 52))) ∨ k = 106 ∨ k = 121
def mRt (X : Nat → Nat → Int) : Prop := 0 ≤ X 102 3 ∧ X 102 3 ≤ 940 ∧ 0 ≤ X 102 4 ∧ X 102 4 ≤ 940 ∧ 0 ≤ X 102 14 ∧ X 102 14 ≤ 10000
/-- an operand's beginning is read, or all of it -/
def mOd (I I' : Nat → Nat → Int) : Prop := I' 102 49 = I 102 49 + 1 ∧ 0 ≤ I' 102 50 ∧ ((mSe I' 0 ∧ I' 102 52 = 0 ∧ I' 102 50 ≤ I 102 50 + 1) ∨ (mSe I' 1 ∧ I' 102 52 = 1 ∧ I' 102 50 ≤ I 102 50))
/-- what comes behind an operand is read -/
def mBh (I I' : Nat → Nat → Int) : Prop := I' 102 49 = I 102 49 ∧ 0 ≤ I' 102 50 ∧ ((mSe I' 0 ∧ I' 102 52 = 0 ∧ I' 102 50 ≤ I 102 50 + 1) ∨ (mSe I' 1 ∧ I' 102 52 = 1 ∧ I' 102 50 < I 102 50))
section Sm
variable {l : Launch} {D : va_G} {cy : Nat → ClassId} {z d bc bs N : Nat} {T : Nat → Nat × Nat} {R : Nat → Nat → Option Nat} {I : Nat → Nat → Int} {K : yKo}
theorem r_operand (hT : yLT T) (hR : yLR R) (hr : mRt I) (hS : mSe I 0) (hW : I 102 52 = 0) (hC : 0 ≤ I 104 2 ∧ I 104 2 ≤ 8) (hk : ∀ r I', (r = 0 ∨ r = 1) → mRt I' → (∀ k j, ¬ mOw k j → I' k j = I k j) → (r = 1 → mOd I I') → K (some (yi r)) (N, T, R, I')) : yW l zSS D cy zFk z (d + 2) 222 bc bs K 0 0 0 [(0, yr (some 102))] [] (N, T, R, I) := by
  obtain ⟨c, t, hc, ht, hb, h20, hD, hO⟩ := hS
  -- it is none: a FAULT
  have bad : ∀ (X : Nat → Nat → Int) (v : Int), mRt X → (∀ k j, ¬ mOw k j → X k j = I k j) → yW l zSS D cy zFk z (d + 1) 159 0 0 (fun r h' => ∃ r2 I1, r = some (yi r2) ∧ h' = (N, T, R, I1) ∧ ((r2 = 0 ∨ r2 = 1) ∧ K (some (yi r2)) (N, T, R, I1))) 0 0 0 [(0, yr (some 102)), (1, yi v)] [] (N, T, R, X) := by
    intro X v hX fX
    refine w_159 (d := d + 1) hT hR hX (fun r I2 f2 q2 => ⟨_, _, rfl, rfl, by omega, ?_⟩)
    exact hk _ I2 (by omega) (by unfold mRt; omega) (fun k j h => by rw [f2 k j (by unfold mOw at h; omega)]; exact fX k j h) (fun q => by omega)
  -- not or a bracket is put upon the stack
  have l84 : ∀ (x1 : Int) (X : Nat → Nat → Int), mRt X → (∀ k j, ¬ mOw k j → X k j = I k j) → X 102 48 = (c : Int) → X 102 50 = (t : Int) → X 102 49 = I 102 49 + 1 → X 102 49 ≤ 20 → X 102 52 = 0 → (∀ j, X 106 j = I 106 j) → (∀ j, X 121 j = I 121 j) → yW l zSS D cy zFk z (d + 2) 222 bc bs K 0 0 84 [(0, yr (some 102)), (1, yi x1)] [] (N, T, R, X) := by
    intro x1 X hX fX vc vt vo v20 vw r106 r121
    have push : ∀ v : Int, (v = 20 ∨ v = 23) → 0 ≤ X 102 50 ∧ X 102 50 < 45 ∧ (∀ I4, I4 = yU X 121 ((X 102 50).toNat) (ynar 1 v) → (∀ I5, I5 = yU I4 102 50 (yadd (I4 102 50) 1) → (∀ I6, I6 = yU I5 102 51 (yadd (I5 102 51) 1) → (K (some (yi 1)) (N, T, R, I6))))) := by
      intro v hv
      refine ⟨by omega, by omega, ?_⟩
      intro I4 e4 I5 e5 I6 e6
      rw [ynar1_eq (by omega) (by omega), vt, show ((t : Int)).toNat = t by omega] at e4
      have a4 : I4 102 50 = (t : Int) := by rw [e4, yU_ne _ _ (by omega)]; exact vt
      rw [a4, yadd_eq (by omega) (by omega)] at e5
      have n6 : ∀ k j, (k ≠ 102 ∨ (j ≠ 50 ∧ j ≠ 51)) → (k ≠ 121 ∨ j ≠ t) → I6 k j = X k j := fun k j a b => by
        rw [e6, yU_ne _ _ (by omega), e5, yU_ne _ _ (by omega), e4, yU_ne _ _ (by omega)]
      have v50 : I6 102 50 = (t : Int) + 1 := by rw [e6, yU_ne _ _ (by omega), e5, yU_eq]
      have v121 : I6 121 t = v := by rw [e6, yU_ne _ _ (by omega), e5, yU_ne _ _ (by omega), e4, yU_eq]
      have v48 := n6 102 48 (by omega) (by omega)
      have v49 := n6 102 49 (by omega) (by omega)
      have v52 := n6 102 52 (by omega) (by omega)
      have hJ : mJ (fun j => I6 121 j) (t + 1) = mJ (fun j => I 121 j) t := by
        show mJ _ t + (if I6 121 t = 21 ∨ I6 121 t = 22 then 1 else 0) = _
        rw [v121, if_neg (by omega), mJ_cg (g := fun j => I 121 j) t (fun j hj => by show I6 121 j = I 121 j; rw [n6 121 j (by omega) (by omega)]; exact r121 j)]; rfl
      have o106 : ∀ j, I6 106 j = I 106 j := fun j => by rw [n6 106 j (by omega) (by omega)]; exact r106 j
      refine hk 1 I6 (.inr rfl) ?_ (fun k j h => ?_) (fun _ => ⟨by omega, by omega, .inl ⟨⟨c, t + 1, by omega, by omega, by omega, by omega, ?_, mOp_cg (fun j _ => o106 j) hO⟩, by omega, by omega⟩⟩)
      · unfold mRt at hX ⊢
        rw [n6 102 3 (by omega) (by omega), n6 102 4 (by omega) (by omega), n6 102 14 (by omega) (by omega)]; exact hX
      · unfold mOw at h
        rw [n6 k j (by omega) (by omega)]; exact fX k j (by unfold mOw; omega)
      · rw [mD_cg (g := fun j => I 106 j) c (fun j _ => o106 j), hJ]; exact hD
    exact B_222_84 hT hR ⟨fun _ => push 23 (.inr rfl), fun _ => push 20 (.inl rfl)⟩
  -- a leaf is all there
  have leaf : ∀ (X : Nat → Nat → Int), X 102 48 = (c : Int) + 1 → X 102 50 = (t : Int) → X 102 49 = I 102 49 + 1 → X 102 49 ≤ 20 → X 102 52 = 1 → (∀ j, j < 3 * c → X 106 j = I 106 j) → (∀ j, X 121 j = I 121 j) → (X 106 (3 * c) ≠ 20 ∧ X 106 (3 * c) ≠ 21 ∧ X 106 (3 * c) ≠ 22) → (X 106 (3 * c) = 2 → 0 ≤ X 106 (3 * c + 2) ∧ X 106 (3 * c + 2) < 8) → mOd I X := by
    intro X vc vt vo v20 vw r106 r121 hx hx2
    refine ⟨vo, by omega, .inr ⟨⟨c + 1, t, by omega, vt, by omega, v20, ?_, fun i hi he => ?_⟩, vw, by omega⟩⟩
    · have g1 : mD (fun j => X 106 j) c = some (mJ (fun j => I 121 j) t + 0) := by
        rw [mD_cg (g := fun j => I 106 j) c (fun j hj => r106 j hj)]; exact hD
      have g2 := mD_leaf g1 hx.1 hx.2.1 hx.2.2
      rw [g2, mJ_cg (g := fun j => I 121 j) t (fun j _ => r121 j)]
    · by_cases ec : i = c
      · subst ec; exact hx2 he
      · have he : X 106 (3 * i) = 2 := he
        rw [r106 _ (by omega)] at he
        show 0 ≤ X 106 (3 * i + 2) ∧ X 106 (3 * i + 2) < 8
        rw [r106 _ (by omega)]
        exact hO i (by omega) he
  have l38 : ∀ (x1 x2 x3 : Int), (x1 ≠ 0 ∨ x2 ≠ 0 ∨ 0 ≤ x3) → (-1 ≤ x3 ∧ x3 ≤ 8) → yW l zSS D cy zFk z (d + 2) 222 bc bs K 0 0 38 [(0, yr (some 102)), (1, yi x1), (2, yi x2), (3, yi x3)] [] (N, T, R, I) := by
    intro x1 x2 x3 h1 h3
    refine B_222_38 hT hR ⟨fun _ => B_222_56 hT hR (bad I 4 hr (fun _ _ _ => rfl)), fun c20 => ⟨fun _ => ?_, fun _ => B_222_56 hT hR (bad I 4 hr (fun _ _ _ => rfl))⟩⟩
    intro I3 e3
    have l49 : I 102 49 < 20 ∧ 0 ≤ I 102 49 := by omega
    rw [yadd_eq (by omega) (by omega)] at e3
    have n3 : ∀ k j, (k ≠ 102 ∨ j ≠ 49) → I3 k j = I k j := fun k j h => by rw [e3, yU_ne _ _ (by omega)]
    have v3 : I3 102 49 = I 102 49 + 1 := by rw [e3, yU_eq]
    have hr3 : 0 ≤ I3 102 3 ∧ I3 102 3 ≤ 940 ∧ 0 ≤ I3 102 4 ∧ I3 102 4 ≤ 940 ∧ 0 ≤ I3 102 14 ∧ I3 102 14 ≤ 10000 := by
      rw [n3 102 3 (by omega), n3 102 4 (by omega), n3 102 14 (by omega)]; exact hr
    refine w_182 (d := d) hT hR hr3 (fun I4 f4 q4 => ⟨_, rfl, rfl, ?_⟩)
    have fr4 : ∀ k j, ¬ mOw k j → I4 k j = I k j := fun k j h => by
      unfold mOw at h
      rw [f4 k j (by omega), n3 k j (by omega)]
    have u48 : I4 102 48 = (c : Int) := by rw [f4 102 48 (by omega), n3 102 48 (by omega)]; exact hc
    have u50 : I4 102 50 = (t : Int) := by rw [f4 102 50 (by omega), n3 102 50 (by omega)]; exact ht
    have u49 : I4 102 49 = I 102 49 + 1 := by rw [f4 102 49 (by omega)]; exact v3
    have u52 : I4 102 52 = 0 := by rw [f4 102 52 (by omega), n3 102 52 (by omega)]; exact hW
    have u106 : ∀ j, I4 106 j = I 106 j := fun j => by rw [f4 106 j (by omega), n3 106 j (by omega)]
    have u121 : ∀ j, I4 121 j = I 121 j := fun j => by rw [f4 121 j (by omega), n3 121 j (by omega)]
    have go84 := l84 x1 I4 (by unfold mRt; omega) fr4 u48 u50 u49 (by omega) u52 u106 u121
    refine ⟨fun _ => go84, fun cx1 => ⟨fun cx2 => ?_, fun _ => go84⟩⟩
    intro I7 e7
    have n7 : ∀ k j, (k ≠ 102 ∨ j ≠ 52) → I7 k j = I4 k j := fun k j h => by rw [e7, yU_ne _ _ (by omega)]
    have v52 : I7 102 52 = 1 := by rw [e7, yU_eq]
    have fr7 : ∀ k j, ¬ mOw k j → I7 k j = I k j := fun k j h => by
      rw [n7 k j (by unfold mOw at h; omega)]; exact fr4 k j h
    have m3 := n7 102 3 (by omega)
    have m4 := n7 102 4 (by omega)
    have m14 := n7 102 14 (by omega)
    have hr7 : mRt I7 := by unfold mRt; omega
    have w48 : I7 102 48 = (c : Int) := by rw [n7 102 48 (by omega)]; exact u48
    have w50 : I7 102 50 = (t : Int) := by rw [n7 102 50 (by omega)]; exact u50
    have w49 : I7 102 49 = I 102 49 + 1 := by rw [n7 102 49 (by omega)]; exact u49
    have w106 : ∀ j, I7 106 j = I 106 j := fun j => by rw [n7 106 j (by omega)]; exact u106 j
    have w121 : ∀ j, I7 121 j = I 121 j := fun j => by rw [n7 121 j (by omega)]; exact u121 j
    have no227 : yW l zSS D cy zFk z (d + 2) 222 bc bs K 0 0 227 [(0, yr (some 102))] [] (N, T, R, I7) := B_222_227 hT hR (bad I7 1 hr7 fr7)
    refine ⟨fun c2 => ⟨fun c3 => ⟨fun _ => no227, fun _ => ⟨fun _ => no227, fun _ => ⟨fun _ => ?_, fun _ => no227⟩⟩⟩, fun c3 => ?_⟩, fun c2 => ?_⟩
    · refine w_182 (d := d) hT hR hr7 (fun I13 f13 q13 => ⟨_, rfl, rfl, ?_⟩)
      have fr13 : ∀ k j, ¬ mOw k j → I13 k j = I k j := fun k j h => by
        rw [f13 k j (by unfold mOw at h; omega)]; exact fr7 k j h
      refine ⟨fun _ => ?_, fun _ => bad I13 1 (by unfold mRt; omega) fr13⟩
      refine r_code hT hR (c := c) (by rw [f13 102 48 (by omega)]; exact w48) (by omega) (by omega) (fun I15 a48 a0 a2 af ao => ⟨_, rfl, rfl, ?_⟩)
      have o3 := ao 102 3 (by omega) (by omega)
      have o4 := ao 102 4 (by omega) (by omega)
      have o14 := ao 102 14 (by omega) (by omega)
      refine w_182 (d := d) hT hR (by omega) (fun I16 f16 q16 => ⟨_, rfl, rfl, ?_⟩)
      refine hk 1 I16 (.inr rfl) (by unfold mRt; omega) (fun k j h => ?_) (fun _ => leaf I16 ?_ ?_ ?_ ?_ ?_ (fun j hj => ?_) (fun j => ?_) ?_ ?_)
      · rw [f16 k j (by unfold mOw at h; omega), ao k j (by unfold mOw at h; omega) (by unfold mOw at h; omega)]; exact fr13 k j h
      · rw [f16 102 48 (by omega)]; exact a48
      · rw [f16 102 50 (by omega), ao 102 50 (by omega) (by omega), f13 102 50 (by omega)]; exact w50
      · rw [f16 102 49 (by omega), ao 102 49 (by omega) (by omega), f13 102 49 (by omega)]; exact w49
      · rw [f16 102 49 (by omega), ao 102 49 (by omega) (by omega), f13 102 49 (by omega)]; omega
      · rw [f16 102 52 (by omega), ao 102 52 (by omega) (by omega), f13 102 52 (by omega)]; exact v52
      · rw [f16 106 j (by omega), af j (.inl hj), f13 106 j (by omega)]; exact w106 j
      · rw [f16 121 j (by omega), ao 121 j (by omega) (by omega), f13 121 j (by omega)]; exact w121 j
      · rw [f16 106 _ (by omega), a0]; omega
      · rw [f16 106 _ (by omega), a0]; intro q; omega
    · refine w_194 (d := d + 1) hT hR (fun r20 q20 => ⟨_, _, rfl, rfl, fun _ => ?_, fun _ => bad I7 1 hr7 fr7⟩)
      have c104 : I7 104 2 = I 104 2 := fr7 104 2 (by unfold mOw; omega)
      refine w_180 (d := d + 1) hT hR (by omega) (fun r23 q23 => ⟨_, _, rfl, rfl, fun _ => ?_, fun _ => bad I7 3 hr7 fr7⟩)
      refine r_code hT hR (c := c) w48 (by omega) (by omega) (fun I15 a48 a0 a2 af ao => ⟨_, rfl, rfl, ?_⟩)
      have o3 := ao 102 3 (by omega) (by omega)
      have o4 := ao 102 4 (by omega) (by omega)
      have o14 := ao 102 14 (by omega) (by omega)
      unfold mRt at hr7
      refine w_182 (d := d) hT hR (by omega) (fun I16 f16 q16 => ⟨_, rfl, rfl, ?_⟩)
      refine hk 1 I16 (.inr rfl) (by unfold mRt; omega) (fun k j h => ?_) (fun _ => leaf I16 ?_ ?_ ?_ ?_ ?_ (fun j hj => ?_) (fun j => ?_) ?_ ?_)
      · rw [f16 k j (by unfold mOw at h; omega), ao k j (by unfold mOw at h; omega) (by unfold mOw at h; omega)]; exact fr7 k j h
      · rw [f16 102 48 (by omega)]; exact a48
      · rw [f16 102 50 (by omega), ao 102 50 (by omega) (by omega)]; exact w50
      · rw [f16 102 49 (by omega), ao 102 49 (by omega) (by omega)]; exact w49
      · rw [f16 102 49 (by omega), ao 102 49 (by omega) (by omega)]; omega
      · rw [f16 102 52 (by omega), ao 102 52 (by omega) (by omega)]; exact v52
      · rw [f16 106 j (by omega), af j (.inl hj)]; exact w106 j
      · rw [f16 121 j (by omega), ao 121 j (by omega) (by omega)]; exact w121 j
      · rw [f16 106 _ (by omega), a0]; omega
      · rw [f16 106 _ (by omega), f16 106 _ (by omega), a0, a2]; intro _; omega
    · refine r_code hT hR (c := c) w48 (by omega) (by omega) (fun I15 a48 a0 a2 af ao => ⟨_, rfl, rfl, ?_⟩)
      have o3 := ao 102 3 (by omega) (by omega)
      have o4 := ao 102 4 (by omega) (by omega)
      have o14 := ao 102 14 (by omega) (by omega)
      unfold mRt at hr7
      refine hk 1 I15 (.inr rfl) (by unfold mRt; omega) (fun k j h => ?_) (fun _ => leaf I15 a48 ?_ ?_ ?_ ?_ (fun j hj => ?_) (fun j => ?_) ?_ ?_)
      · rw [ao k j (by unfold mOw at h; omega) (by unfold mOw at h; omega)]; exact fr7 k j h
      · rw [ao 102 50 (by omega) (by omega)]; exact w50
      · rw [ao 102 49 (by omega) (by omega)]; exact w49
      · rw [ao 102 49 (by omega) (by omega)]; omega
      · rw [ao 102 52 (by omega) (by omega)]; exact v52
      · rw [af j (.inl hj)]; exact w106 j
      · rw [ao 121 j (by omega) (by omega)]; exact w121 j
      · rw [a0]; omega
      · rw [a0]; intro q; omega
  refine B_222_0 hT hR (w_199 (d := d + 1) hT hR (fun r2 q2 => ⟨_, _, rfl, rfl, w_196 (d := d + 1) hT hR (fun r4 q4 => ⟨_, _, rfl, rfl, w_209 (d := d) hT hR (fun r6 q6 => ⟨_, _, rfl, rfl, fun c2 => ?_, fun c2 => ⟨fun c4 => ?_, fun c4 => ⟨fun c6 => ?_, fun _ => bad I 1 hr (fun _ _ _ => rfl)⟩⟩⟩)⟩)⟩))
  · exact l38 _ _ _ (.inl c2) q6
  · exact l38 _ _ _ (.inr (.inl c4)) q6
  · exact l38 _ _ _ (.inr (.inr c6)) q6
theorem r_behind (hT : yLT T) (hR : yLR R) (hr : mRt I) (hS : mSe I 1) (hk : ∀ r I', (r = 0 ∨ r = 1) → mRt I' → (∀ k j, ¬ mOw k j → I' k j = I k j) → (r = 1 → mBh I I') → K (some (yi r)) (N, T, R, I')) (hW : I 102 52 = 1) : yW l zSS D cy zFk z (d + 2) 162 bc bs K 0 0 0 [(0, yr (some 102))] [] (N, T, R, I) := by
  have bad : ∀ (X : Nat → Nat → Int), mRt X → (∀ k j, ¬ mOw k j → X k j = I k j) → yW l zSS D cy zFk z (d + 2) 162 bc bs K 0 0 114 [(0, yr (some 102))] [] (N, T, R, X) := by
    intro X hX fX
    refine B_162_114 hT hR (w_159 (d := d + 1) hT hR hX (fun r I2 f2 q2 => ⟨_, _, rfl, rfl, by omega, ?_⟩))
    exact hk _ I2 (by omega) (by unfold mRt; omega) (fun k j h => by rw [f2 k j (by unfold mOw at h; omega)]; exact fX k j h) (fun q => by omega)
  -- a joint is put upon the stack
  have l70 : ∀ (X : Nat → Nat → Int) (v : Int), (v = 21 ∨ v = 22) → mSe X 1 → mRt X → (∀ k j, ¬ mOw k j → X k j = I k j) → X 102 49 = I 102 49 → 0 ≤ X 102 50 → X 102 50 ≤ I 102 50 → yW l zSS D cy zFk z (d + 2) 162 bc bs K 0 0 70 [(0, yr (some 102))] [yi v, yi (X 102 50), yr (some 121)] (N, T, R, X) := by
    intro X v hv hX rX fX v49 v0 vle
    obtain ⟨c, t, hc, ht, hb, h20, hD, hO⟩ := hX
    refine B_162_70 hT hR ⟨by omega, by omega, ?_⟩
    intro I3 e3 I4 e4 I5 e5
    rw [ynar1_eq (by omega) (by omega), ht, show ((t : Int)).toNat = t by omega] at e3
    have a3 : I3 102 50 = (t : Int) := by rw [e3, yU_ne _ _ (by omega)]; exact ht
    rw [a3, yadd_eq (by omega) (by omega)] at e4
    have n5 : ∀ k j, (k ≠ 102 ∨ (j ≠ 50 ∧ j ≠ 52)) → (k ≠ 121 ∨ j ≠ t) → I5 k j = X k j := fun k j a b => by
      rw [e5, yU_ne _ _ (by omega), e4, yU_ne _ _ (by omega), e3, yU_ne _ _ (by omega)]
    have v50 : I5 102 50 = (t : Int) + 1 := by rw [e5, yU_ne _ _ (by omega), e4, yU_eq]
    have v52 : I5 102 52 = 0 := by rw [e5, yU_eq]
    have v121 : I5 121 t = v := by rw [e5, yU_ne _ _ (by omega), e4, yU_ne _ _ (by omega), e3, yU_eq]
    have w3 := n5 102 3 (by omega) (by omega)
    have w4 := n5 102 4 (by omega) (by omega)
    have w14 := n5 102 14 (by omega) (by omega)
    have w48 := n5 102 48 (by omega) (by omega)
    have w49 := n5 102 49 (by omega) (by omega)
    unfold mRt at rX
    refine w_182 (d := d) hT hR (by omega) (fun I6 f6 q6 => ⟨_, rfl, rfl, ?_⟩)
    have x48 := f6 102 48 (by omega)
    have x49 := f6 102 49 (by omega)
    have x50 := f6 102 50 (by omega)
    have x52 := f6 102 52 (by omega)
    have o106 : ∀ j, I6 106 j = X 106 j := fun j => by rw [f6 106 j (by omega)]; exact n5 106 j (by omega) (by omega)
    have hJ : mJ (fun j => I6 121 j) (t + 1) = mJ (fun j => X 121 j) t + 1 := by
      show mJ _ t + (if I6 121 t = 21 ∨ I6 121 t = 22 then 1 else 0) = _
      rw [f6 121 t (by omega), v121, if_pos hv, mJ_cg (g := fun j => X 121 j) t (fun j hj => by show I6 121 j = X 121 j; rw [f6 121 j (by omega)]; exact n5 121 j (by omega) (by omega))]
    refine hk 1 I6 (.inr rfl) (by unfold mRt; omega) (fun k j h => ?_) (fun _ => ⟨by omega, by omega, .inl ⟨⟨c, t + 1, by omega, by omega, by omega, by omega, ?_, mOp_cg (fun j _ => o106 j) hO⟩, by omega, by omega⟩⟩)
    · rw [f6 k j (by unfold mOw at h; omega), n5 k j (by unfold mOw at h; omega) (by unfold mOw at h; omega)]; exact fX k j h
    · rw [mD_cg (g := fun j => X 106 j) c (fun j _ => o106 j), hJ]; exact hD
  refine B_162_0 hT hR (r_nots hT hR hS (fun I1 s1 p1 l1 f1 => ⟨_, rfl, rfl, ?_⟩))
  have fr1 : ∀ k j, ¬ mOw k j → I1 k j = I k j := fun k j h => f1 k j (by unfold mOw at h; omega) (by unfold mOw at h; omega)
  have a3 := f1 102 3 (by omega) (by omega)
  have a4 := f1 102 4 (by omega) (by omega)
  have a14 := f1 102 14 (by omega) (by omega)
  have a49 := f1 102 49 (by omega) (by omega)
  have a52 := f1 102 52 (by omega) (by omega)
  unfold mRt at hr
  have hr1 : mRt I1 := by unfold mRt; omega
  have l24 : yW l zSS D cy zFk z (d + 2) 162 bc bs K 0 0 24 [(0, yr (some 102))] [] (N, T, R, I1) := by
    have l42 : ∀ v : Int, yW l zSS D cy zFk z (d + 2) 162 bc bs K 0 0 42 [(0, yr (some 102))] [yi v, yr (some 102)] (N, T, R, I1) := by
      intro v
      refine B_162_42 hT hR (r_joins hT hR s1 (fun I2 s2 p2 l2 _ f2 => ⟨_, rfl, rfl, ?_⟩))
      have b3 := f2 102 3 (by omega) (by omega)
      have b4 := f2 102 4 (by omega) (by omega)
      have b14 := f2 102 14 (by omega) (by omega)
      have b49 := f2 102 49 (by omega) (by omega)
      unfold mRt at hr1
      have hr2 : mRt I2 := by unfold mRt; omega
      have fr2 : ∀ k j, ¬ mOw k j → I2 k j = I k j := fun k j h => by rw [f2 k j (by unfold mOw at h; omega) (by unfold mOw at h; omega)]; exact fr1 k j h
      exact w_199 (d := d + 1) hT hR (fun r3 q3 => ⟨_, _, rfl, rfl, fun _ => l70 I2 22 (.inr rfl) s2 hr2 fr2 (by omega) p2 (by omega), fun _ => l70 I2 21 (.inl rfl) s2 hr2 fr2 (by omega) p2 (by omega)⟩)
    exact B_162_24 hT hR (w_199 (d := d + 1) hT hR (fun r3 q3 => ⟨_, _, rfl, rfl, fun _ => l42 22, fun _ => l42 21⟩))
  refine w_199 (d := d + 1) hT hR (fun r3 q3 => ⟨_, _, rfl, rfl, fun _ => l24, fun _ => w_199 (d := d + 1) hT hR (fun r6 q6 => ⟨_, _, rfl, rfl, fun _ => ?_, fun _ => l24⟩)⟩)
  refine r_joins hT hR s1 (fun I2 s2 p2 l2 t2 f2 => ⟨_, rfl, rfl, ?_⟩)
  have b3 := f2 102 3 (by omega) (by omega)
  have b4 := f2 102 4 (by omega) (by omega)
  have b14 := f2 102 14 (by omega) (by omega)
  have b49 := f2 102 49 (by omega) (by omega)
  have b52 := f2 102 52 (by omega) (by omega)
  unfold mRt at hr1
  have hr2 : mRt I2 := by unfold mRt; omega
  have fr2 : ∀ k j, ¬ mOw k j → I2 k j = I k j := fun k j h => by rw [f2 k j (by unfold mOw at h; omega) (by unfold mOw at h; omega)]; exact fr1 k j h
  refine w_196 (d := d + 1) hT hR (fun r10 q10 => ⟨_, _, rfl, rfl, fun _ => bad I2 hr2 fr2, fun _ => ⟨fun c0 => ?_, fun _ => bad I2 hr2 fr2⟩⟩)
  obtain ⟨c, t, hc, ht, hb, h20, hD, hO⟩ := s2
  obtain ⟨t', rfl⟩ : ∃ t', t = t' + 1 := ⟨t - 1, by omega⟩
  have top := t2 rfl (by omega)
  rw [show (I2 102 50 - 1).toNat = t' by omega] at top
  intro I13 e13 I14 e14
  rw [ysub_eq (by omega) (by omega)] at e13
  have n14 : ∀ k j, (k ≠ 102 ∨ (j ≠ 50 ∧ j ≠ 51)) → I14 k j = I2 k j := fun k j h => by rw [e14, yU_ne _ _ (by omega), e13, yU_ne _ _ (by omega)]
  have v50 : I14 102 50 = (t' : Int) := by rw [e14, yU_ne _ _ (by omega), e13, yU_eq]; omega
  have w3 := n14 102 3 (by omega)
  have w4 := n14 102 4 (by omega)
  have w14 := n14 102 14 (by omega)
  have w48 := n14 102 48 (by omega)
  have w49 := n14 102 49 (by omega)
  have w52 := n14 102 52 (by omega)
  unfold mRt at hr2
  refine w_182 (d := d) hT hR (by omega) (fun I15 f15 q15 => ⟨_, rfl, rfl, ?_⟩)
  have x48 := f15 102 48 (by omega)
  have x49 := f15 102 49 (by omega)
  have x50 := f15 102 50 (by omega)
  have x52 := f15 102 52 (by omega)
  have o106 : ∀ j, I15 106 j = I2 106 j := fun j => by rw [f15 106 j (by omega)]; exact n14 106 j (by omega)
  have o121 : ∀ j, I15 121 j = I2 121 j := fun j => by rw [f15 121 j (by omega)]; exact n14 121 j (by omega)
  have hJ : mJ (fun j => I2 121 j) (t' + 1) = mJ (fun j => I2 121 j) t' := by
    show mJ _ t' + (if I2 121 t' = 21 ∨ I2 121 t' = 22 then 1 else 0) = _
    rw [if_neg (by omega)]; rfl
  refine hk 1 I15 (.inr rfl) (by unfold mRt; omega) (fun k j h => ?_) (fun _ => ⟨by omega, by omega, .inr ⟨⟨c, t', by omega, by omega, by omega, by omega, ?_, mOp_cg (fun j _ => o106 j) hO⟩, by omega, by omega⟩⟩)
  · rw [f15 k j (by unfold mOw at h; omega), n14 k j (by unfold mOw at h; omega)]; exact fr2 k j h
  · rw [mD_cg (g := fun j => I2 106 j) c (fun j _ => o106 j), mJ_cg (g := fun j => I2 121 j) t' (fun j _ => o121 j), hD, hJ]
end Sm
