/-! THE REFERENCE's CONTRACTS: SENTENCE, whole. -/
/-- the SENTENCE is one: its codes never want answers that are not there -/
def mCo (X : Nat → Nat → Int) : Prop := ∃ c n : Nat, X 104 1007 = (c : Int) ∧ c ≤ 40 ∧ mOp (fun j => X 104 (1008 + j)) c ∧ mD (fun j => X 104 (1008 + j)) c = some n
def mSw (k j : Nat) : Prop := (k = 102 ∧ (j = 0 ∨ (2 ≤ j ∧ j ≤ 5) ∨ (11 ≤ j ∧ j ≤ 18) ∨ (48 ≤ j ∧ j ≤ 52))) ∨ k = 106 ∨ k = 121
section Sm
variable {l : Launch} {D : va_G} {cy : Nat → ClassId} {z d bc bs N : Nat} {T : Nat → Nat × Nat} {R : Nat → Nat → Option Nat} {I : Nat → Nat → Int} {K : yKo}
theorem r_sentence (hT : yLT T) (hR : yLR R) (hN : 126 ≤ N) (h0 : 0 ≤ I 102 2 ∧ I 102 2 ≤ 940 ∧ 0 ≤ I 102 14 ∧ I 102 14 ≤ 10000) (hC : 0 ≤ I 104 2 ∧ I 104 2 ≤ 8)
    (hk : ∀ r I', (I' 102 2 = 0 ∧ 0 ≤ I' 102 14 ∧ I' 102 14 ≤ 10000) → ((∀ k j, ¬ mSw k j → I' k j = I k j) ∨ ((∀ k j, ¬ mSw k j → (k ≠ 104 ∨ j < 1007 ∨ 1188 ≤ j) → I' k j = I k j) ∧ mCo I')) → K (some (yi r)) (N, T, R, I')) :
    yW l zSS D cy zFk z (d + 3) 234 bc bs K 0 0 0 [(0, yr (some 102))] [] (N, T, R, I) := by
  have sw : ∀ k j, ¬ mSw k j → ¬ mOw k j := fun k j h => by unfold mSw at h; unfold mOw; omega
  -- it is taken over
  have l146 : ∀ (c n : Nat) (Y : Nat → Nat → Int), c ≤ 40 → mOp (fun j => Y 106 j) c → mD (fun j => Y 106 j) c = some n → Y 102 48 = (c : Int) → Y 104 1007 = (c : Int) → (∀ k j, ¬ mSw k j → (k ≠ 104 ∨ j ≠ 1007) → Y k j = I k j) → (Y 102 2 = 0 ∧ 0 ≤ Y 102 14 ∧ Y 102 14 ≤ 10000) →
      ∀ (m : Nat) (X : Nat → Nat → Int) (i : Nat), i + m = 3 * c → (∀ j, j < i → X 104 (1008 + j) = Y 106 j) → (∀ k j, (k ≠ 104 ∨ j < 1008 ∨ 1188 ≤ j) → X k j = Y k j) → yW l zSS D cy zFk z (d + 3) 234 bc bs K 0 0 146 [(0, yr (some 102)), (2, yi (i : Int))] [] (N, T, R, X) := by
    intro c n Y h40 hO hD y48 y1007 fY vY m
    induction m with
    | zero =>
      intro X i h1 h2 h3
      have x48 : X 102 48 = (c : Int) := by rw [h3 102 48 (by omega)]; exact y48
      refine B_234_146 hT hR ⟨fun _ => ?_, fun q => absurd q (by rw [x48, ymul_eq (by omega) (by omega)]; omega)⟩
      refine hk _ X ?_ (.inr ⟨fun k j a b => ?_, c, n, by rw [h3 104 1007 (by omega)]; exact y1007, h40, mOp_cg (fun j hj => h2 j (by omega)) hO, by rw [mD_cg (g := fun j => Y 106 j) c (fun j hj => h2 j (by omega))]; exact hD⟩)
      · rw [h3 102 2 (by omega), h3 102 14 (by omega)]; exact vY
      · rw [h3 k j (by omega)]; exact fY k j a (by omega)
    | succ m ih =>
      intro X i h1 h2 h3
      have x48 : X 102 48 = (c : Int) := by rw [h3 102 48 (by omega)]; exact y48
      refine e_ri (k := 106) (n := 135) (j := i) (c0 := 1) (hT 106 rfl) (.inr (.inl rfl)) (by omega) (show 106 < N by omega) (fun q1 q2 => ?_)
      have q1 : -2147483648 ≤ X 106 i := q1
      have q2 : X 106 i < 2147483648 := q2
      refine B_234_146 hT hR ⟨fun q => absurd q (by rw [x48, ymul_eq (by omega) (by omega)]; omega), fun _ => ?_⟩
      rw [yadd_eq (x := 1008) (by omega) (by omega), yadd_eq (x := (i : Int)) (by omega) (by omega), show ((i : Int)).toNat = i by omega, show ((1008 : Int) + (i : Int)).toNat = 1008 + i by omega]
      refine ⟨by omega, by omega, by omega, by omega, ?_⟩
      intro I6 e6
      rw [ynar1_eq q1 q2, h3 106 i (by omega)] at e6
      refine ih I6 (i + 1) (by omega) (fun j hj => ?_) (fun k j a => ?_)
      · rw [e6]
        by_cases e : j = i
        · subst e; rw [yU_eq]
        · rw [yU_ne _ _ (by omega)]; exact h2 j (by omega)
      · rw [e6, yU_ne _ _ (by omega)]; exact h3 k j a
  -- all is there
  have fin : ∀ X : Nat → Nat → Int, mSe X 1 → X 102 50 ≤ 0 → 0 ≤ X 102 50 → (∀ k j, ¬ mSw k j → X k j = I k j) → (X 102 2 = 0 ∧ 0 ≤ X 102 14 ∧ X 102 14 ≤ 10000) → yW l zSS D cy zFk z (d + 3) 234 bc bs K 0 0 48 [(0, yr (some 102)), (1, yi 0)] [] (N, T, R, X) := by
    intro X hX t0 t1 fX vX
    obtain ⟨c, t, hc, ht, hb, h20, hD, hO⟩ := hX
    refine B_234_48 hT hR ⟨fun _ => ?_, fun q => absurd rfl q⟩
    intro I2 e2
    rw [hc, ynar1_eq (by omega) (by omega)] at e2
    have n2 : ∀ k j, (k ≠ 104 ∨ j ≠ 1007) → I2 k j = X k j := fun k j h => by rw [e2, yU_ne _ _ (by omega)]
    refine l146 c _ I2 (by omega) (mOp_cg (fun j _ => n2 106 j (by omega)) hO) (by rw [mD_cg (g := fun j => X 106 j) c (fun j _ => n2 106 j (by omega))]; exact hD) (by rw [n2 102 48 (by omega)]; exact hc) (by rw [e2, yU_eq]) (fun k j a b => by rw [n2 k j b]; exact fX k j a) ?_ (3 * c) I2 0 (by omega) (fun j hj => absurd hj (by omega)) (fun _ _ _ => rfl)
    rw [n2 102 2 (by omega), n2 102 14 (by omega)]; exact vX
  have l48 : ∀ (m : Nat) (X : Nat → Nat → Int), (100 * (20 - X 102 49) + X 102 50 + 2 * X 102 52).toNat < m → mRt X → ((X 102 52 = 0 ∧ mSe X 0) ∨ (X 102 52 = 1 ∧ mSe X 1)) → (0 ≤ X 102 49 ∧ X 102 49 ≤ 20) → (∀ k j, ¬ mSw k j → X k j = I k j) → X 102 2 = 0 → yW l zSS D cy zFk z (d + 3) 234 bc bs K 0 0 48 [(0, yr (some 102)), (1, yi 1)] [] (N, T, R, X) := by
    intro m
    induction m with
    | zero => intro X h; exact absurd h (Nat.not_lt_zero _)
    | succ m ih =>
      intro X hm rX hX hn fX x2
      have c104 : X 104 2 = I 104 2 := fX 104 2 (by unfold mSw; omega)
      have top0 : 0 ≤ X 102 50 ∧ X 102 50 ≤ 40 := by
        rcases hX with ⟨_, c, t, hc, ht, hb, h20, _⟩ | ⟨_, c, t, hc, ht, hb, h20, _⟩ <;> omega
      have oper : X 102 52 = 0 → yW l zSS D cy zFk z (d + 2) 222 0 0 (fun r h' => ∃ r6 I5, r = some (yi r6) ∧ h' = (N, T, R, I5) ∧ ((r6 ≠ 0 → yW l zSS D cy zFk z (d + 3) 234 bc bs K 0 0 48 [(0, yr (some 102)), (1, yi 1)] [] (N, T, R, I5)) ∧ (¬ (r6 ≠ 0) → K (some (yi (ysub (-1) (I5 102 16)))) (N, T, R, I5)))) 0 0 0 [(0, yr (some 102))] [] (N, T, R, X) := by
        intro w0
        have s0 : mSe X 0 := by rcases hX with ⟨_, s⟩ | ⟨q, _⟩; exact s; omega
        refine r_operand (d := d) hT hR rX s0 w0 (by omega) (fun r I5 hr r5 f5 o5 => ⟨_, _, rfl, rfl, fun cr => ?_, fun _ => ?_⟩)
        · obtain ⟨a, b, e⟩ := o5 (by omega)
          refine ih I5 ?_ r5 ?_ (by rcases e with ⟨⟨c, t, hc, ht, hb, h20, _⟩, _⟩ | ⟨⟨c, t, hc, ht, hb, h20, _⟩, _⟩ <;> omega) (fun k j h => by rw [f5 k j (sw k j h)]; exact fX k j h) (by rw [f5 102 2 (by unfold mOw; omega)]; exact x2)
          · rcases e with ⟨⟨c, t, _, _, _, h20, _⟩, e1, e2⟩ | ⟨⟨c, t, _, _, _, h20, _⟩, e1, e2⟩ <;> omega
          · rcases e with ⟨s, e1, _⟩ | ⟨s, e1, _⟩
            · exact .inl ⟨e1, s⟩
            · exact .inr ⟨e1, s⟩
        · unfold mRt at r5
          exact hk _ I5 ⟨by rw [f5 102 2 (by unfold mOw; omega)]; exact x2, by omega, by omega⟩ (.inl (fun k j h => by rw [f5 k j (sw k j h)]; exact fX k j h))
      have behi : X 102 52 ≠ 0 → yW l zSS D cy zFk z (d + 2) 162 0 0 (fun r h' => ∃ r6 I5, r = some (yi r6) ∧ h' = (N, T, R, I5) ∧ ((r6 ≠ 0 → yW l zSS D cy zFk z (d + 3) 234 bc bs K 0 0 48 [(0, yr (some 102)), (1, yi 1)] [] (N, T, R, I5)) ∧ (¬ (r6 ≠ 0) → K (some (yi (ysub (-1) (I5 102 16)))) (N, T, R, I5)))) 0 0 0 [(0, yr (some 102))] [] (N, T, R, X) := by
        intro w0
        have s1 : mSe X 1 ∧ X 102 52 = 1 := by rcases hX with ⟨q, _⟩ | ⟨q, s⟩; omega; exact ⟨s, q⟩
        refine r_behind (d := d) hT hR rX s1.1 (fun r I5 hr r5 f5 o5 => ⟨_, _, rfl, rfl, fun cr => ?_, fun _ => ?_⟩) s1.2
        · obtain ⟨a, b, e⟩ := o5 (by omega)
          refine ih I5 ?_ r5 ?_ (by omega) (fun k j h => by rw [f5 k j (sw k j h)]; exact fX k j h) (by rw [f5 102 2 (by unfold mOw; omega)]; exact x2)
          · have := s1.2
            rcases e with ⟨_, e1, e2⟩ | ⟨_, e1, e2⟩ <;> omega
          · rcases e with ⟨s, e1, _⟩ | ⟨s, e1, _⟩
            · exact .inl ⟨e1, s⟩
            · exact .inr ⟨e1, s⟩
        · unfold mRt at r5
          exact hk _ I5 ⟨by rw [f5 102 2 (by unfold mOw; omega)]; exact x2, by omega, by omega⟩ (.inl (fun k j h => by rw [f5 k j (sw k j h)]; exact fX k j h))
      refine B_234_48 hT hR ⟨fun q => absurd q (by decide), fun _ => ⟨fun w0 => ⟨fun _ => oper w0, fun q => absurd w0 q⟩, fun w1 => ⟨fun _ => ⟨fun w0 => absurd w0 w1, fun q => behi q⟩, fun _ => ?_⟩⟩⟩
      have s1 : mSe X 1 ∧ X 102 52 = 1 := by rcases hX with ⟨q, _⟩ | ⟨q, s⟩; omega; exact ⟨s, q⟩
      refine r_nots (d := d + 1) hT hR s1.1 (fun I19 s19 p19 l19 f19 => ⟨_, rfl, rfl, ?_⟩)
      refine r_joins (d := d + 1) hT hR s19 (fun I20 s20 p20 l20 _ f20 => ⟨_, rfl, rfl, ?_⟩)
      have fr : ∀ k j, ¬ mSw k j → I20 k j = I k j := fun k j h => by
        unfold mSw at h
        rw [f20 k j (by omega) (by omega), f19 k j (by omega) (by omega)]; exact fX k j (by unfold mSw; omega)
      have y2 : I20 102 2 = 0 := by rw [f20 102 2 (by omega) (by omega), f19 102 2 (by omega) (by omega)]; exact x2
      have y3 : I20 102 3 = X 102 3 := by rw [f20 102 3 (by omega) (by omega), f19 102 3 (by omega) (by omega)]
      have y4 : I20 102 4 = X 102 4 := by rw [f20 102 4 (by omega) (by omega), f19 102 4 (by omega) (by omega)]
      have y14 : I20 102 14 = X 102 14 := by rw [f20 102 14 (by omega) (by omega), f19 102 14 (by omega) (by omega)]
      unfold mRt at rX
      refine ⟨fun t0 => fin I20 s20 t0 p20 fr ⟨y2, by omega, by omega⟩, fun _ => ?_⟩
      refine w_159 (d := d + 2) hT hR (by omega) (fun r I2 f2 q2 => ⟨_, _, rfl, rfl, ?_⟩)
      exact hk _ I2 ⟨by rw [f2 102 2 (by omega)]; exact y2, by omega, by omega⟩ (.inl (fun k j h => by rw [f2 k j (by unfold mSw at h; omega)]; exact fr k j h))
  refine B_234_0 hT hR ?_
  intro I1 e1
  have a1 : ∀ k j, ¬ (k = 102 ∧ j = 0) → I1 k j = I k j := fun k j h => by rw [e1, yU_ne _ _ h]
  have b2 := a1 102 2 (by omega)
  have b14 := a1 102 14 (by omega)
  refine w_244 (d := d + 2) hT hR (fun I2 f2 q2 => ⟨_, rfl, rfl, ?_⟩)
  have c14 := f2 102 14 (by omega)
  intro I3 e3 I4 e4 I5 e5 I6 e6 I7 e7 I8 e8
  have n8 : ∀ k j, ¬ (k = 102 ∧ (j = 15 ∨ (48 ≤ j ∧ j ≤ 52))) → I8 k j = I2 k j := fun k j h => by
    rw [e8, yU_ne _ _ (by omega), e7, yU_ne _ _ (by omega), e6, yU_ne _ _ (by omega), e5, yU_ne _ _ (by omega), e4, yU_ne _ _ (by omega), e3, yU_ne _ _ (by omega)]
  have v52 : I8 102 52 = 0 := by rw [e8, yU_eq]
  have v50 : I8 102 50 = 0 := by rw [e8, yU_ne _ _ (by omega), e7, yU_ne _ _ (by omega), e6, yU_eq]
  have v49 : I8 102 49 = 0 := by rw [e8, yU_ne _ _ (by omega), e7, yU_ne _ _ (by omega), e6, yU_ne _ _ (by omega), e5, yU_eq]
  have v48 : I8 102 48 = 0 := by rw [e8, yU_ne _ _ (by omega), e7, yU_ne _ _ (by omega), e6, yU_ne _ _ (by omega), e5, yU_ne _ _ (by omega), e4, yU_eq]
  have d2 := n8 102 2 (by omega)
  have d3 := n8 102 3 (by omega)
  have d4 := n8 102 4 (by omega)
  have d14 := n8 102 14 (by omega)
  refine w_182 (d := d + 1) hT hR (by omega) (fun I9 f9 q9 => ⟨_, rfl, rfl, ?_⟩)
  have g48 := f9 102 48 (by omega)
  have g49 := f9 102 49 (by omega)
  have g50 := f9 102 50 (by omega)
  have g52 := f9 102 52 (by omega)
  have g2 := f9 102 2 (by omega)
  refine l48 _ I9 (Nat.lt_succ_self _) (by unfold mRt; omega) (.inl ⟨by omega, 0, 0, by omega, by omega, by omega, by omega, rfl, fun i hi => absurd hi (by omega)⟩) (by omega) (fun k j h => ?_) (by omega)
  unfold mSw at h
  rw [f9 k j (by omega), n8 k j (by omega), f2 k j (by omega), a1 k j (by omega)]
end Sm
