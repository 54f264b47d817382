/-! SENTENCE of the reference: the whole call -/
section Xv
variable {l : Launch} {D : va_G} {cy : Nat → ClassId} {z d bc bs N : Nat} {T : Nat → Nat × Nat} {R : Nat → Nat → Option Nat} {I : Nat → Nat → Int} {K : yKo} {n ch : Nat} {nm : Nat → Int}
theorem x_234 (hT : yLT T) (hR : yLR R) (hN : 126 ≤ N) (hn2 : I 102 2 = (n : Int)) (hn : n ≤ 940) (h14 : 0 ≤ I 102 14 ∧ I 102 14 ≤ 10000) (hb : ∀ j, j < n → -128 ≤ I 103 j ∧ I 103 j < 128) (hw : ∀ i, i < 24 → I 108 i = rCd i) (hc : I 104 2 = (ch : Int)) (L : mNm I 0 ch nm)
    (hk : ∀ r I', r = kAnsS (zSe (I 103) n ch nm) → (I' 102 2 = 0 ∧ 0 ≤ I' 102 14 ∧ I' 102 14 ≤ 10000) → I' 102 15 = kFc (zSe (I 103) n ch nm) → ((∃ f, zSe (I 103) n ch nm = .inl f) ∧ (∀ k j, ¬ mSw k j → I' k j = I k j)) ∨ (∃ c, zSe (I 103) n ch nm = .inr c ∧ (∀ k j, ¬ mSw k j → (k ≠ 104 ∨ j < 1007 ∨ 1188 ≤ j) → I' k j = I k j) ∧ c.2.1 ≤ 39 ∧ I' 104 1007 = (c.2.1 : Int) ∧ ∀ i, i < c.2.1 → I' 104 (1008 + 3 * i) = wM (c.2.2 i).1 ∧ I' 104 (1009 + 3 * i) = (c.2.2 i).2.1 ∧ I' 104 (1010 + 3 * i) = (c.2.2 i).2.2) → K (some (yi r)) (N, T, R, I')) :
    yW l zSS D cy zFk z (d + 3) 234 bc bs K 0 0 0 [(0, yr (some 102))] [] (N, T, R, I) := by
  obtain ⟨t, ht⟩ : ∃ t, I 103 = t := ⟨_, rfl⟩
  rw [ht] at hk
  have hb : ∀ j, j < n → -128 ≤ t j ∧ t j < 128 := by rw [← ht]; exact hb
  obtain ⟨G, hG⟩ : ∃ G, zSe t n ch nm = G := ⟨_, rfl⟩
  rw [hG] at hk
  have lm : ∀ p, p ≤ n → (tk t n 200 p).2.1 ≤ n := fun p hp => tk_pl hp
  -- it is taken over
  have l146 : ∀ (c : Sn) (Y : Nat → Nat → Int), G = .inr c → c.2.1 ≤ 39 → mSn Y c → Y 102 49 = (c.1 : Int) → Y 104 1007 = (c.2.1 : Int) → (∀ k j, ¬ mSw k j → (k ≠ 104 ∨ j ≠ 1007) → Y k j = I k j) → (Y 102 2 = 0 ∧ 0 ≤ Y 102 14 ∧ Y 102 14 ≤ 10000) → Y 102 15 = 0 →
      ∀ (m : Nat) (X : Nat → Nat → Int) (i : Nat), i + m = 3 * c.2.1 → (∀ j, j < i → X 104 (1008 + j) = Y 106 j) → (∀ k j, (k ≠ 104 ∨ j < 1008 ∨ 1188 ≤ j) → X k j = Y k j) → yW l zSS D cy zFk z (d + 3) 234 bc bs K 0 0 146 [(0, yr (some 102)), (2, yi (i : Int))] [] (N, T, R, X) := by
    intro c Y eG h39 sY y49 y1007 fY vY v15 m
    induction m with
    | zero =>
      intro X i h1 h2 h3
      have x48 : X 102 48 = (c.2.1 : Int) := by rw [h3 102 48 (by omega)]; exact sY.1
      refine B_234_146 hT hR ⟨fun _ => ?_, fun q => absurd q (by rw [x48, ymul_eq (by omega) (by omega)]; omega)⟩
      rw [h3 102 49 (by omega), y49]
      refine hk _ X (by rw [eG]; rfl) ?_ (by rw [h3 102 15 (by omega), v15, eG]; rfl) (.inr ⟨c, eG, fun k j a b => ?_, h39, by rw [h3 104 1007 (by omega)]; exact y1007, fun q hq => ?_⟩)
      · rw [h3 102 2 (by omega), h3 102 14 (by omega)]; exact vY
      · rw [h3 k j (by omega)]; exact fY k j a (by omega)
      · rw [h2 (3 * q) (by omega), show 1009 + 3 * q = 1008 + (3 * q + 1) by omega, h2 (3 * q + 1) (by omega), show 1010 + 3 * q = 1008 + (3 * q + 2) by omega, h2 (3 * q + 2) (by omega)]
        exact sY.2 q hq
    | succ m ih =>
      intro X i h1 h2 h3
      have x48 : X 102 48 = (c.2.1 : Int) := by rw [h3 102 48 (by omega)]; exact sY.1
      refine e_ri (k := 106) (n := 135) (j := i) (c0 := 1) (hT 106 rfl) (.inr (.inl rfl)) (by omega) (show 106 < N by omega) (fun q1 q2 => ?_)
      have q1 : -2147483648 ≤ X 106 i := q1
      have q2 : X 106 i < 2147483648 := q2
      refine B_234_146 hT hR ⟨fun q => absurd q (by rw [x48, ymul_eq (by omega) (by omega)]; omega), fun _ => ?_⟩
      rw [yadd_eq (x := 1008) (by omega) (by omega), yadd_eq (x := (i : Int)) (by omega) (by omega), show ((i : Int)).toNat = i by omega, show ((1008 : Int) + (i : Int)).toNat = 1008 + i by omega]
      refine ⟨by omega, by omega, by omega, by omega, ?_⟩
      intro I6 e6
      rw [ynar1_eq q1 q2, h3 106 i (by omega)] at e6
      refine ih I6 (i + 1) (by omega) (fun j hj => ?_) (fun k j a => ?_)
      · rw [e6]
        by_cases e : j = i
        · subst e; rw [yU_eq]
        · rw [yU_ne _ _ (by omega)]; exact h2 j (by omega)
      · rw [e6, yU_ne _ _ (by omega)]; exact h3 k j a
  -- a FAULT
  have fault : ∀ (X J : Nat → Nat → Int) (f : Int × Nat), G = .inl f → mFl J f → (∀ k j, ¬ mSw k j → J k j = I k j) → J 102 2 = 0 → K (some (yi (ysub (-1) (J 102 16)))) (N, T, R, J) := by
    intro X J f eG fl fJ j2
    have bd : kBad n f := kSent_bad (tk_go t n 200) lm (hG.trans eG)
    obtain ⟨b1, b2, b3⟩ := bd
    refine hk _ J ?_ ⟨j2, fl.2.2⟩ (by rw [fl.1, eG]; rfl) (.inl ⟨⟨_, eG⟩, fJ⟩)
    rw [fl.2.1, ysub_eq (by omega) (by omega), eG]
    rfl
  have sw : ∀ X Y : Nat → Nat → Int, mSF X Y → (∀ k j, ¬ mSw k j → X k j = I k j) → ∀ k j, ¬ mSw k j → Y k j = I k j := fun X Y f g k j h => by
    rw [f k j (by unfold mSw at h; omega) (by unfold mSw at h; omega) (by unfold mSw at h; omega)]
    exact g k j h
  have loop : ∀ (m : Nat) (k : List Int) (s : Sn) (p : Nat) (w : Bool) (X : Nat → Nat → Int), jRun (tk t n 200) (nLd ch nm) m k s p w = some G → p ≤ n → mRd X t n 200 p → mJs X k s w → X 102 2 = 0 → (∀ k j, ¬ mSw k j → X k j = I k j) → yW l zSS D cy zFk z (d + 3) 234 bc bs K 0 0 48 [(0, yr (some 102)), (1, yi 1)] [] (N, T, R, X) := by
    intro m
    induction m with
    | zero =>
      intro k s p w X e
      rw [jRun] at e
      cases e
    | succ m ih =>
      intro k s p w X e pn rX jX x2 fX
      have t0 : X 103 = t := by rw [← ht]; exact funext fun j => fX 103 j (by unfold mSw; omega)
      have w0 : ∀ i, i < 24 → X 108 i = rCd i := fun i hi => by rw [fX 108 i (by unfold mSw; omega)]; exact hw i hi
      have L0 : mNm X 0 ch nm := ⟨L.1, fun i hi => by rw [fX 107 (0 + i) (by unfold mSw; omega)]; exact L.2 i hi⟩
      have ch0 : X 104 2 = (ch : Int) := by rw [fX 104 2 (by unfold mSw; omega)]; exact hc
      obtain ⟨-, g11, -, -, -, -, -, -, -, g14⟩ := mTk_tk rX.2.2
      cases w with
      | false =>
        have z52 : X 102 52 = 0 := jX.2.2.2.1
        have oper : yW l zSS D cy zFk z (d + 2) 222 0 0 (fun r h' => ∃ r6 I5, r = some (yi r6) ∧ h' = (N, T, R, I5) ∧ ((r6 ≠ 0 → yW l zSS D cy zFk z (d + 3) 234 bc bs K 0 0 48 [(0, yr (some 102)), (1, yi 1)] [] (N, T, R, I5)) ∧ (¬ (r6 ≠ 0) → K (some (yi (ysub (-1) (I5 102 16)))) (N, T, R, I5)))) 0 0 0 [(0, yr (some 102))] [] (N, T, R, X) := by
          refine x_222 hT hR rX hn hb t0 w0 pn ch0 L0 jX (fun f J ej fJ fl => ⟨_, _, rfl, rfl, fun q => absurd rfl q, fun _ => ?_⟩) (fun k' s' p' w' J ej fJ rJ jJ pJ => ⟨_, _, rfl, rfl, fun _ => ?_, fun q => absurd (show (1 : Int) ≠ 0 by decide) q⟩)
          · rw [ej m] at e
            exact fault X J f (Option.some.inj e).symm fl (sw X J fJ fX) (by rw [fJ 102 2 (by omega) (by omega) (by omega)]; exact x2)
          · rw [ej m] at e
            exact ih k' s' p' w' J e pJ rJ jJ (by rw [fJ 102 2 (by omega) (by omega) (by omega)]; exact x2) (sw X J fJ fX)
        exact B_234_48 hT hR ⟨fun q => absurd q (by decide), fun _ => ⟨fun _ => ⟨fun _ => oper, fun q => absurd z52 q⟩, fun q => absurd z52 q⟩⟩
      | true =>
        have o52 : X 102 52 = 1 := jX.2.2.2.1
        have n52 : ¬ X 102 52 = 0 := by omega
        by_cases c0 : (tk t n 200 p).1 = 0
        · have a11 : X 102 11 = 0 := by rw [g11, c0]; rfl
          refine B_234_48 hT hR ⟨fun q => absurd q (by decide), fun _ => ⟨fun q => absurd q n52, fun _ => ⟨fun q => absurd a11 q, fun _ => ?_⟩⟩⟩
          obtain ⟨L1, L2, L3, L4, L5, L6⟩ := jX
          have L5 : k.length + s.2.1 + 1 ≤ 2 * s.1 := L5
          obtain ⟨ln1, ln2⟩ := jNots_len k s
          refine x_217 (d := d + 1) hT hR k L1 L2 (by omega) (fun I1 f1 s1 k1 => ⟨_, rfl, rfl, ?_⟩)
          obtain ⟨k', s', hj⟩ : ∃ k' s', jJoins 16 (jNots k s).1 (jNots k s).2 = (k', s') := ⟨(jJoins 16 (jNots k s).1 (jNots k s).2).1, (jJoins 16 (jNots k s).1 (jNots k s).2).2, rfl⟩
          obtain ⟨jl1, jl2⟩ := jJoins_len 16 (jNots k s).1 (jNots k s).2
          rw [hj] at jl1 jl2
          have jl1 : k'.length + s'.2.1 = (jNots k s).1.length + (jNots k s).2.2.1 := jl1
          have jl2 : s'.1 = (jNots k s).2.1 := jl2
          refine x_200 (d := d + 1) hT hR (.inl ⟨rfl, rfl⟩) (jNots k s).1 s1 k1 (by omega) (fun I2 f2 s2 k2 => ⟨_, rfl, rfl, ?_⟩)
          rw [hj] at s2 k2
          have s2 : mSn I2 s' := s2
          have k2 : mSk I2 k' := k2
          have f12 : ∀ a b, ¬ (a = 102 ∧ (b = 48 ∨ b = 50 ∨ b = 51)) → a ≠ 106 → I2 a b = X a b := fun a b g1 g2 => by rw [f2 a b (by omega) g2]; exact f1 a b g1 g2
          have r2 : mRd I2 t n 200 p := mRd_cg rX (fun b hb => f12 102 b (by omega) (by omega))
          have F2 : mSF X I2 := fun a b g1 g2 g3 => f12 a b (by omega) g2
          have x22 : I2 102 2 = 0 := by rw [f12 102 2 (by omega) (by omega)]; exact x2
          have fS := sw X I2 F2 fX
          rw [jStep_stop c0 hj] at e
          cases k' with
          | nil =>
            have v50 : I2 102 50 = 0 := k2.1
            refine ⟨fun _ => ?_, fun q => absurd (by omega) q⟩
            have e : G = .inr s' := (Option.some.inj e).symm
            obtain ⟨c20, c39⟩ := kSent_ok (tk_go t n 200) (hG.trans e)
            have o49 : I2 102 49 = (s'.1 : Int) := by rw [f12 102 49 (by omega) (by omega), L3]; omega
            refine B_234_48 hT hR ⟨fun _ I3 e3 => ?_, fun q => absurd rfl q⟩
            rw [s2.1, ynar1_eq (by omega) (by omega)] at e3
            have n3 : ∀ k j, (k ≠ 104 ∨ j ≠ 1007) → I3 k j = I2 k j := fun k j h => by rw [e3, yU_ne _ _ (by omega)]
            refine l146 s' I3 e c39 (mSn_cg (n3 102 48 (by omega)) (fun j => n3 106 j (by omega)) s2) (by rw [n3 102 49 (by omega)]; exact o49) (by rw [e3, yU_eq]) (fun k j a b => by rw [n3 k j b]; exact fS k j a) ?_ (by rw [n3 102 15 (by omega)]; exact r2.2.1.2) (3 * s'.2.1) I3 0 (by omega) (fun j hj => absurd hj (by omega)) (fun _ _ _ => rfl)
            obtain ⟨-, -, -, -, -, -, -, -, -, h14'⟩ := mTk_tk r2.2.2
            rw [n3 102 2 (by omega), n3 102 14 (by omega)]
            exact ⟨x22, h14'⟩
          | cons w k3 =>
            have v50 : I2 102 50 = ((k3.length + 1 : Nat) : Int) := k2.1
            refine ⟨fun q => absurd q (by omega), fun _ => ?_⟩
            have e : G = .inl (1, (tk t n 200 p).2.1) := (Option.some.inj e).symm
            refine x_159 hT hR r2 (fun I3 f3 fl => ⟨_, _, rfl, rfl, ?_⟩)
            exact fault X I3 _ e fl (sw I2 I3 (mSF_of f3) fS) (by rw [f3 102 2 (by omega)]; exact x22)
        · have a11 : X 102 11 ≠ 0 := fun q => c0 (by rw [g11] at q; omega)
          have behi : yW l zSS D cy zFk z (d + 2) 162 0 0 (fun r h' => ∃ r6 I5, r = some (yi r6) ∧ h' = (N, T, R, I5) ∧ ((r6 ≠ 0 → yW l zSS D cy zFk z (d + 3) 234 bc bs K 0 0 48 [(0, yr (some 102)), (1, yi 1)] [] (N, T, R, I5)) ∧ (¬ (r6 ≠ 0) → K (some (yi (ysub (-1) (I5 102 16)))) (N, T, R, I5)))) 0 0 0 [(0, yr (some 102))] [] (N, T, R, X) := by
            refine x_162 hT hR (nLd ch nm) rX hn hb t0 pn jX c0 (fun J ej fJ fl => ⟨_, _, rfl, rfl, fun q => absurd rfl q, fun _ => ?_⟩) (fun k' s' p' w' J ej fJ rJ jJ pJ => ⟨_, _, rfl, rfl, fun _ => ?_, fun q => absurd (show (1 : Int) ≠ 0 by decide) q⟩)
            · rw [ej m] at e
              exact fault X J _ (Option.some.inj e).symm fl (sw X J fJ fX) (by rw [fJ 102 2 (by omega) (by omega) (by omega)]; exact x2)
            · rw [ej m] at e
              exact ih k' s' p' w' J e pJ rJ jJ (by rw [fJ 102 2 (by omega) (by omega) (by omega)]; exact x2) (sw X J fJ fX)
          exact B_234_48 hT hR ⟨fun q => absurd q (by decide), fun _ => ⟨fun q => absurd q n52, fun _ => ⟨fun _ => ⟨fun q => absurd q n52, fun _ => behi⟩, fun q => absurd a11 q⟩⟩⟩
  refine B_234_0 hT hR (fun I1 e1 => B_244_0 hT hR (fun I2 e2 I3 e3 I4 e4 I5 e5 => ⟨_, rfl, rfl, fun I6 e6 I7 e7 I8 e8 I9 e9 I10 e10 I11 e11 => ?_⟩))
  have f11 : ∀ k j, ¬ (k = 102 ∧ (j = 0 ∨ (2 ≤ j ∧ j ≤ 5) ∨ j = 15 ∨ (48 ≤ j ∧ j ≤ 52))) → I11 k j = I k j := fun k j h => by
    rw [e11, yU_ne _ _ (by omega), e10, yU_ne _ _ (by omega), e9, yU_ne _ _ (by omega), e8, yU_ne _ _ (by omega), e7, yU_ne _ _ (by omega), e6, yU_ne _ _ (by omega), e5, yU_ne _ _ (by omega), e4, yU_ne _ _ (by omega), e3, yU_ne _ _ (by omega), e2, yU_ne _ _ (by omega), e1, yU_ne _ _ (by omega)]
  have n6 : ∀ j, ¬ (48 ≤ j ∧ j ≤ 52) → j ≠ 15 → I11 102 j = I5 102 j := fun j h h2 => by
    rw [e11, yU_ne _ _ (by omega), e10, yU_ne _ _ (by omega), e9, yU_ne _ _ (by omega), e8, yU_ne _ _ (by omega), e7, yU_ne _ _ (by omega), e6, yU_ne _ _ (by omega)]
  have v3 : I11 102 3 = (n : Int) := by rw [n6 3 (by omega) (by omega), e5, yU_ne _ _ (by omega), e4, yU_ne _ _ (by omega), e3, yU_ne _ _ (by omega), e2, yU_eq, e1, yU_ne _ _ (by omega)]; exact hn2
  have v2 : I11 102 2 = 0 := by rw [n6 2 (by omega) (by omega), e5, yU_ne _ _ (by omega), e4, yU_ne _ _ (by omega), e3, yU_eq]
  have v4 : I11 102 4 = 0 := by rw [n6 4 (by omega) (by omega), e5, yU_ne _ _ (by omega), e4, yU_eq]
  have v5 : I11 102 5 = 200 := by rw [n6 5 (by omega) (by omega), e5, yU_eq]
  have v15 : I11 102 15 = 0 := by rw [e11, yU_ne _ _ (by omega), e10, yU_ne _ _ (by omega), e9, yU_ne _ _ (by omega), e8, yU_ne _ _ (by omega), e7, yU_ne _ _ (by omega), e6, yU_eq]
  have v48 : I11 102 48 = 0 := by rw [e11, yU_ne _ _ (by omega), e10, yU_ne _ _ (by omega), e9, yU_ne _ _ (by omega), e8, yU_ne _ _ (by omega), e7, yU_eq]
  have v49 : I11 102 49 = 0 := by rw [e11, yU_ne _ _ (by omega), e10, yU_ne _ _ (by omega), e9, yU_ne _ _ (by omega), e8, yU_eq]
  have v50 : I11 102 50 = 0 := by rw [e11, yU_ne _ _ (by omega), e10, yU_ne _ _ (by omega), e9, yU_eq]
  have v51 : I11 102 51 = 1 := by rw [e11, yU_ne _ _ (by omega), e10, yU_eq]
  have v52 : I11 102 52 = 0 := by rw [e11, yU_eq]
  have t11 : I11 103 = t := by rw [← ht]; exact funext fun j => f11 103 j (by omega)
  refine x_182 (d := d + 1) hT hR (n := n) (lim := 200) (p := 0) v3 hn v5 v4 (Nat.zero_le _) (by rw [t11]; exact hb) (by rw [f11 102 14 (by omega)]; exact h14) (fun I12 f12 q12 => ⟨_, rfl, rfl, ?_⟩)
  rw [t11] at q12
  obtain ⟨m, hm⟩ := jSent (S := nLd ch nm) (tk_go t n 200)
  have hm : jRun (tk t n 200) (nLd ch nm) m [] Sn0 0 false = some G := by rw [hm]; exact congrArg some hG
  refine loop m [] Sn0 0 false I12 hm (Nat.zero_le _) ⟨by rw [f12 102 3 (by omega)]; exact v3, ⟨by rw [f12 102 5 (by omega)]; exact v5, by rw [f12 102 15 (by omega)]; exact v15⟩, q12⟩ ⟨⟨?_, fun i hi => absurd hi (Nat.not_lt_zero _)⟩, ⟨?_, ?_, trivial⟩, ?_, ?_, Nat.zero_le _, Nat.zero_le _⟩ (by rw [f12 102 2 (by omega)]; exact v2) (fun k j h => ?_)
  · rw [f12 102 48 (by omega)]; exact v48
  · rw [f12 102 50 (by omega)]; exact v50
  · rw [f12 102 51 (by omega)]; exact v51
  · rw [f12 102 49 (by omega)]; exact v49
  · rw [f12 102 52 (by omega)]; exact v52
  · rw [f12 k j (by unfold mSw at h; omega)]
    exact f11 k j (by unfold mSw at h; omega)
end Xv
