/-! THE REFERENCE's CONTRACTS, 8: acts that can be undone. -/
/-- a slice of what is so, as it may be for this land -/
def mSl (I : Nat → Nat → Int) (g : Nat → Int) : Prop := (0 ≤ g 0 ∧ g 0 ≤ 500) ∧ (0 ≤ g 3 ∧ g 3 ≤ 60) ∧ ∀ k, k < 8 → mAt I (g (12 + k)) ∧ mAt I (g (28 + k))
/-- what can be undone -/
def mUn (I : Nat → Nat → Int) : Prop := 0 ≤ I 102 35 ∧ I 102 35 ≤ 8 ∧ ∀ u : Nat, (u : Int) < I 102 35 → mSl I (fun j => I 113 (468 * u + j))
theorem mSl_at {I I' : Nat → Nat → Int} {g g' : Nat → Int} (h0 : I' 104 0 = I 104 0) (h1 : I' 104 1 = I 104 1) (hg : ∀ j, j < 468 → g' j = g j) (h : mSl I g) : mSl I' g' := by
  unfold mSl mAt at *
  rw [hg 0 (by omega), hg 3 (by omega), h0, h1]
  refine ⟨h.1, h.2.1, fun k hk => ?_⟩
  rw [hg _ (by omega), hg _ (by omega)]
  exact h.2.2 k hk
/-- what is so now is such a slice -/
theorem mSl_now {I : Nat → Nat → Int} (hI : mInv I) (hm : 0 ≤ I 104 458 ∧ I 104 458 ≤ 500) : mSl I (fun j => I 104 (458 + j)) := by
  refine ⟨hm, hI.2.2.2.2.1, fun k hk => ?_⟩
  obtain ⟨a, b⟩ := hI.2.2.2.2.2.1 k hk
  have e1 : 458 + (12 + k) = 470 + k := by omega
  have e2 : 458 + (28 + k) = 486 + k := by omega
  show mAt I (I 104 (458 + (12 + k))) ∧ mAt I (I 104 (458 + (28 + k)))
  rw [e1, e2]; exact ⟨a, b⟩
section Sm
variable {l : Launch} {D : va_G} {cy : Nat → ClassId} {z d bc bs N : Nat} {T : Nat → Nat × Nat} {R : Nat → Nat → Option Nat} {I : Nat → Nat → Int} {K : yKo}
/-- what is so is put behind what can be undone -/
theorem r_keep (hT : yLT T) (hR : yLR R) (hN : 126 ≤ N) (hI : mInv I) (hm : 0 ≤ I 104 458 ∧ I 104 458 ≤ 500) (hU : mUn I) (hk : ∀ I', mUn I' → I' 102 35 = (if I 102 35 = 8 then 8 else I 102 35 + 1) → (∀ k j, k ≠ 113 → (k ≠ 102 ∨ j ≠ 35) → I' k j = I k j) → K none (N, T, R, I')) : yW l zSS D cy zFk z d 203 bc bs K 0 0 0 [(0, yr (some 102))] [] (N, T, R, I) := by
  obtain ⟨u0, u8, us⟩ := hU
  -- the slice at u is filled
  have fill : ∀ (u : Nat) (I1 : Nat → Nat → Int), u < 8 → I1 102 35 = (u : Int) → (∀ v : Nat, v < u → mSl I (fun j => I1 113 (468 * v + j))) → (∀ k j, k ≠ 113 → (k ≠ 102 ∨ j ≠ 35) → I1 k j = I k j) → (u : Int) + 1 = (if I 102 35 = 8 then 8 else I 102 35 + 1) →
      ∀ (m : Nat) (I' : Nat → Nat → Int) (i : Nat), i + m = 468 → (∀ j, j < i → I' 113 (468 * u + j) = I 104 (458 + j)) → (∀ j, j < 468 * u → I' 113 j = I1 113 j) → (∀ k j, k ≠ 113 → I' k j = I1 k j) → yW l zSS D cy zFk z d 203 bc bs K 0 0 48 [(0, yr (some 102)), (1, yi (i : Int))] [] (N, T, R, I') := by
    intro u I1 hu8 hu hs hsame hend m
    induction m with
    | zero =>
      intro I' i hi h1 h2 h3
      refine B_203_48 hT hR ⟨fun _ => ?_, fun c => absurd c (by omega)⟩
      intro I2 e2
      have e35 : I' 102 35 = (u : Int) := by rw [h3 102 35 (by decide)]; exact hu
      rw [e35, yadd_eq (by omega) (by omega)] at e2
      have same : ∀ k j, k ≠ 113 → (k ≠ 102 ∨ j ≠ 35) → I2 k j = I k j := fun k j a b => by
        rw [e2, yU_ne _ _ (by omega), h3 k j a]; exact hsame k j a b
      have v35 : I2 102 35 = (u : Int) + 1 := by rw [e2, yU_eq]
      have s113 : ∀ j, I2 113 j = I' 113 j := fun j => by rw [e2, yU_ne _ _ (by omega)]
      refine hk I2 ⟨by omega, by omega, fun v hv => ?_⟩ (by rw [v35]; exact hend) same
      rw [v35] at hv
      by_cases e : v = u
      · subst e
        exact mSl_at (same 104 0 (by decide) (.inl (by decide))) (same 104 1 (by decide) (.inl (by decide))) (fun j hj => by show I2 113 (468 * v + j) = _; rw [s113]; exact h1 j (by omega)) (mSl_now hI hm)
      · have hv2 : 468 * v + 468 ≤ 468 * u := by omega
        exact mSl_at (same 104 0 (by decide) (.inl (by decide))) (same 104 1 (by decide) (.inl (by decide))) (fun j hj => by show I2 113 (468 * v + j) = _; rw [s113]; exact h2 _ (by omega)) (hs v (by omega))
    | succ m ih =>
      intro I' i hi h1 h2 h3
      have e35 : I' 102 35 = (u : Int) := by rw [h3 102 35 (by decide)]; exact hu
      have e104 : I' 104 (458 + i) = I 104 (458 + i) := by rw [h3 104 _ (by decide)]; exact hsame 104 _ (by decide) (.inl (by decide))
      refine e_ri (k := 104) (n := 1188) (j := 458 + i) (c0 := 1) (hT 104 rfl) (.inr (.inl rfl)) (by omega) (show 104 < N by omega) (fun q1 q2 => ?_)
      have q1 : -2147483648 ≤ I' 104 (458 + i) := q1
      have q2 : I' 104 (458 + i) < 2147483648 := q2
      refine B_203_48 hT hR ⟨fun c => absurd c (by omega), fun _ => ?_⟩
      rw [e35, ymul_eq (by omega) (by omega), yadd_eq (x := 458) (by omega) (by omega), yadd_eq (x := (i : Int)) (by omega) (by omega), yadd_eq (x := 468 * (u : Int)) (by omega) (by omega)]
      have x1 : ((458 : Int) + (i : Int)).toNat = 458 + i := by omega
      have x2 : (468 * (u : Int) + (i : Int)).toNat = 468 * u + i := by omega
      rw [x1, x2]
      refine ⟨by omega, by omega, by omega, by omega, ?_⟩
      intro I7 e7
      rw [ynar1_eq q1 q2] at e7
      refine ih I7 (i + 1) (by omega) (fun j hj => ?_) (fun j hj => ?_) (fun k j a => ?_)
      · rw [e7]
        by_cases e : j = i
        · rw [e, yU_eq]; exact e104
        · rw [yU_ne _ _ (by omega)]; exact h1 j (by omega)
      · rw [e7, yU_ne _ _ (by omega)]; exact h2 j hj
      · rw [e7, yU_ne _ _ (by omega)]; exact h3 k j a
  refine B_203_0 hT hR ⟨fun c => ?_, fun c => ?_⟩
  · obtain ⟨u, hu⟩ : ∃ u : Nat, I 102 35 = (u : Int) := ⟨(I 102 35).toNat, by omega⟩
    exact fill u I (by omega) hu (fun v hv => us v (by omega)) (fun _ _ _ _ => rfl) (by rw [if_neg c, hu]) 468 I 0 rfl (fun j hj => absurd hj (by omega)) (fun _ _ => rfl) (fun _ _ _ => rfl)
  · have c8 : I 102 35 = 8 := by omega
    -- the first one is forgotten
    have shift : ∀ (m : Nat) (I' : Nat → Nat → Int) (i : Nat), i + m = 3276 → (∀ j, j < i → I' 113 j = I 113 (j + 468)) → (∀ j, i ≤ j → I' 113 j = I 113 j) → (∀ k j, k ≠ 113 → I' k j = I k j) → yW l zSS D cy zFk z d 203 bc bs K 0 0 11 [(0, yr (some 102)), (1, yi (i : Int))] [] (N, T, R, I') := by
      intro m
      induction m with
      | zero =>
        intro I' i hi h1 h2 h3
        refine B_203_11 hT hR ⟨fun _ => ?_, fun c => absurd c (by omega)⟩
        intro I2 e2
        have s113 : ∀ j, I2 113 j = I' 113 j := fun j => by rw [e2, yU_ne _ _ (by omega)]
        refine fill 7 I2 (by omega) (by rw [e2, yU_eq]; rfl) (fun v hv => ?_) (fun k j a b => by rw [e2, yU_ne _ _ (by omega)]; exact h3 k j a) (by rw [if_pos c8]; rfl) 468 I2 0 rfl (fun j hj => absurd hj (by omega)) (fun _ _ => rfl) (fun _ _ _ => rfl)
        refine mSl_at rfl rfl (fun j hj => ?_) (us (v + 1) (by omega))
        show I2 113 (468 * v + j) = I 113 (468 * (v + 1) + j)
        rw [s113, h1 _ (by omega), show 468 * v + j + 468 = 468 * (v + 1) + j by omega]
      | succ m ih =>
        intro I' i hi h1 h2 h3
        refine e_ri (k := 113) (n := 3744) (j := i + 468) (c0 := 1) (hT 113 rfl) (.inr (.inl rfl)) (by omega) (show 113 < N by omega) (fun q1 q2 => ?_)
        have q1 : -2147483648 ≤ I' 113 (i + 468) := q1
        have q2 : I' 113 (i + 468) < 2147483648 := q2
        refine B_203_11 hT hR ⟨fun c => absurd c (by omega), fun _ => ?_⟩
        rw [yadd_eq (x := (i : Int)) (y := 468) (by omega) (by omega), yadd_eq (x := (i : Int)) (y := 1) (by omega) (by omega)]
        have x1 : ((i : Int) + 468).toNat = i + 468 := by omega
        have x2 : ((i : Int)).toNat = i := by omega
        rw [x1, x2]
        refine ⟨by omega, by omega, by omega, by omega, ?_⟩
        intro I7 e7
        rw [ynar1_eq q1 q2] at e7
        refine ih I7 (i + 1) (by omega) (fun j hj => ?_) (fun j hj => ?_) (fun k j a => ?_)
        · rw [e7]
          by_cases e : j = i
          · rw [e, yU_eq]; exact h2 _ (by omega)
          · rw [yU_ne _ _ (by omega)]; exact h1 j (by omega)
        · rw [e7, yU_ne _ _ (by omega)]; exact h2 j (by omega)
        · rw [e7, yU_ne _ _ (by omega)]; exact h3 k j a
    exact shift 3276 I 0 rfl (fun j hj => absurd hj (by omega)) (fun _ _ => rfl) (fun _ _ _ => rfl)
/-- the latest act is undone -/
theorem r_undo (hT : yLT T) (hR : yLR R) (hN : 126 ≤ N) (hI : mInv I) (hm : 0 ≤ I 104 458 ∧ I 104 458 ≤ 500) (hU : mUn I) (hk : ∀ r I', mInv I' → (0 ≤ I' 104 458 ∧ I' 104 458 ≤ 500) → mUn I' → (∀ k j, (k ≠ 104 ∨ j < 458 ∨ 926 ≤ j) → (k ≠ 102 ∨ (j ≠ 0 ∧ j ≠ 35)) → I' k j = I k j) → K (some (yi r)) (N, T, R, I')) : yW l zSS D cy zFk z d 250 bc bs K 0 0 0 [(0, yr (some 102))] [] (N, T, R, I) := by
  obtain ⟨u0, u8, us⟩ := hU
  refine B_250_0 hT hR ?_
  intro I1 e1
  have i1 : mInv I1 := by rw [e1]; exact mInv_fld hI _ _ _ (by decide) (by decide) (by decide)
  have s1 : ∀ k j, (k ≠ 102 ∨ j ≠ 0) → I1 k j = I k j := fun k j h => by rw [e1, yU_ne _ _ (by omega)]
  have v35 : I1 102 35 = I 102 35 := s1 102 35 (.inr (by decide))
  rw [v35]
  refine ⟨fun c => ?_, fun c => ?_⟩
  · intro I3 e3
    rw [ysub_eq (by omega) (by omega)] at e3
    obtain ⟨u, hu⟩ : ∃ u : Nat, I 102 35 = (u : Int) + 1 := ⟨(I 102 35 - 1).toNat, by omega⟩
    have w35 : I3 102 35 = (u : Int) := by rw [e3, yU_eq]; omega
    have s3 : ∀ k j, (k ≠ 102 ∨ (j ≠ 0 ∧ j ≠ 35)) → I3 k j = I k j := fun k j h => by rw [e3, yU_ne _ _ (by omega)]; exact s1 k j (by omega)
    have sl : mSl I (fun j => I 113 (468 * u + j)) := us u (by omega)
    have loop : ∀ (m : Nat) (I' : Nat → Nat → Int) (i : Nat), i + m = 468 → (∀ j, j < i → I' 104 (458 + j) = I 113 (468 * u + j)) → (∀ k j, (k ≠ 104 ∨ j < 458 ∨ 926 ≤ j) → I' k j = I3 k j) → yW l zSS D cy zFk z d 250 bc bs K 0 0 26 [(0, yr (some 102)), (1, yi (i : Int))] [] (N, T, R, I') := by
      intro m
      induction m with
      | zero =>
        intro I' i hi h1 h2
        refine B_250_26 hT hR ⟨fun _ => ?_, fun c => absurd c (by omega)⟩
        have low : ∀ j, j < 458 → I' 104 j = I 104 j := fun j hj => by rw [h2 104 j (by omega)]; exact s3 104 j (.inl (by decide))
        have at_ : ∀ v, mAt I' v ↔ mAt I v := fun v => by unfold mAt; rw [low 0 (by omega), low 1 (by omega)]
        have g458 : I' 104 458 = I 113 (468 * u) := h1 0 (by omega)
        refine hk _ I' ?_ (by rw [g458]; exact sl.1) ⟨?_, ?_, fun v hv => ?_⟩ (fun k j a b => by rw [h2 k j a]; exact s3 k j b)
        · obtain ⟨a, b, c', d', _, _, g⟩ := hI
          refine ⟨?_, ?_, fun k hk8 => ?_, fun k hk8 hlt => ?_, ?_, fun k hk8 => ?_, fun i hi => ?_⟩
          · unfold mDim; rw [low 0 (by omega), low 1 (by omega), low 2 (by omega)]; exact a
          · rw [low 6 (by omega)]; exact b
          · rw [low _ (by omega)]; exact c' k hk8
          · rw [low 2 (by omega)] at hlt
            rw [low 0 (by omega), low 1 (by omega), low _ (by omega), low _ (by omega)]; exact d' k hk8 hlt
          · have e := h1 3 (by omega)
            have e' : I' 104 461 = I 113 (468 * u + 3) := e
            rw [e']; exact sl.2.1
          · rw [at_, at_]
            have e := h1 (12 + k) (by omega)
            have e' := h1 (28 + k) (by omega)
            rw [show 458 + (12 + k) = 470 + k by omega] at e
            rw [show 458 + (28 + k) = 486 + k by omega] at e'
            rw [e, e']; exact sl.2.2 k hk8
          · rw [h2 111 i (.inl (by decide)), h2 112 i (.inl (by decide)), s3 111 i (.inl (by decide)), s3 112 i (.inl (by decide))]; exact g i hi
        · rw [h2 102 35 (.inl (by decide)), w35]; omega
        · rw [h2 102 35 (.inl (by decide)), w35]; omega
        · rw [h2 102 35 (.inl (by decide)), w35] at hv
          refine mSl_at (low 0 (by omega)) (low 1 (by omega)) (fun j hj => ?_) (us v (by omega))
          show I' 113 _ = I 113 _
          rw [h2 113 _ (.inl (by decide))]; exact s3 113 _ (.inl (by decide))
      | succ m ih =>
        intro I' i hi h1 h2
        have e35 : I' 102 35 = (u : Int) := by rw [h2 102 35 (.inl (by decide))]; exact w35
        have e113 : I' 113 (468 * u + i) = I 113 (468 * u + i) := by rw [h2 113 _ (.inl (by decide))]; exact s3 113 _ (.inl (by decide))
        refine e_ri (k := 113) (n := 3744) (j := 468 * u + i) (c0 := 1) (hT 113 rfl) (.inr (.inl rfl)) (by omega) (show 113 < N by omega) (fun q1 q2 => ?_)
        have q1 : -2147483648 ≤ I' 113 (468 * u + i) := q1
        have q2 : I' 113 (468 * u + i) < 2147483648 := q2
        refine B_250_26 hT hR ⟨fun c => absurd c (by omega), fun _ => ?_⟩
        rw [e35, ymul_eq (by omega) (by omega), yadd_eq (x := 458) (by omega) (by omega), yadd_eq (x := (i : Int)) (by omega) (by omega), yadd_eq (x := 468 * (u : Int)) (by omega) (by omega)]
        have x1 : ((458 : Int) + (i : Int)).toNat = 458 + i := by omega
        have x2 : (468 * (u : Int) + (i : Int)).toNat = 468 * u + i := by omega
        rw [x1, x2]
        refine ⟨by omega, by omega, by omega, by omega, ?_⟩
        intro I6 e6
        rw [ynar1_eq q1 q2] at e6
        refine ih I6 (i + 1) (by omega) (fun j hj => ?_) (fun k j a => ?_)
        · rw [e6]
          by_cases e : j = i
          · rw [e, yU_eq]; exact e113
          · rw [yU_ne _ _ (by omega)]; exact h1 j (by omega)
        · rw [e6, yU_ne _ _ (by omega)]; exact h2 k j a
    exact loop 468 I3 0 rfl (fun j hj => absurd hj (by omega)) (fun _ _ _ => rfl)
  · refine hk _ I1 i1 (by rw [s1 104 458 (.inl (by decide))]; exact hm) ⟨by omega, by omega, fun v hv => ?_⟩ (fun k j _ b => s1 k j (by omega))
    exact mSl_at (s1 104 0 (.inl (by decide))) (s1 104 1 (.inl (by decide))) (fun j hj => s1 113 _ (.inl (by decide))) (us v (by omega))
end Sm
