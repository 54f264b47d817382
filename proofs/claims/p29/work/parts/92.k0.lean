/-! THE CONTRACTS' PRINTER wants these: places of the parts; what a write leaves. -/
theorem yC_ne {I : Nat → Nat → Int} {q q' n k j : Nat} (h : ¬ (k = q' ∧ j < n)) : yC I q q' n k j = I k j := if_neg h
theorem ymin_cs (a b : Int) : (ymin a b = a ∧ a ≤ b) ∨ (ymin a b = b ∧ b ≤ a) := by unfold ymin; split <;> omega
theorem ymax_cs (a b : Int) : (ymax a b = a ∧ b ≤ a) ∨ (ymax a b = b ∧ a ≤ b) := by unfold ymax; split <;> omega
theorem a_Land4 {T : Nat → Nat × Nat} {R : Nat → Nat → Option Nat} (hT : yLT T) (hR : yLR R) : yAtLand T R 4 := by
  refine ⟨fun j h => ?_, fun j h => ?_⟩
  · have hj : j < 12 := Nat.le_of_ble_eq_true h
    rw [hT _ (Nat.ble_eq.mpr (by omega))]
    exact (by decide : ∀ j : Fin 12, yT0 (4 + j.1) = yTLand j.1) ⟨j, hj⟩
  · by_cases hj : j < 15
    · have g := (by decide : ∀ j : Fin 15, ySLand j.1 = true → yS0 4 j.1 = true ∧ yR0 4 j.1 = some (4 + yOLand j.1)) ⟨j, hj⟩ h
      rw [hR _ _ g.1]; exact g.2
    · exfalso
      unfold ySLand at h
      rw [List.getD, List.getElem?_eq_none (by simp; omega)] at h
      exact absurd h (by decide)
theorem a_Land36 {T : Nat → Nat × Nat} {R : Nat → Nat → Option Nat} (hT : yLT T) (hR : yLR R) : yAtLand T R 36 := by
  refine ⟨fun j h => ?_, fun j h => ?_⟩
  · have hj : j < 12 := Nat.le_of_ble_eq_true h
    rw [hT _ (Nat.ble_eq.mpr (by omega))]
    exact (by decide : ∀ j : Fin 12, yT0 (36 + j.1) = yTLand j.1) ⟨j, hj⟩
  · by_cases hj : j < 15
    · have g := (by decide : ∀ j : Fin 15, ySLand j.1 = true → yS0 36 j.1 = true ∧ yR0 36 j.1 = some (36 + yOLand j.1)) ⟨j, hj⟩ h
      rw [hR _ _ g.1]; exact g.2
    · exfalso
      unfold ySLand at h
      rw [List.getD, List.getElem?_eq_none (by simp; omega)] at h
      exact absurd h (by decide)
theorem a_State16 {T : Nat → Nat × Nat} {R : Nat → Nat → Option Nat} (hT : yLT T) (hR : yLR R) : yAtState T R 16 := by
  refine ⟨fun j h => ?_, fun j h => ?_⟩
  · have hj : j < 13 := Nat.le_of_ble_eq_true h
    rw [hT _ (Nat.ble_eq.mpr (by omega))]
    exact (by decide : ∀ j : Fin 13, yT0 (16 + j.1) = yTState j.1) ⟨j, hj⟩
  · by_cases hj : j < 14
    · have g := (by decide : ∀ j : Fin 14, ySState j.1 = true → yS0 16 j.1 = true ∧ yR0 16 j.1 = some (16 + yOState j.1)) ⟨j, hj⟩ h
      rw [hR _ _ g.1]; exact g.2
    · exfalso
      unfold ySState at h
      rw [List.getD, List.getElem?_eq_none (by simp; omega)] at h
      exact absurd h (by decide)
theorem a_State48 {T : Nat → Nat × Nat} {R : Nat → Nat → Option Nat} (hT : yLT T) (hR : yLR R) : yAtState T R 48 := by
  refine ⟨fun j h => ?_, fun j h => ?_⟩
  · have hj : j < 13 := Nat.le_of_ble_eq_true h
    rw [hT _ (Nat.ble_eq.mpr (by omega))]
    exact (by decide : ∀ j : Fin 13, yT0 (48 + j.1) = yTState j.1) ⟨j, hj⟩
  · by_cases hj : j < 14
    · have g := (by decide : ∀ j : Fin 14, ySState j.1 = true → yS0 48 j.1 = true ∧ yR0 48 j.1 = some (48 + yOState j.1)) ⟨j, hj⟩ h
      rw [hR _ _ g.1]; exact g.2
    · exfalso
      unfold ySState at h
      rw [List.getD, List.getElem?_eq_none (by simp; omega)] at h
      exact absurd h (by decide)
theorem a_State68 {T : Nat → Nat × Nat} {R : Nat → Nat → Option Nat} (hT : yLT T) (hR : yLR R) : yAtState T R 68 := by
  refine ⟨fun j h => ?_, fun j h => ?_⟩
  · have hj : j < 13 := Nat.le_of_ble_eq_true h
    rw [hT _ (Nat.ble_eq.mpr (by omega))]
    exact (by decide : ∀ j : Fin 13, yT0 (68 + j.1) = yTState j.1) ⟨j, hj⟩
  · by_cases hj : j < 14
    · have g := (by decide : ∀ j : Fin 14, ySState j.1 = true → yS0 68 j.1 = true ∧ yR0 68 j.1 = some (68 + yOState j.1)) ⟨j, hj⟩ h
      rw [hR _ _ g.1]; exact g.2
    · exfalso
      unfold ySState at h
      rw [List.getD, List.getElem?_eq_none (by simp; omega)] at h
      exact absurd h (by decide)
theorem a_Plan29 {T : Nat → Nat × Nat} {R : Nat → Nat → Option Nat} (hT : yLT T) (hR : yLR R) : yAtPlan T R 29 := by
  refine ⟨fun j h => ?_, fun j h => ?_⟩
  · have hj : j < 2 := Nat.le_of_ble_eq_true h
    rw [hT _ (Nat.ble_eq.mpr (by omega))]
    exact (by decide : ∀ j : Fin 2, yT0 (29 + j.1) = yTPlan j.1) ⟨j, hj⟩
  · by_cases hj : j < 2
    · have g := (by decide : ∀ j : Fin 2, ySPlan j.1 = true → yS0 29 j.1 = true ∧ yR0 29 j.1 = some (29 + yOPlan j.1)) ⟨j, hj⟩ h
      rw [hR _ _ g.1]; exact g.2
    · exfalso
      unfold ySPlan at h
      rw [List.getD, List.getElem?_eq_none (by simp; omega)] at h
      exact absurd h (by decide)
theorem a_Plan61 {T : Nat → Nat × Nat} {R : Nat → Nat → Option Nat} (hT : yLT T) (hR : yLR R) : yAtPlan T R 61 := by
  refine ⟨fun j h => ?_, fun j h => ?_⟩
  · have hj : j < 2 := Nat.le_of_ble_eq_true h
    rw [hT _ (Nat.ble_eq.mpr (by omega))]
    exact (by decide : ∀ j : Fin 2, yT0 (61 + j.1) = yTPlan j.1) ⟨j, hj⟩
  · by_cases hj : j < 2
    · have g := (by decide : ∀ j : Fin 2, ySPlan j.1 = true → yS0 61 j.1 = true ∧ yR0 61 j.1 = some (61 + yOPlan j.1)) ⟨j, hj⟩ h
      rw [hR _ _ g.1]; exact g.2
    · exfalso
      unfold ySPlan at h
      rw [List.getD, List.getElem?_eq_none (by simp; omega)] at h
      exact absurd h (by decide)
theorem a_Sentence31 {T : Nat → Nat × Nat} {R : Nat → Nat → Option Nat} (hT : yLT T) (hR : yLR R) : yAtSentence T R 31 := by
  refine ⟨fun j h => ?_, fun j h => ?_⟩
  · have hj : j < 4 := Nat.le_of_ble_eq_true h
    rw [hT _ (Nat.ble_eq.mpr (by omega))]
    exact (by decide : ∀ j : Fin 4, yT0 (31 + j.1) = yTSentence j.1) ⟨j, hj⟩
  · by_cases hj : j < 5
    · have g := (by decide : ∀ j : Fin 5, ySSentence j.1 = true → yS0 31 j.1 = true ∧ yR0 31 j.1 = some (31 + yOSentence j.1)) ⟨j, hj⟩ h
      rw [hR _ _ g.1]; exact g.2
    · exfalso
      unfold ySSentence at h
      rw [List.getD, List.getElem?_eq_none (by simp; omega)] at h
      exact absurd h (by decide)
theorem a_Sentence63 {T : Nat → Nat × Nat} {R : Nat → Nat → Option Nat} (hT : yLT T) (hR : yLR R) : yAtSentence T R 63 := by
  refine ⟨fun j h => ?_, fun j h => ?_⟩
  · have hj : j < 4 := Nat.le_of_ble_eq_true h
    rw [hT _ (Nat.ble_eq.mpr (by omega))]
    exact (by decide : ∀ j : Fin 4, yT0 (63 + j.1) = yTSentence j.1) ⟨j, hj⟩
  · by_cases hj : j < 5
    · have g := (by decide : ∀ j : Fin 5, ySSentence j.1 = true → yS0 63 j.1 = true ∧ yR0 63 j.1 = some (63 + yOSentence j.1)) ⟨j, hj⟩ h
      rw [hR _ _ g.1]; exact g.2
    · exfalso
      unfold ySSentence at h
      rw [List.getD, List.getElem?_eq_none (by simp; omega)] at h
      exact absurd h (by decide)
theorem a_World3 {T : Nat → Nat × Nat} {R : Nat → Nat → Option Nat} (hT : yLT T) (hR : yLR R) : yAtWorld T R 3 := by
  refine ⟨fun j h => ?_, fun j h => ?_⟩
  · have hj : j < 32 := Nat.le_of_ble_eq_true h
    rw [hT _ (Nat.ble_eq.mpr (by omega))]
    exact (by decide : ∀ j : Fin 32, yT0 (3 + j.1) = yTWorld j.1) ⟨j, hj⟩
  · by_cases hj : j < 4
    · have g := (by decide : ∀ j : Fin 4, ySWorld j.1 = true → yS0 3 j.1 = true ∧ yR0 3 j.1 = some (3 + yOWorld j.1)) ⟨j, hj⟩ h
      rw [hR _ _ g.1]; exact g.2
    · exfalso
      unfold ySWorld at h
      rw [List.getD, List.getElem?_eq_none (by simp; omega)] at h
      exact absurd h (by decide)
theorem a_World35 {T : Nat → Nat × Nat} {R : Nat → Nat → Option Nat} (hT : yLT T) (hR : yLR R) : yAtWorld T R 35 := by
  refine ⟨fun j h => ?_, fun j h => ?_⟩
  · have hj : j < 32 := Nat.le_of_ble_eq_true h
    rw [hT _ (Nat.ble_eq.mpr (by omega))]
    exact (by decide : ∀ j : Fin 32, yT0 (35 + j.1) = yTWorld j.1) ⟨j, hj⟩
  · by_cases hj : j < 4
    · have g := (by decide : ∀ j : Fin 4, ySWorld j.1 = true → yS0 35 j.1 = true ∧ yR0 35 j.1 = some (35 + yOWorld j.1)) ⟨j, hj⟩ h
      rw [hR _ _ g.1]; exact g.2
    · exfalso
      unfold ySWorld at h
      rw [List.getD, List.getElem?_eq_none (by simp; omega)] at h
      exact absurd h (by decide)
