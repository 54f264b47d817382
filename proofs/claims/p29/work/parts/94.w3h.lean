/-! CONTRACTS of the class: holds, isTrueOf -/
section Sw
variable {l : Launch} {D : va_G} {cy : Nat → ClassId} {z d bc bs N : Nat} {T : Nat → Nat × Nat} {R : Nat → Nat → Option Nat} {I : Nat → Nat → Int} {K : yKo}
theorem w_48 (hT : yLT T) (hR : yLR R) (h11 : yAtLand T R 4) (h16 : yAtState T R 16) {p : Nat} (hp : yAtSentence T R p) (hB : ∀ j, j < 8 → I 14 j = 0 ∨ I 14 j = 1) {x1 x4 : Int} (hk : ∀ r, (r = 0 ∨ r = 1) → K (some (yi r)) (N, T, R, I)) : yW l zSS D cy zFk z (d + 2) 48 bc bs K 0 0 0 [(0, yr (some p)), (1, yi x1), (2, yr (some 4)), (3, yr (some 16)), (4, yi x4)] [] (N, T, R, I) := by
  have k0 := hk 0 (.inl rfl)
  have k1 := hk 1 (.inr rfl)
  refine B_48_0 (d := d + 1) hT hR hp ⟨fun _ => k0, fun c1 => ⟨fun _ => k0, fun c2 => ?_⟩⟩
  refine w_11 hT hR h11 (fun r hr => ⟨_, _, rfl, rfl, fun hne => ?_, fun _ => k0⟩)
  have hx : 0 ≤ x4 ∧ x4 < 8 := by omega
  refine ⟨by omega, by omega, fun _ => ⟨hx.1, hx.2, hB _ (by omega), hk _ (hB _ (by omega))⟩, fun _ => ⟨hx.1, hx.2, fun _ => k0, fun _ => k1⟩, fun _ => ?_, fun _ _ _ => ⟨by omega, by omega, ?_⟩⟩
  · exact w_66 hT hR h16 (fun r20 _ => ⟨_, _, rfl, rfl, by omega, by omega, w_66 hT hR h16 (fun r24 _ => ⟨_, _, rfl, rfl, fun _ => k0, fun _ => k1⟩)⟩)
  · exact w_65 hT hR h16 (fun r29 _ => ⟨_, _, rfl, rfl, by omega, by omega, fun _ => ⟨by omega, by omega, fun _ => k0, fun _ => k1⟩, fun _ => ⟨by omega, by omega, fun _ => k0, fun _ => k1⟩, fun _ _ => ⟨by omega, by omega, fun _ => k0, fun _ => k1⟩⟩)
/-- ChairAlley$Sentence.isTrueOf(LChairAlley$Land;LChairAlley$State;I)Z -/
theorem w_49 (hT : yLT T) (hR : yLR R) {p : Nat} (hp : yAtSentence T R p) (hB : ∀ j, j < 8 → I 14 j = 0 ∨ I 14 j = 1) {x3 : Int} (hk : ∀ r, (r = 0 ∨ r = 1) → K (some (yi r)) (N, T, R, I)) : yW l zSS D cy zFk z (d + 3) 49 bc bs K 0 0 0 [(0, yr (some p)), (1, yr (some 4)), (2, yr (some 16)), (3, yi x3)] [] (N, T, R, I) := by
  have L : ∀ m : Nat, (∀ x3 x4 x6 : Int, (40 - x6 : Int).toNat < m → (0 ≤ x6 ∧ x6 ≤ 40) → yW l zSS D cy zFk z (d + 3) 49 bc bs K 0 0 6 [(0, yr (some p)), (1, yr (some 4)), (2, yr (some 16)), (3, yi x3), (4, yj x4), (6, yi x6)] [] (N, T, R, I)) := by
    intro m
    induction m with
    | zero => exact fun _ _ _ h => absurd h (Nat.not_lt_zero _)
    | succ m ih =>
      intro x3 x4 x6  hm iv
      refine e_li (i := 3) (x := x3) rfl fun _ _ => ?_
      refine e_li (i := 6) (x := x6) rfl fun _ _ => ?_
      refine B_49_6 hT hR hp ?_
      refine ⟨fun c1 => ?_, fun c1 => ?_⟩
      · refine ⟨fun c2 => ?_, fun c2 => ?_⟩
        · exact hk _ (by omega)
        · exact hk _ (by omega)
      · refine ⟨fun c3 => ?_, fun c3 => ?_⟩
        · refine ⟨fun c4 => ?_, fun c4 => ?_⟩
          · exact hk _ (by omega)
          · exact hk _ (by omega)
        · refine ⟨by omega, by omega, ?_⟩
          refine ⟨fun c5 => ?_, fun c5 => ?_⟩
          · have a6 : yadd x6 1 = (x6 + 1) := yadd_eq (by omega) (by omega)
            try rw [a6]
            exact ih _ _ _ (by omega) (by omega)
          refine ⟨fun c7 => ?_, fun c7 => ?_⟩
          · have a8 : yadd x6 1 = (x6 + 1) := yadd_eq (by omega) (by omega)
            try rw [a8]
            exact ih _ _ _ (by omega) (by omega)
          refine ⟨fun c9 => ?_, fun c9 => ?_⟩
          · have a10 : yadd x6 1 = (x6 + 1) := yadd_eq (by omega) (by omega)
            try rw [a10]
            exact ih _ _ _ (by omega) (by omega)
          refine w_48 (d := d) hT hR (a_Land4 hT hR) (a_State16 hT hR) hp hB  (fun r11 q12 => ⟨_, _, rfl, rfl, ?_⟩)
          refine ⟨fun c14 => ?_, fun c14 => ?_⟩
          · have a15 : yadd x6 1 = (x6 + 1) := yadd_eq (by omega) (by omega)
            try rw [a15]
            exact ih _ _ _ (by omega) (by omega)
          · have a16 : yadd x6 1 = (x6 + 1) := yadd_eq (by omega) (by omega)
            try rw [a16]
            exact ih _ _ _ (by omega) (by omega)
  refine e_li (i := 3) (x := x3) rfl fun _ _ => ?_
  refine B_49_0 hT hR hp ?_
  exact (L _) _ _ _ (Nat.lt_succ_self _) (by omega)
end Sw
