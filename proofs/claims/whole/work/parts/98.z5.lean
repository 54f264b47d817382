/-! THE CLASS's CONTRACTS: holds (what 92.k1 holds as w_48 with sorry: it wants the row of Booleans, too). -/
section Sm
variable {l : Launch} {D : va_G} {cy : Nat → ClassId} {z d bc bs N : Nat} {T : Nat → Nat × Nat} {R : Nat → Nat → Option Nat} {I : Nat → Nat → Int} {K : yKo}
theorem w_48q (hT : yLT T) (hR : yLR R) (h11 : yAtLand T R 4) (h16 : yAtState T R 16) {p : Nat} (hp : yAtSentence T R p) (hB : ∀ j, j < 8 → I 14 j = 0 ∨ I 14 j = 1) {x1 x4 : Int} (hk : ∀ r, (r = 0 ∨ r = 1) → K (some (yi r)) (N, T, R, I)) : yW l zSS D cy zFk z (d + 2) 48 bc bs K 0 0 0 [(0, yr (some p)), (1, yi x1), (2, yr (some 4)), (3, yr (some 16)), (4, yi x4)] [] (N, T, R, I) := by
  have k0 := hk 0 (.inl rfl)
  have k1 := hk 1 (.inr rfl)
  refine B_48_0 (d := d + 1) hT hR hp ⟨fun _ => k0, fun c1 => ⟨fun _ => k0, fun c2 => ?_⟩⟩
  refine w_11 hT hR h11 (fun r hr => ⟨_, _, rfl, rfl, fun hne => ?_, fun _ => k0⟩)
  have hx : 0 ≤ x4 ∧ x4 < 8 := by omega
  refine ⟨by omega, by omega, fun _ => ⟨hx.1, hx.2, hB _ (by omega), hk _ (hB _ (by omega))⟩, fun _ => ⟨hx.1, hx.2, fun _ => k0, fun _ => k1⟩, fun _ => ?_, fun _ _ _ => ⟨by omega, by omega, ?_⟩⟩
  · exact w_66 hT hR h16 (fun r20 _ => ⟨_, _, rfl, rfl, by omega, by omega, w_66 hT hR h16 (fun r24 _ => ⟨_, _, rfl, rfl, fun _ => k0, fun _ => k1⟩)⟩)
  · exact w_65 hT hR h16 (fun r29 _ => ⟨_, _, rfl, rfl, by omega, by omega, fun _ => ⟨by omega, by omega, fun _ => k0, fun _ => k1⟩, fun _ => ⟨by omega, by omega, fun _ => k0, fun _ => k1⟩, fun _ _ => ⟨by omega, by omega, fun _ => k0, fun _ => k1⟩⟩)
end Sm
