/-! CONTRACTS of the class: cell, chair -/
section Sw
variable {l : Launch} {D : va_G} {cy : Nat → ClassId} {z d bc bs N : Nat} {T : Nat → Nat × Nat} {R : Nat → Nat → Option Nat} {I : Nat → Nat → Int} {K : yKo}
/-- ChairAlley.cell(II)I: a throw is said of the answer 'null' -/
theorem w_116 (hT : yLT T) (hR : yLR R) (htr : l.stackTraces = false) (hb1 : 1 ≤ bc) (hb6 : 6 ≤ bs) {x1 x2 : Int} (hk : ∀ r, K (some (yi r)) (N, T, R, I)) (hkt : K (some (yr none)) (N, T, R, I)) : yW l zSS D cy zFk z (d + 7) 116 bc bs K 0 0 0 [(0, yr (some 0)), (1, yi x1), (2, yi x2)] [] (N, T, R, I) := by
  refine B_116_0 (d := d + 6) hT hR htr (by omega) hb1 hb6 (w_10 hT hR (a_Land4 hT hR) (fun r hr => ⟨_, _, rfl, rfl, fun c => ?_, fun _ => hkt⟩))
  have mk : ∀ {x : Int}, yW l zSS D cy zFk z (d + 6) 12 0 0 (fun r h' => ∃ r6 I5, r = some (yi r6) ∧ h' = (N, T, R, I5) ∧ ((r6 = 0 → K (some (yi 0)) (N, T, R, I5)) ∧ (¬ (r6 = 0) → K (some (yi 1)) (N, T, R, I5)))) 0 0 0 [(0, yr (some 4)), (1, yi x1), (2, yi x)] [] (N, T, R, I) := w_12 hT hR (a_Land4 hT hR) (fun r6 _ => ⟨_, _, rfl, rfl, fun _ => hk _, fun _ => hk _⟩)
  exact ⟨fun _ => mk, fun _ => ⟨fun _ => mk, fun _ => ⟨fun _ => mk, fun _ => ⟨fun _ => ⟨by omega, by omega, hk _⟩, fun _ => ⟨fun _ => w_59 hT hR (a_State16 hT hR) (fun r21 _ => ⟨_, _, rfl, rfl, hk _⟩), fun _ => hkt⟩⟩⟩⟩⟩
/-- ChairAlley.chair(II)I -/
theorem w_117 (hT : yLT T) (hR : yLR R) (htr : l.stackTraces = false) (hb1 : 1 ≤ bc) (hb6 : 6 ≤ bs) {x1 x2 : Int} (hk : ∀ r, K (some (yi r)) (N, T, R, I)) (hkt : K (some (yr none)) (N, T, R, I)) : yW l zSS D cy zFk z (d + 7) 117 bc bs K 0 0 0 [(0, yr (some 0)), (1, yi x1), (2, yi x2)] [] (N, T, R, I) := by
  refine B_117_0 (d := d + 6) hT hR htr (by omega) hb1 hb6 (w_11 hT hR (a_Land4 hT hR) (fun r hr => ⟨_, _, rfl, rfl, fun c => ?_, fun _ => hkt⟩))
  have h0 : 0 ≤ x1 := by omega
  have h1 : x1 < 8 := by omega
  exact ⟨fun _ => ⟨h0, h1, hk _⟩, fun _ => ⟨fun _ => ⟨h0, h1, hk _⟩, fun _ => ⟨fun _ => ⟨h0, h1, hk _⟩, fun _ => ⟨fun _ => ⟨h0, h1, hk _⟩, fun _ => ⟨fun _ => ⟨h0, h1, hk _⟩, fun _ => ⟨fun _ => ⟨h0, h1, fun _ => hk _, fun _ => hk _⟩, fun _ => ⟨fun _ => ⟨h0, h1, hk _⟩, fun _ => ⟨fun _ => ⟨h0, h1, hk _⟩, fun _ => ⟨fun _ => ⟨h0, h1, hk _⟩, fun _ => ⟨fun _ => ⟨h0, h1, hk _⟩, fun _ => hkt⟩⟩⟩⟩⟩⟩⟩⟩⟩⟩
end Sw
