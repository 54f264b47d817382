/-! THE REFERENCE's CONTRACTS: what may be said of a CHAIR. -/
/-- each truth in hand is one -/
def mTt (X : Nat → Nat → Int) : Prop := ∀ j, j < 45 → X 122 j = 0 ∨ X 122 j = 1
theorem mTt_set {X : Nat → Nat → Int} (h : mTt X) (j : Nat) {v : Int} (hv : v = 0 ∨ v = 1) : mTt (yU X 122 j v) := fun i hi => by
  by_cases e : i = j
  · subst e; rw [yU_eq]; exact hv
  · rw [yU_ne _ _ (by omega)]; exact h i hi
theorem mD_pre {g : Nat → Int} {n d : Nat} : ∀ {m : Nat}, mD g (n + m) = some d → ∃ e, mD g n = some e := by
  intro m
  induction m generalizing d with
  | zero => intro h; exact ⟨d, h⟩
  | succ m ih =>
    intro h
    have h' : (mD g (n + m)).bind _ = some d := h
    cases e : mD g (n + m) with
    | none => rw [e] at h'; cases h'
    | some q => exact ih e
theorem mD_le {g : Nat → Int} : ∀ {n d : Nat}, mD g n = some d → d ≤ n := by
  intro n
  induction n with
  | zero => intro d h; cases h; exact Nat.le_refl _
  | succ n ih =>
    intro d h
    have h' : (mD g n).bind _ = some d := h
    cases e : mD g n with
    | none => rw [e] at h'; cases h'
    | some q =>
      have := ih e
      rw [e] at h'
      have h' : (if g (3 * n) = 20 then (if 1 ≤ q then some q else none) else if g (3 * n) = 21 ∨ g (3 * n) = 22 then (if 2 ≤ q then some (q - 1) else none) else some (q + 1)) = some d := h'
      by_cases c1 : g (3 * n) = 20
      · rw [if_pos c1] at h'
        by_cases c : 1 ≤ q
        · rw [if_pos c] at h'; cases h'; omega
        · rw [if_neg c] at h'; cases h'
      · rw [if_neg c1] at h'
        by_cases c2 : g (3 * n) = 21 ∨ g (3 * n) = 22
        · rw [if_pos c2] at h'
          by_cases c : 2 ≤ q
          · rw [if_pos c] at h'; cases h'; omega
          · rw [if_neg c] at h'; cases h'
        · rw [if_neg c2] at h'; cases h'; omega
/-- a code's own step -/
theorem mD_at {g : Nat → Int} {n d q : Nat} (h : mD g (n + 1) = some d) (e : mD g n = some q) : (g (3 * n) = 20 ∧ 1 ≤ q ∧ d = q) ∨ ((g (3 * n) = 21 ∨ g (3 * n) = 22) ∧ 2 ≤ q ∧ d = q - 1) ∨ (g (3 * n) ≠ 20 ∧ g (3 * n) ≠ 21 ∧ g (3 * n) ≠ 22 ∧ d = q + 1) := by
  have h' : (mD g n).bind _ = some d := h
  rw [e] at h'
  have h' : (if g (3 * n) = 20 then (if 1 ≤ q then some q else none) else if g (3 * n) = 21 ∨ g (3 * n) = 22 then (if 2 ≤ q then some (q - 1) else none) else some (q + 1)) = some d := h'
  by_cases c1 : g (3 * n) = 20
  · rw [if_pos c1] at h'
    by_cases c : 1 ≤ q
    · rw [if_pos c] at h'; cases h'; exact .inl ⟨c1, c, rfl⟩
    · rw [if_neg c] at h'; cases h'
  · rw [if_neg c1] at h'
    by_cases c2 : g (3 * n) = 21 ∨ g (3 * n) = 22
    · rw [if_pos c2] at h'
      by_cases c : 2 ≤ q
      · rw [if_pos c] at h'; cases h'; exact .inr (.inl ⟨c2, c, rfl⟩)
      · rw [if_neg c] at h'; cases h'
    · rw [if_neg c2] at h'; cases h'; exact .inr (.inr ⟨c1, fun z => c2 (.inl z), fun z => c2 (.inr z), rfl⟩)
theorem ynar3_0 : ynar 3 0 = 0 := by decide
theorem ynar3_1 : ynar 3 1 = 1 := by decide
section Sm
variable {l : Launch} {D : va_G} {cy : Nat → ClassId} {z d bc bs N : Nat} {T : Nat → Nat × Nat} {R : Nat → Nat → Option Nat} {I : Nat → Nat → Int} {K : yKo}
theorem r_isLeaf (hT : yLT T) (hR : yLR R) {k : Nat} {x2 x3 x4 : Int} (hk8 : k < 8) (hL : 0 ≤ I 104 6 ∧ I 104 6 ≤ 3) (hx : x2 = 2 → 0 ≤ x4 ∧ x4 < 8) (hk : ∀ r, (r = 0 ∨ r = 1) → K (some (yi r)) (N, T, R, I)) : yW l zSS D cy zFk z (d + 1) 192 bc bs K 0 0 0 [(0, yr (some 102)), (1, yi (k : Int)), (2, yi x2), (3, yi x3), (4, yi x4)] [] (N, T, R, I) := by
  have k0 := hk 0 (.inl rfl)
  have k1 := hk 1 (.inr rfl)
  have l224 : ∀ t, (t = 0 ∨ t = 1) → yW l zSS D cy zFk z (d + 1) 192 bc bs K 0 0 224 [] [yi t] (N, T, R, I) := fun t ht => B_192_224 hT hR ⟨ht, hk t ht⟩
  have l168 : ∀ t, yW l zSS D cy zFk z (d + 1) 192 bc bs K 0 0 168 [(3, yi x3), (4, yi x4)] [yi t] (N, T, R, I) := fun t =>
    B_192_168 hT hR ⟨fun _ => ⟨fun _ => ⟨fun _ => l224 0 (.inl rfl), fun _ => l224 1 (.inr rfl)⟩, fun _ => ⟨fun _ => l224 0 (.inl rfl), fun _ => l224 1 (.inr rfl)⟩⟩, fun _ => ⟨fun _ => l224 0 (.inl rfl), fun _ => l224 1 (.inr rfl)⟩⟩
  have l73 : yW l zSS D cy zFk z (d + 1) 192 bc bs K 0 0 73 [] [] (N, T, R, I) := B_192_73 hT hR (B_192_74 hT hR ⟨.inl rfl, k0⟩)
  refine B_192_0 hT hR ?_
  rw [yadd_eq (x := 502) (by omega) (by omega), yadd_eq (x := 494) (by omega) (by omega), yadd_eq (x := 478) (by omega) (by omega), yadd_eq (x := 318) (by omega) (by omega), yadd_eq (x := 310) (by omega) (by omega), yadd_eq (x := 342) (by omega) (by omega), yadd_eq (x := 510) (by omega) (by omega)]
  refine ⟨fun _ => ⟨fun _ => ⟨fun _ => ⟨fun _ => ⟨fun _ => ⟨fun _ => ⟨fun _ => ⟨fun _ => l168 _, fun _ => ⟨by omega, by omega, l168 _⟩⟩, fun _ => ⟨by omega, by omega, l168 _⟩⟩, fun _ => ⟨by omega, by omega, l168 _⟩⟩, fun _ => ⟨by omega, by omega, l168 _⟩⟩, fun _ => ⟨by omega, by omega, l168 _⟩⟩, fun c2 => ⟨fun _ => l73, fun _ => ?_⟩⟩, fun _ => ⟨by omega, by omega, fun _ => B_192_47 hT hR ⟨.inl rfl, k0⟩, fun _ => B_192_47 hT hR ⟨.inr rfl, k1⟩⟩⟩, fun _ => ⟨by omega, by omega, fun _ => B_192_22 hT hR ⟨.inl rfl, k0⟩, fun _ => B_192_22 hT hR ⟨.inr rfl, k1⟩⟩⟩
  have h4 := hx (by omega)
  obtain ⟨q, rfl⟩ : ∃ q : Nat, x4 = (q : Int) := ⟨x4.toNat, by omega⟩
  exact r_isAhead hT hR hk8 (by omega) hL (fun r _ => ⟨_, _, rfl, rfl, fun _ => l73, fun _ => B_192_74 hT hR ⟨.inr rfl, k1⟩⟩)
theorem r_isSaid (hT : yLT T) (hR : yLR R) {k : Nat} (hk8 : k < 8) (hL : 0 ≤ I 104 6 ∧ I 104 6 ≤ 3) (hS : mCo I) (hT3 : mTt I) (hk : ∀ r I', (r = 0 ∨ r = 1) → mTt I' → (∀ k j, k ≠ 122 → I' k j = I k j) → K (some (yi r)) (N, T, R, I')) : yW l zSS D cy zFk z (d + 2) 195 bc bs K 0 0 0 [(0, yr (some 102)), (1, yi (k : Int))] [] (N, T, R, I) := by
  obtain ⟨c, nn, hc, h40, hO, hD⟩ := hS
  have loop : ∀ (m : Nat) (X : Nat → Nat → Int) (i n : Nat), i + m = c → mD (fun j => I 104 (1008 + j)) i = some n → mTt X → (∀ k j, k ≠ 122 → X k j = I k j) → yW l zSS D cy zFk z (d + 2) 195 bc bs K 0 0 4 [(0, yr (some 102)), (1, yi (k : Int)), (2, yi (n : Int)), (3, yi (i : Int))] [] (N, T, R, X) := by
    intro m
    induction m with
    | zero =>
      intro X i n h1 hd hX fX
      have c1 : X 104 1007 = (c : Int) := by rw [fX 104 1007 (by decide)]; exact hc
      exact B_195_4 hT hR ⟨fun _ => ⟨hX 0 (by omega), hk _ X (hX 0 (by omega)) hX fX⟩, fun q => absurd q (by omega)⟩
    | succ m ih =>
      intro X i n h1 hd hX fX
      have c1 : X 104 1007 = (c : Int) := by rw [fX 104 1007 (by decide)]; exact hc
      have hn := mD_le hd
      obtain ⟨q, hq⟩ : ∃ q, mD (fun j => I 104 (1008 + j)) (i + 1) = some q := mD_pre (m := m) (by rw [show i + 1 + m = c by omega]; exact hD)
      have at_ := mD_at hq hd
      have r104 : ∀ j, X 104 j = I 104 j := fun j => fX 104 j (by decide)
      have fX' : ∀ (j : Nat) (v : Int), ∀ k' j', k' ≠ 122 → yU X 122 j v k' j' = I k' j' := fun j v k' j' h => by rw [yU_ne _ _ (by omega)]; exact fX k' j' h
      -- on behind a code
      have l206 : ∀ (Y : Nat → Nat → Int), mTt Y → (∀ k j, k ≠ 122 → Y k j = I k j) → yW l zSS D cy zFk z (d + 2) 195 bc bs K 0 0 206 [(0, yr (some 102)), (1, yi (k : Int)), (2, yi (q : Int)), (3, yi (i : Int))] [] (N, T, R, Y) := by
        intro Y hY fY
        refine B_195_206 hT hR ?_
        rw [yadd_eq (x := (i : Int)) (by omega) (by omega)]
        exact ih Y (i + 1) q (by omega) hq hY fY
      have at3 : (X 104 (1008 + 3 * i) = 20 ∧ 1 ≤ n ∧ q = n) ∨ ((X 104 (1008 + 3 * i) = 21 ∨ X 104 (1008 + 3 * i) = 22) ∧ 2 ≤ n ∧ q = n - 1) ∨ (X 104 (1008 + 3 * i) ≠ 20 ∧ X 104 (1008 + 3 * i) ≠ 21 ∧ X 104 (1008 + 3 * i) ≠ 22 ∧ q = n + 1) := by
        rw [r104]; exact at_
      have l88 : (X 104 (1008 + 3 * i) = 21 ∨ X 104 (1008 + 3 * i) = 22) → yW l zSS D cy zFk z (d + 2) 195 bc bs K 0 0 88 [(0, yr (some 102)), (1, yi (k : Int)), (2, yi (n : Int)), (3, yi (i : Int)), (4, yi (1008 + 3 * (i : Int)))] [] (N, T, R, X) := by
        intro hj
        have hq1 : 2 ≤ n ∧ q = n - 1 := by omega
        refine B_195_88 hT hR ?_
        rw [yadd_eq (x := (n : Int)) (y := -1) (by omega) (by omega), ysub_eq (by omega) (by omega), ynar3_0, ynar3_1]
        rw [show (n : Int) + -1 = (q : Int) by omega]
        have go : ∀ v : Int, (v = 0 ∨ v = 1) → 0 ≤ (q : Int) - 1 ∧ (q : Int) - 1 < 45 ∧ ∀ I9, I9 = yU X 122 ((q : Int) - 1).toNat v → yW l zSS D cy zFk z (d + 2) 195 bc bs K 0 0 206 [(0, yr (some 102)), (1, yi (k : Int)), (2, yi (q : Int)), (3, yi (i : Int))] [] (N, T, R, I9) := fun v hv => ⟨by omega, by omega, fun I9 e9 => by rw [e9]; exact l206 _ (mTt_set hX _ hv) (fX' _ _)⟩
        have g0 := go 0 (.inl rfl)
        have g1 := go 1 (.inr rfl)
        exact ⟨by omega, by omega, fun _ => ⟨by omega, by omega, fun _ => g1, fun _ => ⟨by omega, by omega, fun _ => g0, fun _ => g1⟩⟩, fun _ => ⟨by omega, by omega, fun _ => g0, fun _ => ⟨by omega, by omega, fun _ => g0, fun _ => g1⟩⟩⟩
      refine B_195_4 hT hR ⟨fun w => absurd w (by omega), fun _ => ?_⟩
      rw [ymul_eq (x := 3) (by omega) (by omega), yadd_eq (x := 1008) (by omega) (by omega), yadd_eq (x := 1008 + 3 * (i : Int)) (y := 1) (by omega) (by omega), yadd_eq (x := 1008 + 3 * (i : Int)) (y := 2) (by omega) (by omega), ynar3_0, ynar3_1]
      rw [show (1008 + 3 * (i : Int)).toNat = 1008 + 3 * i by omega, show (1008 + 3 * (i : Int) + 1).toNat = 1008 + (3 * i + 1) by omega, show (1008 + 3 * (i : Int) + 2).toNat = 1008 + (3 * i + 2) by omega]
      refine ⟨by omega, by omega, fun c20 => ⟨by omega, by omega, fun c21 => l88 (.inl c21), fun c21 => ⟨by omega, by omega, fun c22 => ⟨by omega, by omega, by omega, by omega, by omega, by omega, ?_⟩, fun c22 => l88 (.inr (by omega))⟩⟩, fun c20 => ?_⟩
      · have hq1 : q = n + 1 := by omega
        refine r_isLeaf (d := d) hT hR hk8 (by rw [r104]; exact hL) (fun h2 => ?_) (fun r hr => ⟨_, _, rfl, rfl, by omega, by omega, ?_⟩)
        · rw [r104] at h2 ⊢; exact hO i (by omega) h2
        · intro I21 e21
          rw [yadd_eq (x := (n : Int)) (by omega) (by omega), show (n : Int) + 1 = (q : Int) by omega]
          have hv : ynar 3 r = 0 ∨ ynar 3 r = 1 := by
            rcases hr with e | e
            · rw [e]; exact .inl ynar3_0
            · rw [e]; exact .inr ynar3_1
          rw [e21]; exact l206 _ (mTt_set hX _ hv) (fX' _ _)
      · have hq1 : 1 ≤ n ∧ q = n := by omega
        rw [ysub_eq (by omega) (by omega)]
        have go : ∀ v : Int, (v = 0 ∨ v = 1) → 0 ≤ (n : Int) - 1 ∧ (n : Int) - 1 < 45 ∧ ∀ I9, I9 = yU X 122 ((n : Int) - 1).toNat v → yW l zSS D cy zFk z (d + 2) 195 bc bs K 0 0 206 [(0, yr (some 102)), (1, yi (k : Int)), (2, yi (n : Int)), (3, yi (i : Int))] [] (N, T, R, I9) := fun v hv => ⟨by omega, by omega, fun I9 e9 => by rw [e9, show (n : Int) = (q : Int) by omega]; exact l206 _ (mTt_set hX _ hv) (fX' _ _)⟩
        exact ⟨by omega, by omega, fun _ => go 0 (.inl rfl), fun _ => go 1 (.inr rfl)⟩
  exact B_195_0 hT hR (loop c I 0 0 (by omega) rfl hT3 (fun _ _ _ => rfl))
theorem r_said (hT : yLT T) (hR : yLR R) {x1 : Int} (hC : 0 ≤ I 104 2 ∧ I 104 2 ≤ 8) (hL : 0 ≤ I 104 6 ∧ I 104 6 ≤ 3) (hS : mCo I) (hT3 : mTt I) (hk : ∀ r I', mTt I' → (∀ k j, k ≠ 122 → (k ≠ 102 ∨ j ≠ 0) → I' k j = I k j) → K (some (yi r)) (N, T, R, I')) : yW l zSS D cy zFk z (d + 3) 233 bc bs K 0 0 0 [(0, yr (some 102)), (1, yi x1)] [] (N, T, R, I) := by
  refine B_233_0 hT hR ?_
  intro I1 e1
  have n1 : ∀ k j, (k ≠ 102 ∨ j ≠ 0) → I1 k j = I k j := fun k j h => by rw [e1, yU_ne _ _ (by omega)]
  have t1 : mTt I1 := fun j hj => by rw [n1 122 j (by omega)]; exact hT3 j hj
  have s1 : mCo I1 := by
    obtain ⟨c, n, a, b, o, dd⟩ := hS
    exact ⟨c, n, by rw [n1 104 1007 (by omega)]; exact a, b, mOp_cg (fun j _ => n1 104 _ (by omega)) o, by rw [mD_cg (g := fun j => I 104 (1008 + j)) c (fun j _ => n1 104 _ (by omega))]; exact dd⟩
  have loop : ∀ (m : Nat) (X : Nat → Nat → Int) (i n : Nat), i + m = 9 → n ≤ i → (i : Int) ≤ I 104 2 → mTt X → (∀ k j, k ≠ 122 → X k j = I1 k j) → yW l zSS D cy zFk z (d + 3) 233 bc bs K 0 0 27 [(0, yr (some 102)), (1, yi x1), (2, yi (n : Int)), (3, yi (i : Int))] [] (N, T, R, X) := by
    intro m
    induction m with
    | zero => intro X i n h1 h2 h3; omega
    | succ m ih =>
      intro X i n h1 h2 h3 hX fX
      have c2 : X 104 2 = I 104 2 := by rw [fX 104 2 (by decide), n1 104 2 (by omega)]
      have out : ∀ r, K (some (yi r)) (N, T, R, X) := fun r => hk r X hX (fun k j a b => by rw [fX k j a, n1 k j b])
      refine B_233_27 hT hR ⟨fun _ => ⟨fun _ => out _, fun _ => out _⟩, fun cl => ?_⟩
      have sX : mCo X := by
        obtain ⟨c, n, a, b, o, dd⟩ := s1
        exact ⟨c, n, by rw [fX 104 1007 (by decide)]; exact a, b, mOp_cg (fun j _ => fX 104 _ (by decide)) o, by rw [mD_cg (g := fun j => I1 104 (1008 + j)) c (fun j _ => fX 104 _ (by decide))]; exact dd⟩
      rw [yadd_eq (x := (n : Int)) (by omega) (by omega), yadd_eq (x := (i : Int)) (by omega) (by omega)]
      refine r_isSaid (d := d) hT hR (by omega) (by rw [fX 104 6 (by decide), n1 104 6 (by omega)]; exact hL) sX hX (fun r I3 hr t3 f3 => ⟨_, _, rfl, rfl, ?_⟩)
      have g3 : ∀ k j, k ≠ 122 → I3 k j = I1 k j := fun k j h => by rw [f3 k j h]; exact fX k j h
      exact ⟨fun _ => ⟨fun _ => ih I3 (i + 1) (n + 1) (by omega) (by omega) (by omega) t3 g3, fun _ => hk _ I3 t3 (fun k j a b => by rw [g3 k j a, n1 k j b])⟩, fun _ => ih I3 (i + 1) n (by omega) (by omega) (by omega) t3 g3⟩
  exact ⟨fun _ => hk _ I1 t1 (fun k j _ b => n1 k j b), fun _ => ⟨fun _ => loop 9 I1 0 0 rfl (Nat.le_refl _) (by omega) t1 (fun _ _ _ => rfl), fun _ => hk _ I1 t1 (fun k j _ b => n1 k j b)⟩⟩
end Sm
