/-! THE REFERENCE's CONTRACTS: SENTENCE, its codes and the stack of what waits. -/
/-- how many joints are among the first n that wait -/
def mJ (g : Nat → Int) : Nat → Nat
  | 0 => 0
  | n + 1 => mJ g n + (if g n = 21 ∨ g n = 22 then 1 else 0)
/-- how many answers wait behind n codes; none: some code has none to work on -/
def mD (g : Nat → Int) : Nat → Option Nat
  | 0 => some 0
  | n + 1 => (mD g n).bind fun d => if g (3 * n) = 20 then (if 1 ≤ d then some d else none) else if g (3 * n) = 21 ∨ g (3 * n) = 22 then (if 2 ≤ d then some (d - 1) else none) else some (d + 1)
def mOp (g : Nat → Int) (n : Nat) : Prop := ∀ i, i < n → g (3 * i) = 2 → 0 ≤ g (3 * i + 2) ∧ g (3 * i + 2) < 8
theorem mJ_cg {g g' : Nat → Int} : ∀ n, (∀ j, j < n → g' j = g j) → mJ g' n = mJ g n := by
  intro n
  induction n with
  | zero => intro _; rfl
  | succ n ih =>
    intro h
    show mJ g' n + _ = mJ g n + _
    rw [ih (fun j hj => h j (by omega)), h n (by omega)]
theorem mD_cg {g g' : Nat → Int} : ∀ n, (∀ j, j < 3 * n → g' j = g j) → mD g' n = mD g n := by
  intro n
  induction n with
  | zero => intro _; rfl
  | succ n ih =>
    intro h
    show (mD g' n).bind _ = (mD g n).bind _
    rw [ih (fun j hj => h j (by omega)), h (3 * n) (by omega)]
theorem mOp_cg {g g' : Nat → Int} {n : Nat} (h : ∀ j, j < 3 * n → g' j = g j) (ho : mOp g n) : mOp g' n := fun i hi e => by
  rw [h _ (by omega)] at e
  rw [h _ (by omega)]
  exact ho i hi e
theorem mD_not {g : Nat → Int} {n d : Nat} (h : mD g n = some d) (hc : g (3 * n) = 20) (hd : 1 ≤ d) : mD g (n + 1) = some d := by
  show (mD g n).bind _ = _
  rw [h]; show (if g (3 * n) = 20 then _ else _) = _
  rw [if_pos hc, if_pos hd]
theorem mD_join {g : Nat → Int} {n d : Nat} (h : mD g n = some d) (hc : g (3 * n) = 21 ∨ g (3 * n) = 22) (hd : 2 ≤ d) : mD g (n + 1) = some (d - 1) := by
  show (mD g n).bind _ = _
  rw [h]; show (if g (3 * n) = 20 then _ else _) = _
  rw [if_neg (by omega), if_pos hc, if_pos hd]
theorem mD_leaf {g : Nat → Int} {n d : Nat} (h : mD g n = some d) (h0 : g (3 * n) ≠ 20) (h1 : g (3 * n) ≠ 21) (h2 : g (3 * n) ≠ 22) : mD g (n + 1) = some (d + 1) := by
  show (mD g n).bind _ = _
  rw [h]; show (if g (3 * n) = 20 then _ else _) = _
  rw [if_neg h0, if_neg (by omega)]
/-- what is so between two operands, with so many answers more than joints that wait -/
def mSe (X : Nat → Nat → Int) (w : Nat) : Prop := ∃ c t : Nat, X 102 48 = (c : Int) ∧ X 102 50 = (t : Int) ∧ (c : Int) + (t : Int) + (w : Int) ≤ 2 * X 102 49 ∧ X 102 49 ≤ 20 ∧ mD (fun j => X 106 j) c = some (mJ (fun j => X 121 j) t + w) ∧ mOp (fun j => X 106 j) c
theorem mSe_eq {I I' : Nat → Nat → Int} {w : Nat} (h : mSe I w) (e : ∀ k j, (k = 106 ∨ k = 121 ∨ (k = 102 ∧ 48 ≤ j ∧ j ≤ 50)) → I' k j = I k j) : mSe I' w := by
  obtain ⟨c, t, a, b, c1, c2, d, o⟩ := h
  refine ⟨c, t, by rw [e 102 48 (by omega)]; exact a, by rw [e 102 50 (by omega)]; exact b, by rw [e 102 49 (by omega)]; exact c1, by rw [e 102 49 (by omega)]; exact c2, ?_, mOp_cg (fun j _ => e 106 j (by omega)) o⟩
  rw [mD_cg (g := fun j => I 106 j) c (fun j _ => e 106 j (by omega)), mJ_cg (g := fun j => I 121 j) t (fun j _ => e 121 j (by omega))]
  exact d
section Sm
variable {l : Launch} {D : va_G} {cy : Nat → ClassId} {z d bc bs N : Nat} {T : Nat → Nat × Nat} {R : Nat → Nat → Option Nat} {I : Nat → Nat → Int} {K : yKo}
/-- a code more -/
theorem r_code (hT : yLT T) (hR : yLR R) {x1 x2 x3 : Int} {c : Nat} (hc : I 102 48 = (c : Int)) (h45 : c < 45) (hx : -2147483648 ≤ x1 ∧ x1 < 2147483648 ∧ -2147483648 ≤ x3 ∧ x3 < 2147483648) (hk : ∀ I', I' 102 48 = (c : Int) + 1 → I' 106 (3 * c) = x1 → I' 106 (3 * c + 2) = x3 → (∀ j, (j < 3 * c ∨ 3 * c + 3 ≤ j) → I' 106 j = I 106 j) → (∀ k j, k ≠ 106 → (k ≠ 102 ∨ j ≠ 48) → I' k j = I k j) → K none (N, T, R, I')) : yW l zSS D cy zFk z d 169 bc bs K 0 0 0 [(0, yr (some 102)), (1, yi x1), (2, yi x2), (3, yi x3)] [] (N, T, R, I) := by
  refine B_169_0 hT hR ?_
  rw [hc, ymul_eq (by omega) (by omega)]
  refine ⟨by omega, by omega, ?_⟩
  intro I3 e3
  have s3 : I3 102 48 = (c : Int) := by rw [e3, yU_ne _ _ (by omega)]; exact hc
  rw [s3, ymul_eq (by omega) (by omega), yadd_eq (y := 1) (by omega) (by omega)]
  refine ⟨by omega, by omega, ?_⟩
  intro I6 e6
  have s6 : I6 102 48 = (c : Int) := by rw [e6, yU_ne _ _ (by omega)]; exact s3
  rw [s6, ymul_eq (by omega) (by omega), yadd_eq (y := 2) (by omega) (by omega)]
  refine ⟨by omega, by omega, ?_⟩
  intro I9 e9
  have s9 : I9 102 48 = (c : Int) := by rw [e9, yU_ne _ _ (by omega)]; exact s6
  rw [s9, yadd_eq (by omega) (by omega)]
  intro I10 e10
  rw [ynar1_eq hx.1 hx.2.1, show (3 * (c : Int)).toNat = 3 * c by omega] at e3
  rw [show (3 * (c : Int) + 1).toNat = 3 * c + 1 by omega] at e6
  rw [ynar1_eq hx.2.2.1 hx.2.2.2, show (3 * (c : Int) + 2).toNat = 3 * c + 2 by omega] at e9
  refine hk I10 ?_ ?_ ?_ (fun j hj => ?_) (fun k j a b => ?_)
  · rw [e10, yU_eq]
  · rw [e10, yU_ne _ _ (by omega), e9, yU_ne _ _ (by omega), e6, yU_ne _ _ (by omega), e3, yU_eq]
  · rw [e10, yU_ne _ _ (by omega), e9, yU_eq]
  · rw [e10, yU_ne _ _ (by omega), e9, yU_ne _ _ (by omega), e6, yU_ne _ _ (by omega), e3, yU_ne _ _ (by omega)]
  · rw [e10, yU_ne _ _ (by omega), e9, yU_ne _ _ (by omega), e6, yU_ne _ _ (by omega), e3, yU_ne _ _ (by omega)]
/-- joints that bind are done -/
theorem r_joins (hT : yLT T) (hR : yLR R) {x1 : Int} (hS : mSe I 1) (hk : ∀ I', mSe I' 1 → 0 ≤ I' 102 50 → I' 102 50 ≤ I 102 50 → (x1 = 22 → 0 < I' 102 50 → I' 121 (I' 102 50 - 1).toNat ≠ 21 ∧ I' 121 (I' 102 50 - 1).toNat ≠ 22) → (∀ k j, k ≠ 106 → (k ≠ 102 ∨ (j ≠ 48 ∧ j ≠ 50)) → I' k j = I k j) → K none (N, T, R, I')) : yW l zSS D cy zFk z (d + 1) 200 bc bs K 0 0 0 [(0, yr (some 102)), (1, yi x1)] [] (N, T, R, I) := by
  have loop : ∀ (m : Nat) (X : Nat → Nat → Int), (X 102 50).toNat < m → mSe X 1 → X 102 50 ≤ I 102 50 → (∀ k j, k ≠ 106 → (k ≠ 102 ∨ (j ≠ 48 ∧ j ≠ 50)) → X k j = I k j) → yW l zSS D cy zFk z (d + 1) 200 bc bs K 0 0 0 [(0, yr (some 102)), (1, yi x1)] [] (N, T, R, X) := by
    intro m
    induction m with
    | zero => intro X h; exact absurd h (Nat.not_lt_zero _)
    | succ m ih =>
      intro X hm hS hle fX
      obtain ⟨c, t, hc, ht, hb, h20, hD, hO⟩ := hS
      have stop : (0 < X 102 50 → x1 = 22 → X 121 (X 102 50 - 1).toNat ≠ 21 ∧ X 121 (X 102 50 - 1).toNat ≠ 22) → K none (N, T, R, X) := fun h => hk X ⟨c, t, hc, ht, hb, h20, hD, hO⟩ (by omega) hle (fun a b => h b a) fX
      -- one joint is popped
      have pop : ∀ t' : Nat, t = t' + 1 → (X 121 t' = 21 ∨ X 121 t' = 22) → ∀ I5, I5 = yU X 102 50 (t' : Int) → 0 ≤ I5 102 50 ∧ I5 102 50 < 45 ∧ yW l zSS D cy zFk z d 169 0 0 (fun r h' => ∃ I8, r = none ∧ h' = (N, T, R, I8) ∧ (yW l zSS D cy zFk z (d + 1) 200 bc bs K 0 0 0 [(0, yr (some 102)), (1, yi x1)] [] (N, T, R, I8))) 0 0 0 [(0, yr (some 102)), (1, yi (I5 121 (I5 102 50).toNat)), (2, yi 0), (3, yi 0)] [] (N, T, R, I5) := by
        intro t' e hj I5 e5
        have v5 : I5 102 50 = (t' : Int) := by rw [e5, yU_eq]
        have n5 : ∀ k j, (k ≠ 102 ∨ j ≠ 50) → I5 k j = X k j := fun k j h => by rw [e5, yU_ne _ _ (by omega)]
        rw [v5, show ((t' : Int)).toNat = t' by omega, n5 121 t' (by omega)]
        refine ⟨by omega, by omega, ?_⟩
        refine r_code hT hR (c := c) (by rw [n5 102 48 (by omega)]; exact hc) (by omega) (by omega) (fun I8 w48 w0 w2 wf wo => ⟨_, rfl, rfl, ?_⟩)
        have w50 : I8 102 50 = (t' : Int) := by rw [wo 102 50 (by omega) (by omega)]; exact v5
        have w49 : I8 102 49 = X 102 49 := by rw [wo 102 49 (by omega) (by omega)]; exact n5 102 49 (by omega)
        have old : ∀ j, j < 3 * c → I8 106 j = X 106 j := fun j hj => by rw [wf j (.inl hj)]; exact n5 106 j (by omega)
        have st : ∀ j, I8 121 j = X 121 j := fun j => by rw [wo 121 j (by omega) (by omega)]; exact n5 121 j (by omega)
        have hJ : mJ (fun j => X 121 j) t = mJ (fun j => X 121 j) t' + 1 := by
          rw [e]; show mJ _ t' + (if X 121 t' = 21 ∨ X 121 t' = 22 then 1 else 0) = _
          rw [if_pos hj]
        refine ih I8 (by omega) ⟨c + 1, t', by rw [w48]; omega, w50, by omega, by omega, ?_, fun i hi he => ?_⟩ (by omega) (fun k j a b => ?_)
        · have g1 : mD (fun j => I8 106 j) c = some (mJ (fun j => X 121 j) t' + 2) := by
            rw [mD_cg (g := fun j => X 106 j) c (fun j hj => old j hj), hD, hJ]
          have g2 := mD_join g1 (by show I8 106 (3 * c) = 21 ∨ I8 106 (3 * c) = 22; rw [w0]; exact hj) (by omega)
          rw [g2, mJ_cg (g := fun j => X 121 j) t' (fun j _ => st j)]
          rfl
        · by_cases ec : i = c
          · subst ec
            have he : I8 106 (3 * i) = 2 := he
            rw [w0] at he; omega
          · have he : I8 106 (3 * i) = 2 := he
            rw [old _ (by omega)] at he
            show 0 ≤ I8 106 (3 * i + 2) ∧ I8 106 (3 * i + 2) < 8
            rw [old _ (by omega)]
            exact hO i (by omega) he
        · rw [wo k j a (by omega), n5 k j (by omega)]; exact fX k j a b
      refine B_200_0 hT hR ⟨fun c0 => stop (fun h => absurd h (by omega)), fun c0 => ?_⟩
      obtain ⟨t', rfl⟩ : ∃ t', t = t' + 1 := ⟨t - 1, by omega⟩
      have i1 : (X 102 50 - 1).toNat = t' := by omega
      rw [ysub_eq (by omega) (by omega)]
      rw [show X 102 50 - 1 = (t' : Int) by omega, show ((t' : Int)).toNat = t' by omega]
      rw [i1] at stop
      exact ⟨by omega, by omega, fun a => pop t' rfl (.inl a), fun a => ⟨by omega, by omega, fun b => stop (fun _ _ => ⟨a, b⟩), fun b => ⟨fun cx => stop (fun _ q => absurd q cx), fun _ => pop t' rfl (.inr (by omega))⟩⟩⟩
  exact loop _ I (Nat.lt_succ_self _) hS (Int.le_refl _) (fun _ _ _ _ => rfl)
/-- denials that wait for an operand are done -/
theorem r_nots (hT : yLT T) (hR : yLR R) (hS : mSe I 1) (hk : ∀ I', mSe I' 1 → 0 ≤ I' 102 50 → I' 102 50 ≤ I 102 50 → (∀ k j, k ≠ 106 → (k ≠ 102 ∨ (j ≠ 48 ∧ j ≠ 50 ∧ j ≠ 51)) → I' k j = I k j) → K none (N, T, R, I')) : yW l zSS D cy zFk z (d + 1) 217 bc bs K 0 0 0 [(0, yr (some 102))] [] (N, T, R, I) := by
  have loop : ∀ (m : Nat) (X : Nat → Nat → Int), (X 102 50).toNat < m → mSe X 1 → X 102 50 ≤ I 102 50 → (∀ k j, k ≠ 106 → (k ≠ 102 ∨ (j ≠ 48 ∧ j ≠ 50 ∧ j ≠ 51)) → X k j = I k j) → yW l zSS D cy zFk z (d + 1) 217 bc bs K 0 0 0 [(0, yr (some 102))] [] (N, T, R, X) := by
    intro m
    induction m with
    | zero => intro X h; exact absurd h (Nat.not_lt_zero _)
    | succ m ih =>
      intro X hm hS hle fX
      obtain ⟨c, t, hc, ht, hb, h20, hD, hO⟩ := hS
      have stop : K none (N, T, R, X) := hk X ⟨c, t, hc, ht, hb, h20, hD, hO⟩ (by omega) hle fX
      refine B_217_0 hT hR ⟨fun c0 => stop, fun c0 => ?_⟩
      obtain ⟨t', rfl⟩ : ∃ t', t = t' + 1 := ⟨t - 1, by omega⟩
      rw [ysub_eq (by omega) (by omega)]
      rw [show X 102 50 - 1 = (t' : Int) by omega, show ((t' : Int)).toNat = t' by omega]
      refine ⟨by omega, by omega, fun _ => stop, fun a => ?_⟩
      have a : X 121 t' = 20 := by omega
      intro I5 e5 I6 e6
      have v6 : I6 102 50 = (t' : Int) := by rw [e6, yU_ne _ _ (by omega), e5, yU_eq]
      have n6 : ∀ k j, (k ≠ 102 ∨ (j ≠ 50 ∧ j ≠ 51)) → I6 k j = X k j := fun k j h => by rw [e6, yU_ne _ _ (by omega), e5, yU_ne _ _ (by omega)]
      refine r_code hT hR (c := c) (by rw [n6 102 48 (by omega)]; exact hc) (by omega) (by omega) (fun I8 w48 w0 w2 wf wo => ⟨_, rfl, rfl, ?_⟩)
      have w50 : I8 102 50 = (t' : Int) := by rw [wo 102 50 (by omega) (by omega)]; exact v6
      have w49 : I8 102 49 = X 102 49 := by rw [wo 102 49 (by omega) (by omega)]; exact n6 102 49 (by omega)
      have old : ∀ j, j < 3 * c → I8 106 j = X 106 j := fun j hj => by rw [wf j (.inl hj)]; exact n6 106 j (by omega)
      have st : ∀ j, I8 121 j = X 121 j := fun j => by rw [wo 121 j (by omega) (by omega)]; exact n6 121 j (by omega)
      have hJ : mJ (fun j => X 121 j) (t' + 1) = mJ (fun j => X 121 j) t' := by
        show mJ _ t' + (if X 121 t' = 21 ∨ X 121 t' = 22 then 1 else 0) = _
        rw [if_neg (by omega)]; rfl
      refine ih I8 (by omega) ⟨c + 1, t', by rw [w48]; omega, w50, by omega, by omega, ?_, fun i hi he => ?_⟩ (by omega) (fun k j a b => ?_)
      · have g1 : mD (fun j => I8 106 j) c = some (mJ (fun j => X 121 j) t' + 1) := by
          rw [mD_cg (g := fun j => X 106 j) c (fun j hj => old j hj), hD, hJ]
        have g2 := mD_not g1 (by show I8 106 (3 * c) = 20; exact w0) (by omega)
        rw [g2, mJ_cg (g := fun j => X 121 j) t' (fun j _ => st j)]
      · by_cases ec : i = c
        · subst ec
          have he : I8 106 (3 * i) = 2 := he
          rw [w0] at he; omega
        · have he : I8 106 (3 * i) = 2 := he
          rw [old _ (by omega)] at he
          show 0 ≤ I8 106 (3 * i + 2) ∧ I8 106 (3 * i + 2) < 8
          rw [old _ (by omega)]
          exact hO i (by omega) he
      · rw [wo k j a (by omega), n6 k j (by omega)]; exact fX k j a b
  exact loop _ I (Nat.lt_succ_self _) hS (Int.le_refl _) (fun _ _ _ _ => rfl)
end Sm
