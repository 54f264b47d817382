/-! THE TEXT's TOKENS: what a token is; the class reads one -/
abbrev tL (x : Int) : Prop := 97 ≤ x ∧ x ≤ 122
abbrev tD (x : Int) : Prop := 48 ≤ x ∧ x ≤ 57
/-- k values from q on, folded from the left -/
def tF (b : Int) (g : Nat → Int) (q : Nat) : Nat → Int
  | 0 => 0
  | k + 1 => b * tF b g q k + g (q + k)
/-- how many of the k values from q on are letters -/
def tN (t : Nat → Int) (q : Nat) : Nat → Nat
  | 0 => 0
  | k + 1 => tN t q k + (if tL (t (q + k)) then 1 else 0)
theorem tN_le (t : Nat → Int) (q : Nat) : ∀ k, tN t q k ≤ k := by
  intro k
  induction k with
  | zero => exact Nat.le_refl _
  | succ k ih => show tN t q k + (if tL (t (q + k)) then 1 else 0) ≤ k + 1; split <;> omega
theorem tN_all {t : Nat → Int} {q : Nat} : ∀ k, tN t q k = k → ∀ j, j < k → tL (t (q + j)) := by
  intro k
  induction k with
  | zero => intro _ j h; omega
  | succ k ih =>
    intro h j hj
    have h : tN t q k + (if tL (t (q + k)) then 1 else 0) = k + 1 := h
    have l := tN_le t q k
    split at h
    · rename_i g
      by_cases e : j = k
      · subst e; exact g
      · exact ih (by omega) j (by omega)
    · omega
theorem tN_none {t : Nat → Int} {q : Nat} : ∀ k, tN t q k = 0 → ∀ j, j < k → ¬ tL (t (q + j)) := by
  intro k
  induction k with
  | zero => intro _ j h; omega
  | succ k ih =>
    intro h j hj
    have h : tN t q k + (if tL (t (q + k)) then 1 else 0) = 0 := h
    split at h
    · omega
    · rename_i g
      by_cases e : j = k
      · subst e; exact g
      · exact ih (by omega) j (by omega)
theorem tF_nn {b : Int} (hb : b = 10 ∨ b = 32 ∨ b = 256) {g : Nat → Int} {q : Nat} : ∀ k, (∀ i, i < k → 0 ≤ g (q + i)) → 0 ≤ tF b g q k := by
  intro k
  induction k with
  | zero => intro _; exact Int.le_refl _
  | succ k ih =>
    intro h
    have h1 := ih (fun i hi => h i (by omega))
    have h2 := h k (Nat.lt_succ_self k)
    show 0 ≤ b * tF b g q k + g (q + k)
    rcases hb with rfl | rfl | rfl <;> omega
theorem tF_cg {b : Int} {g g' : Nat → Int} {q q' : Nat} : ∀ k, (∀ i, i < k → g (q + i) = g' (q' + i)) → tF b g q k = tF b g' q' k := by
  intro k
  induction k with
  | zero => intro _; rfl
  | succ k ih =>
    intro h
    show b * tF b g q k + g (q + k) = b * tF b g' q' k + g' (q' + k)
    rw [ih (fun i hi => h i (by omega)), h k (Nat.lt_succ_self k)]
theorem tF_inj {b : Int} (hb : b = 32 ∨ b = 256) {g g' : Nat → Int} {q q' : Nat} : ∀ (k k' : Nat), (∀ i, i < k → 0 < g (q + i) ∧ g (q + i) < b) → (∀ i, i < k' → 0 < g' (q' + i) ∧ g' (q' + i) < b) → tF b g q k = tF b g' q' k' → k = k' ∧ ∀ i, i < k → g (q + i) = g' (q' + i) := by
  intro k
  induction k with
  | zero =>
    intro k' _ h' e
    cases k' with
    | zero => exact ⟨rfl, fun i hi => absurd hi (Nat.not_lt_zero _)⟩
    | succ k' =>
      exfalso
      have e : (0 : Int) = b * tF b g' q' k' + g' (q' + k') := e
      have h1 := tF_nn (b := b) (by omega) k' (fun i hi => Int.le_of_lt (h' i (by omega)).1)
      have h2 := h' k' (Nat.lt_succ_self k')
      rcases hb with rfl | rfl <;> omega
  | succ k ih =>
    intro k' h h' e
    have g1 := tF_nn (b := b) (by omega) k (fun i hi => Int.le_of_lt (h i (by omega)).1)
    have g2 := h k (Nat.lt_succ_self k)
    cases k' with
    | zero =>
      exfalso
      have e : b * tF b g q k + g (q + k) = 0 := e
      rcases hb with rfl | rfl <;> omega
    | succ k' =>
      have e : b * tF b g q k + g (q + k) = b * tF b g' q' k' + g' (q' + k') := e
      have h1 := tF_nn (b := b) (by omega) k' (fun i hi => Int.le_of_lt (h' i (by omega)).1)
      have h2 := h' k' (Nat.lt_succ_self k')
      have ed : g (q + k) = g' (q' + k') ∧ tF b g q k = tF b g' q' k' := by
        rcases hb with rfl | rfl <;> constructor <;> omega
      obtain ⟨rfl, eq⟩ := ih k' (fun i hi => h i (by omega)) (fun i hi => h' i (by omega)) ed.2
      exact ⟨rfl, fun i hi => by
        by_cases e : i = k
        · subst e; exact ed.1
        · exact eq i (by omega)⟩
/-- with few digits nothing wraps -/
theorem tF_lt {b : Int} (hb : b = 10 ∨ b = 32 ∨ b = 256) {g : Nat → Int} {q : Nat} : ∀ k, (∀ i, i < k → 0 ≤ g (q + i) ∧ g (q + i) < b) → tF b g q k < b ^ k := by
  intro k
  induction k with
  | zero => intro _; show (0 : Int) < b ^ 0; rw [Int.pow_zero]; exact Int.one_pos
  | succ k ih =>
    intro h
    have h1 := ih (fun i hi => h i (by omega))
    have h2 := h k (Nat.lt_succ_self k)
    have e : b ^ (k + 1) = b ^ k * b := Int.pow_succ b k
    rw [e]
    generalize b ^ k = P at *
    show b * tF b g q k + g (q + k) < P * b
    rcases hb with rfl | rfl | rfl <;> omega
/-- a run of letters and digits from q on: k of them, no more -/
def tRun (t : Nat → Int) (n q k : Nat) : Prop := q + k ≤ n ∧ (∀ j, j < k → tL (t (q + j)) ∨ tD (t (q + j))) ∧ (q + k = n ∨ ¬ (tL (t (q + k)) ∨ tD (t (q + k))))
theorem tRun_un {t : Nat → Int} {n q k k' : Nat} (h : tRun t n q k) (h' : tRun t n q k') : k = k' := by
  obtain ⟨a, b, c⟩ := h
  obtain ⟨a', b', c'⟩ := h'
  rcases Nat.lt_trichotomy k k' with g | g | g
  · rcases c with c | c
    · omega
    · exact absurd (b' k g) c
  · exact g
  · rcases c' with c' | c'
    · omega
    · exact absurd (b k' g) c'
/-- from p on all is white up to q -/
def tSk (t : Nat → Int) (n p q : Nat) : Prop := p ≤ q ∧ q ≤ n ∧ (∀ j, p ≤ j → j < q → t j = 32 ∨ t j = 10) ∧ (q = n ∨ ¬ (t q = 32 ∨ t q = 10))
theorem tSk_un {t : Nat → Int} {n p q q' : Nat} (h : tSk t n p q) (h' : tSk t n p q') : q = q' := by
  obtain ⟨a, b, c, d⟩ := h
  obtain ⟨a', b', c', d'⟩ := h'
  rcases Nat.lt_trichotomy q q' with g | g | g
  · rcases d with d | d
    · omega
    · exact absurd (c' q a g) d
  · exact g
  · rcases d' with d' | d'
    · omega
    · exact absurd (c q' a' g) d'
/-- a sign that is a TOKEN -/
abbrev tS (x : Int) : Prop := (59 ≤ x ∧ x ≤ 62) ∨ x = 40 ∨ x = 41
/-- of what sort a run is: 2 a WORD, 3 a NUMBER, 1 no TOKEN -/
def tKd (t : Nat → Int) (q k : Nat) : Int := if tN t q k = k ∧ k ≤ 7 then 2 else if tN t q k = 0 ∧ k ≤ 3 then 3 else 1
theorem y_bm64 {x : Int} (h1 : -9223372036854775808 ≤ x) (h2 : x < 9223372036854775808) : x.bmod 18446744073709551616 = x := by
  rw [Int.bmod_def]
  split <;> omega
theorem y64_in {x : Int} (h1 : -9223372036854775808 ≤ x) (h2 : x < 9223372036854775808) : (y64 x).toInt = x := by
  have : (Int64.ofInt x).toInt = x.bmod (2 ^ 64) := Int64.toInt_ofInt
  show (Int64.ofInt x).toInt = x
  rw [this]
  exact y_bm64 h1 h2
theorem yladd_eq {x y : Int} (h1 : -9223372036854775808 ≤ x + y) (h2 : x + y < 9223372036854775808) : yladd x y = x + y := by
  unfold yladd y64
  rw [← Int64.ofInt_add]
  exact y64_in h1 h2
theorem ylmul_eq {x y : Int} (h1 : -9223372036854775808 ≤ x * y) (h2 : x * y < 9223372036854775808) : ylmul x y = x * y := by
  unfold ylmul y64
  rw [← Int64.ofInt_mul]
  exact y64_in h1 h2
theorem yi2l_eq {x : Int} (h1 : -2147483648 ≤ x) (h2 : x < 2147483648) : yi2l x = x := by
  unfold yi2l
  rw [Int32.toInt_toInt64]
  exact y32_in h1 h2
section Xt
variable {l : Launch} {D : va_G} {cy : Nat → ClassId} {z d bc bs N : Nat} {T : Nat → Nat × Nat} {R : Nat → Nat → Option Nat} {I : Nat → Nat → Int} {K : yKo}
/-- Reader.readToken, to the letter -/
theorem x_44 (hT : yLT T) (hR : yLR R) {n p : Nat} (h1 : I 1 1 = (n : Int)) (hn : n ≤ 940) (h3 : I 1 3 = (p : Int)) (hp : p < n)
    (hk : ∀ (I' : Nat → Nat → Int) (k : Nat), (∀ a b, ¬ (a = 1 ∧ (b = 3 ∨ b = 5 ∨ b = 7 ∨ b = 8 ∨ b = 9)) → I' a b = I a b) → tRun (I 2) n p k → (k = 0 → I' 1 3 = ((p + 1 : Nat) : Int) ∧ I' 1 5 = (if tS (I 2 p) then 4 else 1) ∧ I' 1 9 = I 2 p) → (0 < k → I' 1 3 = ((p + k : Nat) : Int) ∧ I' 1 5 = tKd (I 2) p k ∧ (I' 1 5 = 2 → I' 1 7 = tF 32 (fun j => I 2 j - 96) p k) ∧ (I' 1 5 = 3 → I' 1 8 = tF 10 (fun j => I 2 j - 48) p k)) → K none (N, T, R, I')) :
    yW l zSS D cy zFk z d 44 bc bs K 0 0 0 [(0, yr (some 1))] [] (N, T, R, I) := by
  generalize ht : I 2 = t at hk
  -- behind the run
  have fin : ∀ (k : Nat) (X : Nat → Nat → Int), (∀ a b, ¬ (a = 1 ∧ (b = 3 ∨ b = 5 ∨ b = 7 ∨ b = 8 ∨ b = 9)) → X a b = I a b) → tRun t n p k → X 1 3 = ((p + k : Nat) : Int) → (k = 0 → X 1 9 = t p) → (tN t p k = k → k ≤ 7 → X 1 7 = tF 32 (fun j => t j - 96) p k) → (tN t p k = 0 → k ≤ 3 → X 1 8 = tF 10 (fun j => t j - 48) p k) → yW l zSS D cy zFk z d 44 bc bs K 0 0 150 [(0, yr (some 1)), (1, yi ((tN t p k : Nat) : Int)), (2, yi ((k - tN t p k : Nat) : Int))] [] (N, T, R, X) := by
    intro k X fX hr x3 x9 x7 x8
    have kn : k ≤ 940 := by have := hr.1; omega
    have nk := tN_le t p k
    have ek : yadd ((tN t p k : Nat) : Int) ((k - tN t p k : Nat) : Int) = (k : Int) := by rw [yadd_eq (by omega) (by omega)]; omega
    refine B_44_150 hT hR (fun I1 e1 => ⟨fun c => ?_, fun c => ?_⟩)
    · rw [ek] at c
      have f1 : ∀ a b, ¬ (a = 1 ∧ b = 5) → I1 a b = X a b := fun a b g => by rw [e1, yU_ne _ _ g]
      have s247 : ¬ (tN t p k = k ∧ k ≤ 7) → yW l zSS D cy zFk z d 44 bc bs K 0 0 247 [(0, yr (some 1)), (1, yi ((tN t p k : Nat) : Int)), (2, yi ((k - tN t p k : Nat) : Int))] [] (N, T, R, I1) := by
        intro nw
        have bad : ¬ (tN t p k = 0 ∧ k ≤ 3) → yW l zSS D cy zFk z d 44 bc bs K 0 0 261 [] [] (N, T, R, I1) := fun nn =>
          B_44_261 hT hR (hk I1 k (fun a b g => by rw [f1 a b (by omega)]; exact fX a b g) hr (fun g => absurd g (by omega)) (fun _ => ⟨by rw [f1 1 3 (by omega)]; exact x3, by rw [e1, yU_eq]; unfold tKd; rw [if_neg nw, if_neg nn], fun g => by rw [e1, yU_eq] at g; omega, fun g => by rw [e1, yU_eq] at g; omega⟩))
        refine B_44_247 hT hR ⟨fun c1 => bad (by omega), fun c1 => ⟨fun c2 => bad (by omega), fun c2 I3 e3 => ?_⟩⟩
        have t0 : tN t p k = 0 := by omega
        have k3 : k ≤ 3 := by omega
        exact B_44_261 hT hR (hk I3 k (fun a b g => by rw [e3, yU_ne _ _ (by omega), f1 a b (by omega)]; exact fX a b g) hr (fun g => absurd g (by omega)) (fun _ => ⟨by rw [e3, yU_ne _ _ (by omega), f1 1 3 (by omega)]; exact x3, by rw [e3, yU_eq]; unfold tKd; rw [if_neg nw, if_pos ⟨t0, k3⟩], fun g => by rw [e3, yU_eq] at g; omega, fun _ => by rw [e3, yU_ne _ _ (by omega), f1 1 8 (by omega)]; exact x8 t0 k3⟩))
      refine ⟨fun c1 => s247 (by omega), fun c1 => ⟨fun c2 => s247 (by omega), fun c2 I5 e5 => ?_⟩⟩
      have w : tN t p k = k ∧ k ≤ 7 := by omega
      exact B_44_261 hT hR (hk I5 k (fun a b g => by rw [e5, yU_ne _ _ (by omega), f1 a b (by omega)]; exact fX a b g) hr (fun g => absurd g (by omega)) (fun _ => ⟨by rw [e5, yU_ne _ _ (by omega), f1 1 3 (by omega)]; exact x3, by rw [e5, yU_eq]; unfold tKd; rw [if_pos w], fun _ => by rw [e5, yU_ne _ _ (by omega), f1 1 7 (by omega)]; exact x7 w.1 w.2, fun g => by rw [e5, yU_eq] at g; omega⟩))
    · rw [ek] at c
      have k0 : k = 0 := by omega
      subst k0
      intro I6 e6
      have s9 : I6 1 9 = t p := by rw [e6, yU_ne _ _ (by omega), e1, yU_ne _ _ (by omega)]; exact x9 rfl
      have s3 : I6 1 3 = ((p + 1 : Nat) : Int) := by rw [e6, yU_eq, e1, yU_ne _ _ (by omega), x3, yadd_eq (by omega) (by omega)]; rfl
      have f6 : ∀ a b, ¬ (a = 1 ∧ (b = 3 ∨ b = 5)) → I6 a b = X a b := fun a b g => by rw [e6, yU_ne _ _ (by omega), e1, yU_ne _ _ (by omega)]
      have s207 : tS (t p) → yW l zSS D cy zFk z d 44 bc bs K 0 0 207 [(0, yr (some 1))] [] (N, T, R, I6) := fun g =>
        B_44_207 hT hR (fun I7 e7 => B_44_261 hT hR (hk I7 0 (fun a b g => by rw [e7, yU_ne _ _ (by omega), f6 a b (by omega)]; exact fX a b g) hr (fun _ => ⟨by rw [e7, yU_ne _ _ (by omega)]; exact s3, by rw [e7, yU_eq, if_pos g], by rw [e7, yU_ne _ _ (by omega)]; exact s9⟩) (fun g => absurd g (Nat.lt_irrefl _))))
      have s189 : ¬ (59 ≤ t p ∧ t p ≤ 62) → yW l zSS D cy zFk z d 44 bc bs K 0 0 189 [(0, yr (some 1))] [] (N, T, R, I6) := fun g => by
        refine B_44_189 hT hR ⟨fun c1 => s207 (by rw [s9] at c1; exact .inr (.inl c1)), fun c1 => ⟨fun c2 I7 e7 => ?_, fun c2 => s207 (by rw [s9] at c2; exact .inr (.inr (by omega)))⟩⟩
        rw [s9] at c1 c2
        exact B_44_261 hT hR (hk I7 0 (fun a b g => by rw [e7, yU_ne _ _ (by omega), f6 a b (by omega)]; exact fX a b g) hr (fun _ => ⟨by rw [e7, yU_ne _ _ (by omega)]; exact s3, by rw [e7, yU_eq, if_neg (by omega)], by rw [e7, yU_ne _ _ (by omega)]; exact s9⟩) (fun g => absurd g (Nat.lt_irrefl _)))
      refine ⟨fun c1 => s189 (by rw [s9] at c1; omega), fun c1 => ⟨fun c2 => s207 (by rw [s9] at c1 c2; exact .inl (by omega)), fun c2 => s189 (by rw [s9] at c2; omega)⟩⟩
  -- the run
  have loop : ∀ (m k : Nat) (X : Nat → Nat → Int), p + k + m = n → (∀ j, j < k → tL (t (p + j)) ∨ tD (t (p + j))) → (∀ a b, ¬ (a = 1 ∧ (b = 3 ∨ b = 5 ∨ b = 7 ∨ b = 8 ∨ b = 9)) → X a b = I a b) → X 1 3 = ((p + k : Nat) : Int) → (tN t p k = k → k ≤ 7 → X 1 7 = tF 32 (fun j => t j - 96) p k) → (tN t p k = 0 → k ≤ 3 → X 1 8 = tF 10 (fun j => t j - 48) p k) → yW l zSS D cy zFk z d 44 bc bs K 0 0 14 [(0, yr (some 1)), (1, yi ((tN t p k : Nat) : Int)), (2, yi ((k - tN t p k : Nat) : Int))] [] (N, T, R, X) := by
    intro m
    induction m with
    | zero =>
      intro k X hm al fX x3 x7 x8
      have x1 : X 1 1 = (n : Int) := by rw [fX 1 1 (by omega)]; exact h1
      refine B_44_14 hT hR ⟨fun _ => fin k X fX ⟨by omega, al, .inl (by omega)⟩ x3 (fun g => absurd g (by omega)) x7 x8, fun c => absurd (by rw [x1, x3]; omega) c⟩
    | succ m ih =>
      intro k X hm al fX x3 x7 x8
      have x1 : X 1 1 = (n : Int) := by rw [fX 1 1 (by omega)]; exact h1
      have nk := tN_le t p k
      refine B_44_14 hT hR ⟨fun c => absurd c (by rw [x1, x3]; omega), fun _ => ⟨fun c => absurd c (by rw [x3]; omega), fun _ => ⟨by rw [x3]; omega, by rw [x3]; omega, fun I5 e5 => ?_⟩⟩⟩
      have s9 : I5 1 9 = t (p + k) := by
        rw [e5, yU_eq, x3, show (((p + k : Nat) : Int)).toNat = p + k by omega, fX 2 _ (by omega), ht]
      have f5 : ∀ a b, ¬ (a = 1 ∧ b = 9) → I5 a b = X a b := fun a b g => by rw [e5, yU_ne _ _ g]
      have fI5 : ∀ a b, ¬ (a = 1 ∧ (b = 3 ∨ b = 5 ∨ b = 7 ∨ b = 8 ∨ b = 9)) → I5 a b = I a b := fun a b g => by rw [f5 a b (by omega)]; exact fX a b g
      have y3 : I5 1 3 = ((p + k : Nat) : Int) := by rw [f5 1 3 (by omega)]; exact x3
      have e3 : yadd ((p + k : Nat) : Int) 1 = ((p + (k + 1) : Nat) : Int) := by rw [yadd_eq (by omega) (by omega)]; rfl
      have s97 : ¬ tL (t (p + k)) → yW l zSS D cy zFk z d 44 bc bs K 0 0 97 [(0, yr (some 1)), (1, yi ((tN t p k : Nat) : Int)), (2, yi ((k - tN t p k : Nat) : Int))] [] (N, T, R, I5) := by
        intro nl
        have no : ¬ tD (t (p + k)) → yW l zSS D cy zFk z d 44 bc bs K 0 0 150 [(0, yr (some 1)), (1, yi ((tN t p k : Nat) : Int)), (2, yi ((k - tN t p k : Nat) : Int))] [] (N, T, R, I5) := fun nd =>
          fin k I5 fI5 ⟨by omega, al, .inr (fun g => g.elim nl nd)⟩ y3 (fun g => by subst g; exact s9) (fun a b => by rw [f5 1 7 (by omega)]; exact x7 a b) (fun a b => by rw [f5 1 8 (by omega)]; exact x8 a b)
        refine B_44_97 hT hR ⟨fun c => no (by rw [s9] at c; omega), fun c => ⟨fun c2 => no (by rw [s9] at c2; omega), fun c2 I8 e8 => ?_⟩⟩
        rw [s9] at c c2
        have dg : tD (t (p + k)) := by omega
        have en : tN t p (k + 1) = tN t p k := by show tN t p k + (if tL (t (p + k)) then 1 else 0) = _; rw [if_neg nl]; rfl
        have ex : yadd ((k - tN t p k : Nat) : Int) 1 = ((k + 1 - tN t p (k + 1) : Nat) : Int) := by rw [yadd_eq (by omega) (by omega), en]; omega
        rw [ex, ← en]
        refine B_44_137 hT hR (fun I9 e9 => ih (k + 1) I9 (by omega) (fun j hj => ?_) (fun a b g => by rw [e9, yU_ne _ _ (by omega), e8, yU_ne _ _ (by omega)]; exact fI5 a b g) (by rw [e9, yU_eq, e8, yU_ne _ _ (by omega), y3]; exact e3) (fun a b => absurd a (by omega)) (fun a b => ?_))
        · by_cases g : j = k
          · subst g; exact .inr dg
          · exact al j (by omega)
        · rw [e9, yU_ne _ _ (by omega), e8, yU_eq, f5 1 8 (by omega), x8 (by omega) (by omega), s9]
          have l1 := tF_nn (b := 10) (by omega) (g := fun j => t j - 48) (q := p) k (fun i hi => by have := (al i hi).resolve_left (tN_none (t := t) (q := p) k (by omega) i hi); show 0 ≤ t (p + i) - 48; omega)
          have l2 := tF_lt (b := 10) (by omega) (g := fun j => t j - 48) (q := p) k (fun i hi => by have := (al i hi).resolve_left (tN_none (t := t) (q := p) k (by omega) i hi); show 0 ≤ t (p + i) - 48 ∧ t (p + i) - 48 < 10; omega)
          have l3 : (10 : Int) ^ k ≤ 100 := by
            rcases (show k = 0 ∨ k = 1 ∨ k = 2 by omega) with rfl | rfl | rfl <;> decide
          show yadd (ymul _ 10) (ysub (t (p + k)) 48) = 10 * tF 10 (fun j => t j - 48) p k + (t (p + k) - 48)
          rw [ymul_eq (by omega) (by omega), ysub_eq (by omega) (by omega), yadd_eq (by omega) (by omega)]
          omega
      refine ⟨fun c => s97 (by rw [s9] at c; omega), fun c => ⟨fun c2 => s97 (by rw [s9] at c2; omega), fun c2 I8 e8 => ?_⟩⟩
      rw [s9] at c c2
      have lt : tL (t (p + k)) := by omega
      have en : tN t p (k + 1) = tN t p k + 1 := by show tN t p k + (if tL (t (p + k)) then 1 else 0) = _; rw [if_pos lt]
      have ex : yadd ((tN t p k : Nat) : Int) 1 = ((tN t p (k + 1) : Nat) : Int) := by rw [yadd_eq (by omega) (by omega), en]; rfl
      rw [ex, show k - tN t p k = k + 1 - tN t p (k + 1) by omega]
      refine B_44_137 hT hR (fun I9 e9 => ih (k + 1) I9 (by omega) (fun j hj => ?_) (fun a b g => by rw [e9, yU_ne _ _ (by omega), e8, yU_ne _ _ (by omega)]; exact fI5 a b g) (by rw [e9, yU_eq, e8, yU_ne _ _ (by omega), y3]; exact e3) (fun a b => ?_) (fun a b => absurd a (by omega)))
      · by_cases g : j = k
        · subst g; exact .inl lt
        · exact al j (by omega)
      · rw [e9, yU_ne _ _ (by omega), e8, yU_eq, f5 1 7 (by omega), x7 (by omega) (by omega), s9]
        have l1 := tF_nn (b := 32) (by omega) (g := fun j => t j - 96) (q := p) k (fun i hi => by have := tN_all (t := t) (q := p) k (by omega) i hi; show 0 ≤ t (p + i) - 96; omega)
        have l2 := tF_lt (b := 32) (by omega) (g := fun j => t j - 96) (q := p) k (fun i hi => by have := tN_all (t := t) (q := p) k (by omega) i hi; show 0 ≤ t (p + i) - 96 ∧ t (p + i) - 96 < 32; omega)
        have l3 : (32 : Int) ^ k ≤ 1073741824 := by
          rcases (show k = 0 ∨ k = 1 ∨ k = 2 ∨ k = 3 ∨ k = 4 ∨ k = 5 ∨ k = 6 by omega) with rfl | rfl | rfl | rfl | rfl | rfl | rfl <;> decide
        show yladd (ylmul _ 32) (yi2l (yadd (ysub (t (p + k)) 97) 1)) = 32 * tF 32 (fun j => t j - 96) p k + (t (p + k) - 96)
        rw [ylmul_eq (by omega) (by omega), ysub_eq (by omega) (by omega), yadd_eq (by omega) (by omega), yi2l_eq (by omega) (by omega), yladd_eq (by omega) (by omega)]
        omega
  refine B_44_0 hT hR (fun I1 e1 I2 e2 => ?_)
  refine loop (n - p) 0 I2 (by omega) (fun j hj => absurd hj (Nat.not_lt_zero _)) (fun a b g => by rw [e2, yU_ne _ _ (by omega), e1, yU_ne _ _ (by omega)]) (by rw [e2, yU_ne _ _ (by omega), e1, yU_ne _ _ (by omega)]; exact h3) (fun _ _ => by rw [e2, yU_ne _ _ (by omega), e1, yU_eq]; rfl) (fun _ _ => by rw [e2, yU_eq]; rfl)
end Xt
