/-! THE CLASS's READER, to the letter: findWord, advance -/
/-- WORDS, read up to the i-th sign: how many words are told, the code of the one that is begun -/
def wIx : Nat → Nat
  | 0 => 0
  | i + 1 => wIx i + (if (zCh i).toInt = 32 then 1 else 0)
def wCd : Nat → Int
  | 0 => 0
  | i + 1 => if (zCh i).toInt = 32 then 0 else 32 * wCd i + ((zCh i).toInt - 96)
/-- which word has this code; -1: none -/
def wFd (C : Int) : Nat → Int
  | 0 => -1
  | i + 1 => if wFd C i ≠ -1 then wFd C i else if (zCh i).toInt = 32 ∧ wCd i = C then (wIx i : Int) else -1
set_option maxRecDepth 100000 in
theorem wCd_ok : ∀ i, i < 113 → 0 ≤ wCd i ∧ wCd i < 34359738368 ∧ wIx i ≤ 24 := by decide +kernel
set_option maxRecDepth 100000 in
theorem zCh_ok : ∀ i, i < 112 → (zCh i).toInt = 32 ∨ (97 ≤ (zCh i).toInt ∧ (zCh i).toInt ≤ 122) := by decide +kernel
theorem wFd_st {C : Int} {i : Nat} (h : wFd C i ≠ -1) : ∀ m, wFd C (i + m) = wFd C i := by
  intro m
  induction m with
  | zero => rfl
  | succ m ih =>
    show (if wFd C (i + m) ≠ -1 then wFd C (i + m) else _) = _
    rw [ih, if_pos h]
theorem ylcmp_eq {x y : Int} (hx : -9223372036854775808 ≤ x ∧ x < 9223372036854775808) (hy : -9223372036854775808 ≤ y ∧ y < 9223372036854775808) : ylcmp x y = 0 ↔ x = y := by
  have e : ∀ a b : Int64, (lg_cmp a b).toInt = 0 ↔ a = b := fun a b => by
    unfold lg_cmp
    split
    · rename_i h
      constructor
      · intro g; exact absurd g (by decide)
      · intro g; subst g; exact absurd h (by simp)
    · split
      · rename_i h1 h
        constructor
        · intro _; exact h
        · intro _; rfl
      · rename_i h1 h
        constructor
        · intro g; exact absurd g (by decide)
        · intro g; exact absurd g h
  unfold ylcmp
  rw [e]
  constructor
  · intro g
    have := congrArg Int64.toInt g
    rwa [y64_in hx.1 hx.2, y64_in hy.1 hy.2] at this
  · intro g; rw [g]
/-- where the class's reader stands when it has read the TOKEN that is next from p on -/
def cTk (I : Nat → Nat → Int) (t : Nat → Int) (n lim p : Nat) : Prop :=
  ∃ q, tSk t n p q ∧ I 1 4 = ((min q (min n lim) : Nat) : Int) ∧ (min n lim ≤ q → I 1 5 = 0 ∧ I 1 3 = (q : Int) ∧ I 1 6 = -1) ∧
    (q < min n lim → ∃ k, tRun t n q k ∧ (k = 0 → I 1 3 = ((q + 1 : Nat) : Int) ∧ I 1 5 = (if tS (t q) then 4 else 1) ∧ I 1 9 = t q ∧ I 1 6 = -1) ∧
      (0 < k → I 1 3 = ((q + k : Nat) : Int) ∧ I 1 5 = tKd t q k ∧ (tKd t q k = 2 → I 1 7 = tF 32 (fun j => t j - 96) q k ∧ I 1 6 = wFd (tF 32 (fun j => t j - 96) q k) 112) ∧ (tKd t q k = 3 → I 1 8 = tF 10 (fun j => t j - 48) q k) ∧ (tKd t q k ≠ 2 → I 1 6 = -1)))
section Xa
variable {l : Launch} {D : va_G} {cy : Nat → ClassId} {z d bc bs N : Nat} {T : Nat → Nat × Nat} {R : Nat → Nat → Option Nat} {I : Nat → Nat → Int} {K : yKo}
/-- Reader.findWord, to the letter -/
theorem x_35 (hT : yLT T) (hR : yLR R) (h6 : I 1 6 = -1) (h7 : 0 ≤ I 1 7 ∧ I 1 7 < 34359738368) (hk : ∀ I', (∀ a b, ¬ (a = 1 ∧ b = 6) → I' a b = I a b) → I' 1 6 = wFd (I 1 7) 112 → K none (N, T, R, I')) :
    yW l zSS D cy zFk z (d + 4) 35 bc bs K 0 0 0 [(0, yr (some 1))] [] (N, T, R, I) := by
  have loop : ∀ (m k : Nat) (X : Nat → Nat → Int), k + m = 112 → (∀ a b, ¬ (a = 1 ∧ b = 6) → X a b = I a b) → X 1 6 = wFd (I 1 7) k → (X 1 6 = -1 → yW l zSS D cy zFk z (d + 4) 35 bc bs K 0 0 7 [(0, yr (some 1)), (1, yi ((wIx k : Nat) : Int)), (2, yj (wCd k)), (4, yi (k : Int))] [] (N, T, R, X)) ∧ (X 1 6 ≠ -1 → ∀ x1 x2, yW l zSS D cy zFk z (d + 4) 35 bc bs K 0 0 7 [(0, yr (some 1)), (1, yi x1), (2, yj x2), (4, yi (k : Int))] [] (N, T, R, X)) := by
    intro m
    induction m with
    | zero =>
      intro k X hm fX x6
      have e : k = 112 := by omega
      subst e
      exact ⟨fun _ => B_35_7 hT hR (by omega) ⟨fun _ => hk X fX x6, fun c => absurd (by omega) c⟩, fun _ x1 x2 => B_35_7 hT hR (by omega) ⟨fun _ => hk X fX x6, fun c => absurd (by omega) c⟩⟩
    | succ m ih =>
      intro k X hm fX x6
      have done : X 1 6 ≠ -1 → K none (N, T, R, X) := fun g => hk X fX (by
        rw [x6] at g ⊢
        have := wFd_st g (112 - k)
        rw [show k + (112 - k) = 112 by omega] at this
        exact this.symm)
      refine ⟨fun hw => ?_, fun hw x1 x2 => B_35_7 hT hR (by omega) ⟨fun c => absurd c (by omega), fun _ => ⟨fun _ => done hw, fun c => absurd hw c⟩⟩⟩
      have ok := wCd_ok k (by omega)
      have ch := zCh_ok k (by omega)
      have e1 : yadd (k : Int) 1 = ((k + 1 : Nat) : Int) := by rw [yadd_eq (by omega) (by omega)]; rfl
      have w0 : wFd (I 1 7) k = -1 := by rw [← x6]; exact hw
      have x7 : X 1 7 = I 1 7 := fX 1 7 (by omega)
      refine B_35_7 hT hR (by omega) ⟨fun c => absurd c (by omega), fun _ => ⟨fun c => absurd hw c, fun _ => ⟨by omega, by omega, fun c => ?_, fun c => ?_⟩⟩⟩
      · rw [show ((k : Int)).toNat = k by omega] at c
        have ix : wIx (k + 1) = wIx k + 1 := by show wIx k + (if (zCh k).toInt = 32 then 1 else 0) = _; rw [if_pos c]
        have cd : wCd (k + 1) = 0 := by show (if (zCh k).toInt = 32 then 0 else _) = _; rw [if_pos c]
        have ex : yadd ((wIx k : Nat) : Int) 1 = ((wIx (k + 1) : Nat) : Int) := by rw [yadd_eq (by omega) (by omega), ix]; rfl
        have nx : wFd (I 1 7) (k + 1) = if wCd k = I 1 7 then ((wIx k : Nat) : Int) else -1 := by
          show (if wFd (I 1 7) k ≠ -1 then wFd (I 1 7) k else if (zCh k).toInt = 32 ∧ wCd k = I 1 7 then (wIx k : Int) else -1) = _
          rw [if_neg (fun g => g w0)]
          by_cases g : wCd k = I 1 7
          · rw [if_pos ⟨c, g⟩, if_pos g]
          · rw [if_neg (fun q => g q.2), if_neg g]
        have cmp : ylcmp (wCd k) (X 1 7) = 0 ↔ wCd k = I 1 7 := by rw [x7]; exact ylcmp_eq ⟨by omega, by omega⟩ ⟨by omega, by omega⟩
        refine ⟨fun c2 I7 e7 => ?_, fun c2 I8 e8 => ?_⟩
        · have ne : ¬ wCd k = I 1 7 := fun g => c2 (cmp.mpr g)
          rw [if_neg ne] at nx
          have y6 : I7 1 6 = -1 := by rw [e7, yU_eq]
          have := (ih (k + 1) I7 (by omega) (fun a b g => by rw [e7, yU_ne _ _ g]; exact fX a b g) (by rw [y6, nx])).1 y6
          rw [cd, ← ex, ← e1] at this
          exact this
        · have eq : wCd k = I 1 7 := cmp.mp (by omega)
          rw [if_pos eq] at nx
          have y6 : I8 1 6 = ((wIx k : Nat) : Int) := by rw [e8, yU_eq]
          have := (ih (k + 1) I8 (by omega) (fun a b g => by rw [e8, yU_ne _ _ g]; exact fX a b g) (by rw [y6, nx])).2 (by rw [y6]; omega) (yadd ((wIx k : Nat) : Int) 1) 0
          rw [← e1] at this
          exact this
      · rw [show ((k : Int)).toNat = k by omega] at c ⊢
        have c := ch.resolve_left c
        have ix : wIx (k + 1) = wIx k := by show wIx k + (if (zCh k).toInt = 32 then 1 else 0) = _; rw [if_neg (by omega)]; rfl
        have cd : wCd (k + 1) = 32 * wCd k + ((zCh k).toInt - 96) := by show (if (zCh k).toInt = 32 then 0 else _) = _; rw [if_neg (by omega)]
        have nx : wFd (I 1 7) (k + 1) = -1 := by
          show (if wFd (I 1 7) k ≠ -1 then wFd (I 1 7) k else if (zCh k).toInt = 32 ∧ wCd k = I 1 7 then (wIx k : Int) else -1) = _
          rw [if_neg (fun g => g w0), if_neg (by omega)]
        have e2 : yladd (ylmul (wCd k) 32) (yi2l (yadd (ysub ((zCh k).toInt) 97) 1)) = wCd (k + 1) := by
          rw [ylmul_eq (by omega) (by omega), ysub_eq (by omega) (by omega), yadd_eq (by omega) (by omega), yi2l_eq (by omega) (by omega), yladd_eq (by omega) (by omega), cd]
          omega
        have := (ih (k + 1) X (by omega) fX (by rw [nx]; exact hw)).1 hw
        rw [ix] at this
        rw [e1, e2]
        exact this
  exact B_35_0 hT hR (by omega) ((loop 112 0 I rfl (fun _ _ _ => rfl) (by rw [h6]; rfl)).1 h6)
/-- Reader.advance, to the letter -/
theorem x_31 (hT : yLT T) (hR : yLR R) {n lim p : Nat} (h1 : I 1 1 = (n : Int)) (hn : n ≤ 940) (h2 : I 1 2 = (lim : Int)) (hl : lim ≤ 940) (h3 : I 1 3 = (p : Int)) (hp : p ≤ n)
    (hk : ∀ I', (∀ a b, ¬ (a = 1 ∧ 3 ≤ b ∧ b ≤ 9) → I' a b = I a b) → cTk I' (I 2) n lim p → K none (N, T, R, I')) :
    yW l zSS D cy zFk z (d + 5) 31 bc bs K 0 0 0 [(0, yr (some 1))] [] (N, T, R, I) := by
  have em : ymin (I 1 1) (I 1 2) = ((min n lim : Nat) : Int) := by
    rw [h1, h2]; unfold ymin; split <;> omega
  -- behind the white
  have fin : ∀ (q : Nat) (X : Nat → Nat → Int), (∀ a b, ¬ (a = 1 ∧ 3 ≤ b ∧ b ≤ 9) → X a b = I a b) → tSk (I 2) n p q → X 1 3 = (q : Int) → yW l zSS D cy zFk z (d + 5) 31 bc bs K 0 0 76 [(0, yr (some 1)), (1, yi ((min n lim : Nat) : Int))] [] (N, T, R, X) := by
    intro q X fX hq x3
    have qn := hq.2.1
    have es : ymin (X 1 3) ((min n lim : Nat) : Int) = ((min q (min n lim) : Nat) : Int) := by
      rw [x3]; unfold ymin; split <;> omega
    refine B_31_76 hT hR (fun I1 e1 I2 e2 I3 e3 => ?_)
    have f3 : ∀ a b, ¬ (a = 1 ∧ (b = 4 ∨ b = 5 ∨ b = 6)) → I3 a b = X a b := fun a b g => by rw [e3, yU_ne _ _ (by omega), e2, yU_ne _ _ (by omega), e1, yU_ne _ _ (by omega)]
    have y3 : I3 1 3 = (q : Int) := by rw [f3 1 3 (by omega)]; exact x3
    have y4 : I3 1 4 = ((min q (min n lim) : Nat) : Int) := by rw [e3, yU_ne _ _ (by omega), e2, yU_ne _ _ (by omega), e1, yU_eq]; exact es
    have y5 : I3 1 5 = 0 := by rw [e3, yU_ne _ _ (by omega), e2, yU_eq]
    have y6 : I3 1 6 = -1 := by rw [e3, yU_eq]
    have fI3 : ∀ a b, ¬ (a = 1 ∧ 3 ≤ b ∧ b ≤ 9) → I3 a b = I a b := fun a b g => by rw [f3 a b (by omega)]; exact fX a b g
    have stop : min n lim ≤ q → yW l zSS D cy zFk z (d + 5) 31 bc bs K 0 0 122 [(0, yr (some 1))] [] (N, T, R, I3) := fun g =>
      B_31_122 hT hR ⟨fun _ => B_31_134 hT hR (hk I3 fI3 ⟨q, hq, y4, fun _ => ⟨y5, y3, y6⟩, fun c => absurd g (by omega)⟩), fun c => absurd (by rw [y5]; decide) c⟩
    refine ⟨fun c => stop (by rw [y3] at c; omega), fun c => ⟨fun c2 => stop (by rw [y3] at c2; omega), fun c2 => ?_⟩⟩
    rw [y3] at c
    have lt : q < min n lim := by omega
    refine x_44 hT hR (n := n) (p := q) (by rw [fI3 1 1 (by omega)]; exact h1) hn y3 (by omega) (fun I4 k f4 hr a0 a1 => ⟨I4, rfl, rfl, ?_⟩)
    have t3 : I3 2 = I 2 := funext fun j => fI3 2 j (by omega)
    rw [t3] at hr a0 a1
    have fI4 : ∀ a b, ¬ (a = 1 ∧ 3 ≤ b ∧ b ≤ 9) → I4 a b = I a b := fun a b g => by rw [f4 a b (by omega)]; exact fI3 a b g
    have z4 : I4 1 4 = ((min q (min n lim) : Nat) : Int) := by rw [f4 1 4 (by omega)]; exact y4
    have z6 : I4 1 6 = -1 := by rw [f4 1 6 (by omega)]; exact y6
    by_cases k0 : k = 0
    · obtain ⟨b1, b2, b3⟩ := a0 k0
      have n2 : I4 1 5 ≠ 2 := by rw [b2]; split <;> decide
      exact B_31_122 hT hR ⟨fun _ => B_31_134 hT hR (hk I4 fI4 ⟨q, hq, z4, fun g => absurd lt (by omega), fun _ => ⟨k, hr, fun _ => ⟨b1, b2, b3, z6⟩, fun g => absurd k0 (by omega)⟩⟩), fun c => absurd n2 c⟩
    · obtain ⟨b1, b2, b3, b4⟩ := a1 (by omega)
      refine B_31_122 hT hR ⟨fun c => ?_, fun c => ?_⟩
      · exact B_31_134 hT hR (hk I4 fI4 ⟨q, hq, z4, fun g => absurd lt (by omega), fun _ => ⟨k, hr, fun g => absurd g k0, fun _ => ⟨b1, b2, fun g => absurd (b2.trans g) c, fun g => b4 (b2.trans g), fun _ => z6⟩⟩⟩)
      · have e2 : I4 1 5 = 2 := by omega
        have kd : tKd (I 2) q k = 2 := by rw [← b2]; exact e2
        have al : tN (I 2) q k = k ∧ k ≤ 7 := by
          unfold tKd at kd
          split at kd
          · rename_i g; exact g
          · split at kd <;> exact absurd kd (by decide)
        have l1 := tF_nn (b := 32) (by omega) (g := fun j => I 2 j - 96) (q := q) k (fun i hi => by have := tN_all k al.1 i hi; show 0 ≤ I 2 (q + i) - 96; omega)
        have l2 := tF_lt (b := 32) (by omega) (g := fun j => I 2 j - 96) (q := q) k (fun i hi => by have := tN_all k al.1 i hi; show 0 ≤ I 2 (q + i) - 96 ∧ I 2 (q + i) - 96 < 32; omega)
        have l3 : (32 : Int) ^ k ≤ 34359738368 := by
          have := al.2
          rcases (show k = 0 ∨ k = 1 ∨ k = 2 ∨ k = 3 ∨ k = 4 ∨ k = 5 ∨ k = 6 ∨ k = 7 by omega) with rfl | rfl | rfl | rfl | rfl | rfl | rfl | rfl <;> decide
        have e7 := b3 e2
        refine x_35 hT hR z6 (by rw [e7]; omega) (fun I5 f5 s6 => ⟨I5, rfl, rfl, B_31_134 hT hR (hk I5 (fun a b g => by rw [f5 a b (by omega)]; exact fI4 a b g) ⟨q, hq, by rw [f5 1 4 (by omega)]; exact z4, fun g => absurd lt (by omega), fun _ => ⟨k, hr, fun g => absurd g k0, fun _ => ⟨by rw [f5 1 3 (by omega)]; exact b1, by rw [f5 1 5 (by omega)]; exact b2, fun _ => ⟨by rw [f5 1 7 (by omega)]; exact e7, by rw [s6, e7]⟩, fun g => absurd (kd.symm.trans g) (by decide), fun g => absurd kd g⟩⟩⟩)⟩)
  have loop : ∀ (m q : Nat) (X : Nat → Nat → Int), q + m = n → p ≤ q → (∀ j, p ≤ j → j < q → I 2 j = 32 ∨ I 2 j = 10) → (∀ a b, ¬ (a = 1 ∧ 3 ≤ b ∧ b ≤ 9) → X a b = I a b) → X 1 3 = (q : Int) → yW l zSS D cy zFk z (d + 5) 31 bc bs K 0 0 12 [(0, yr (some 1)), (1, yi ((min n lim : Nat) : Int))] [] (N, T, R, X) := by
    intro m
    induction m with
    | zero =>
      intro q X hm hpq al fX x3
      exact B_31_12 hT hR ⟨fun _ => fin q X fX ⟨hpq, by omega, al, .inl (by omega)⟩ x3, fun c => absurd (by rw [fX 1 1 (by omega), h1, x3]; omega) c⟩
    | succ m ih =>
      intro q X hm hpq al fX x3
      have tq : X 2 (X 1 3).toNat = I 2 q := by rw [x3, show ((q : Int)).toNat = q by omega]; exact fX 2 q (by omega)
      have go : (I 2 q = 32 ∨ I 2 q = 10) → yW l zSS D cy zFk z (d + 5) 31 bc bs K 0 0 63 [(0, yr (some 1)), (1, yi ((min n lim : Nat) : Int))] [] (N, T, R, X) := fun g =>
        B_31_63 hT hR (fun I1 e1 => ih (q + 1) I1 (by omega) (by omega) (fun j h1 h2 => by
          by_cases e : j = q
          · subst e; exact g
          · exact al j h1 (by omega)) (fun a b g => by rw [e1, yU_ne _ _ (by omega)]; exact fX a b g) (by rw [e1, yU_eq, x3, yadd_eq (by omega) (by omega)]; rfl))
      refine B_31_12 hT hR ⟨fun c => absurd c (by rw [fX 1 1 (by omega), h1, x3]; omega), fun _ => ⟨fun c => absurd c (by rw [x3]; omega), fun _ => ⟨by rw [x3]; omega, by rw [x3]; omega, fun c => go (.inl (by rw [← tq]; exact c)), fun c => ⟨by rw [x3]; omega, by rw [x3]; omega, fun c2 => ?_, fun c2 => go (.inr (by rw [← tq]; omega))⟩⟩⟩⟩
      rw [tq] at c c2
      exact fin q X fX ⟨hpq, by omega, al, .inr (by omega)⟩ x3
  refine B_31_0 hT hR ?_
  rw [em]
  exact loop (n - p) p I (by omega) (Nat.le_refl _) (fun j h1 h2 => absurd h1 (by omega)) (fun _ _ _ => rfl) h3
end Xa
