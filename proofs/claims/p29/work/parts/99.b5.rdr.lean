/-! THE CLASS's READER by TOKENS -/
set_option maxRecDepth 100000 in
theorem wCd_rCd : ∀ i, i < 112 → (zCh i).toInt = 32 → wCd i = cv 7 (rCd (wIx i)) ∧ wIx i < 24 := by decide +kernel
set_option maxRecDepth 100000 in
theorem wIx_112 : wIx 112 = 24 := by decide +kernel
theorem wFd_ix (C : Int) : ∀ i, i ≤ 112 → wFd C i = ((List.range (wIx i)).find? (fun j => decide (cv 7 (rCd j) = C))).elim (-1) (fun j => (j : Int)) := by
  intro i
  induction i with
  | zero => intro _; rfl
  | succ i ih =>
    intro h
    have g := ih (by omega)
    have e : wFd C (i + 1) = if wFd C i ≠ -1 then wFd C i else if (zCh i).toInt = 32 ∧ wCd i = C then (wIx i : Int) else -1 := rfl
    by_cases c : (zCh i).toInt = 32
    · have ix : wIx (i + 1) = wIx i + 1 := by show wIx i + (if (zCh i).toInt = 32 then 1 else 0) = _; rw [if_pos c]
      obtain ⟨w, -⟩ := wCd_rCd i (by omega) c
      rw [ix, List.range_succ, List.find?_append, e]
      cases hf : (List.range (wIx i)).find? (fun j => decide (cv 7 (rCd j) = C)) with
      | some j =>
        rw [hf] at g
        have g : wFd C i = (j : Int) := g
        rw [if_pos (by rw [g]; omega), g]
        rfl
      | none =>
        rw [hf] at g
        have g : wFd C i = -1 := g
        rw [if_neg (fun q => q g)]
        by_cases k : wCd i = C
        · rw [if_pos ⟨c, k⟩]
          have : decide (cv 7 (rCd (wIx i)) = C) = true := by rw [← w]; exact decide_eq_true k
          simp [List.find?, this]
        · rw [if_neg (fun q => k q.2)]
          have : decide (cv 7 (rCd (wIx i)) = C) = false := by rw [← w]; exact decide_eq_false k
          simp [List.find?, this]
    · have ix : wIx (i + 1) = wIx i := by show wIx i + (if (zCh i).toInt = 32 then 1 else 0) = _; rw [if_neg c]; rfl
      rw [ix, ← g, e]
      by_cases k : wFd C i = -1
      · rw [if_neg (fun q => q k), if_neg (fun q => c q.1), k]
      · rw [if_pos k]
/-- where a WORD stands in WORDS, how long it is -/
def rPl (i : Nat) : Nat × Nat := ([(0, 4), (5, 4), (10, 6), (17, 4), (22, 4), (27, 5), (33, 5), (39, 4), (44, 3), (48, 4), (53, 4), (58, 4), (63, 1), (65, 1), (67, 1), (69, 1), (71, 2), (74, 3), (78, 3), (82, 5), (88, 5), (94, 5), (100, 5), (106, 5)] : List (Nat × Nat)).getD i (0, 0)
set_option maxRecDepth 100000 in
theorem rPl_ok : ∀ i, i < 24 → 0 < (rPl i).2 ∧ (rPl i).2 ≤ 7 ∧ (∀ j, j < (rPl i).2 → tL ((zCh ((rPl i).1 + j)).toInt)) ∧ rCd i = tF 256 (fun j => (zCh j).toInt) (rPl i).1 (rPl i).2 := by decide +kernel
theorem rCd_w {i : Nat} (h : i < 24) : isW (rCd i) := by
  obtain ⟨a, b, c, d⟩ := rPl_ok i h
  exact ⟨_, _, _, a, b, c, d⟩
theorem find_cg {f g : Nat → Bool} : ∀ l : List Nat, (∀ x ∈ l, f x = g x) → l.find? f = l.find? g := by
  intro l
  induction l with
  | nil => intro _; rfl
  | cons a t ih =>
    intro h
    rw [List.find?_cons, List.find?_cons, h a List.mem_cons_self, ih (fun x hx => h x (List.mem_cons_of_mem _ hx))]
theorem wFd_rIx {v : Int} (hv : isW v) : wFd (cv 7 v) 112 = rIx v := by
  rw [wFd_ix _ 112 (Nat.le_refl _), wIx_112]
  unfold rIx
  rw [find_cg _ (fun x hx => ?_)]
  have hx := List.mem_range.mp hx
  have := cv_inj (rCd_w hx) hv
  by_cases g : rCd x = v
  · rw [decide_eq_true g, decide_eq_true (this.mpr g)]
  · rw [decide_eq_false g, decide_eq_false (fun q => g (this.mp q))]
theorem cTk_h {I : Nat → Nat → Int} {t : Nat → Int} {n lim p : Nat} {x : Tk} (k : kTok t n lim p x) (e4 : I 1 4 = ((x.2.1 : Nat) : Int)) (e3 : I 1 3 = ((x.2.2.2 : Nat) : Int))
    (h : (x.1 = 0 ∧ I 1 5 = 0 ∧ n ≤ lim) ∨ (x.1 = 4 ∧ I 1 5 = 0 ∧ ¬ n ≤ lim) ∨ (x.1 = 4 ∧ I 1 5 = 1) ∨ (x.1 = 1 ∧ I 1 5 = 2) ∨ (x.1 = 2 ∧ I 1 5 = 3) ∨ (x.1 = 3 ∧ I 1 5 = 4)) (h5 : (I 1 5 = 0 ∧ min n lim ≤ x.2.2.2 ∧ x.2.1 = min n lim) ∨ (I 1 5 ≠ 0 ∧ x.2.1 < min n lim))
    (h7 : x.1 = 1 → I 1 7 = cv 7 x.2.2.1 ∧ I 1 6 = rIx x.2.2.1 ∧ isW x.2.2.1) (h8 : x.1 = 2 → I 1 8 = x.2.2.1 ∧ 0 ≤ x.2.2.1 ∧ x.2.2.1 < 1000) (h9 : x.1 = 3 → I 1 9 = x.2.2.1) (h6 : x.1 ≠ 1 → I 1 6 = -1) (hp : p ≤ x.2.2.2 ∧ x.2.2.2 ≤ n ∧ (I 1 5 ≠ 0 → p < x.2.2.2)) :
    kTok t n lim p (tk t n lim p) ∧ I 1 4 = (((tk t n lim p).2.1 : Nat) : Int) ∧ I 1 3 = (((tk t n lim p).2.2.2 : Nat) : Int) ∧
    (I 1 5 = 2 ↔ (tk t n lim p).1 = 1) ∧ (I 1 5 = 3 ↔ (tk t n lim p).1 = 2) ∧ (I 1 5 = 4 ↔ (tk t n lim p).1 = 3) ∧
    (I 1 5 = 0 ↔ min n lim ≤ (tk t n lim p).2.2.2 ∧ (tk t n lim p).2.1 = min n lim) ∧ ((tk t n lim p).1 = 0 ↔ I 1 5 = 0 ∧ n ≤ lim) ∧
    ((tk t n lim p).1 = 1 → I 1 7 = cv 7 (tk t n lim p).2.2.1 ∧ I 1 6 = rIx (tk t n lim p).2.2.1 ∧ isW (tk t n lim p).2.2.1) ∧
    ((tk t n lim p).1 = 2 → I 1 8 = (tk t n lim p).2.2.1 ∧ 0 ≤ (tk t n lim p).2.2.1 ∧ (tk t n lim p).2.2.1 < 1000) ∧
    ((tk t n lim p).1 = 3 → I 1 9 = (tk t n lim p).2.2.1) ∧ ((tk t n lim p).1 ≠ 1 → I 1 6 = -1) ∧ p ≤ (tk t n lim p).2.2.2 ∧ (tk t n lim p).2.2.2 ≤ n ∧ (I 1 5 ≠ 0 → p < (tk t n lim p).2.2.2) := by
  rw [tk_eq k]
  exact ⟨k, e4, e3, ⟨fun _ => by omega, fun _ => by omega⟩, ⟨fun _ => by omega, fun _ => by omega⟩, ⟨fun _ => by omega, fun _ => by omega⟩, ⟨fun _ => by omega, fun _ => by omega⟩, ⟨fun _ => by omega, fun _ => by omega⟩, h7, h8, h9, h6, hp⟩
/-- what the class's reader holds of the TOKEN -/
theorem cTk_tk {I : Nat → Nat → Int} {t : Nat → Int} {n lim p : Nat} (h : cTk I t n lim p) :
    kTok t n lim p (tk t n lim p) ∧ I 1 4 = (((tk t n lim p).2.1 : Nat) : Int) ∧ I 1 3 = (((tk t n lim p).2.2.2 : Nat) : Int) ∧
    (I 1 5 = 2 ↔ (tk t n lim p).1 = 1) ∧ (I 1 5 = 3 ↔ (tk t n lim p).1 = 2) ∧ (I 1 5 = 4 ↔ (tk t n lim p).1 = 3) ∧
    (I 1 5 = 0 ↔ min n lim ≤ (tk t n lim p).2.2.2 ∧ (tk t n lim p).2.1 = min n lim) ∧ ((tk t n lim p).1 = 0 ↔ I 1 5 = 0 ∧ n ≤ lim) ∧
    ((tk t n lim p).1 = 1 → I 1 7 = cv 7 (tk t n lim p).2.2.1 ∧ I 1 6 = rIx (tk t n lim p).2.2.1 ∧ isW (tk t n lim p).2.2.1) ∧
    ((tk t n lim p).1 = 2 → I 1 8 = (tk t n lim p).2.2.1 ∧ 0 ≤ (tk t n lim p).2.2.1 ∧ (tk t n lim p).2.2.1 < 1000) ∧
    ((tk t n lim p).1 = 3 → I 1 9 = (tk t n lim p).2.2.1) ∧ ((tk t n lim p).1 ≠ 1 → I 1 6 = -1) ∧ p ≤ (tk t n lim p).2.2.2 ∧ (tk t n lim p).2.2.2 ≤ n ∧ (I 1 5 ≠ 0 → p < (tk t n lim p).2.2.2) := by
  obtain ⟨q, hq, h4, hs, hr⟩ := h
  have pq := hq.1
  have qn := hq.2.1
  by_cases c : min n lim ≤ q
  · obtain ⟨a5, a3, a6⟩ := hs c
    have e4 : I 1 4 = ((min n lim : Nat) : Int) := by rw [h4, Nat.min_eq_right c]
    by_cases nl : n ≤ lim
    · have k : kTok t n lim p (0, min n lim, 0, q) := ⟨q, hq, .inl ⟨c, by rw [if_pos nl]⟩⟩
      exact cTk_h k e4 a3 (.inl ⟨rfl, a5, nl⟩) (.inl ⟨a5, c, rfl⟩) (fun g => absurd g (by decide : ¬ ((0 : Nat) = 1))) (fun g => absurd g (by decide : ¬ ((0 : Nat) = 2))) (fun g => absurd g (by decide : ¬ ((0 : Nat) = 3))) (fun _ => a6) ⟨pq, qn, fun g => absurd a5 g⟩
    · have k : kTok t n lim p (4, min n lim, 0, q) := ⟨q, hq, .inl ⟨c, by rw [if_neg nl]⟩⟩
      exact cTk_h k e4 a3 (.inr (.inl ⟨rfl, a5, nl⟩)) (.inl ⟨a5, c, rfl⟩) (fun g => absurd g (by decide : ¬ ((4 : Nat) = 1))) (fun g => absurd g (by decide : ¬ ((4 : Nat) = 2))) (fun g => absurd g (by decide : ¬ ((4 : Nat) = 3))) (fun _ => a6) ⟨pq, qn, fun g => absurd a5 g⟩
  · obtain ⟨k, hk, k0, k1⟩ := hr (by omega)
    have kn := hk.1
    have lt : q < min n lim := by omega
    have e4 : I 1 4 = ((q : Nat) : Int) := by rw [h4, Nat.min_eq_left (by omega)]
    by_cases z : k = 0
    · obtain ⟨a3, a5, a9, a6⟩ := k0 z
      by_cases g : tS (t q)
      · rw [if_pos g] at a5
        have kt : kTok t n lim p (3, q, t q, q + 1) := ⟨q, hq, .inr ⟨lt, k, hk, .inl ⟨z, by rw [if_pos g, if_pos g]⟩⟩⟩
        exact cTk_h kt e4 a3 (.inr (.inr (.inr (.inr (.inr ⟨rfl, a5⟩))))) (.inr ⟨by rw [a5]; decide, lt⟩) (fun g => absurd g (by decide : ¬ ((3 : Nat) = 1))) (fun g => absurd g (by decide : ¬ ((3 : Nat) = 2))) (fun _ => a9) (fun _ => a6) ⟨Nat.le_succ_of_le pq, by show q + 1 ≤ n; omega, fun _ => by show p < q + 1; omega⟩
      · rw [if_neg g] at a5
        have kt : kTok t n lim p (4, q, 0, q + 1) := ⟨q, hq, .inr ⟨lt, k, hk, .inl ⟨z, by rw [if_neg g, if_neg g]⟩⟩⟩
        exact cTk_h kt e4 a3 (.inr (.inr (.inl ⟨rfl, a5⟩))) (.inr ⟨by rw [a5]; decide, lt⟩) (fun g => absurd g (by decide : ¬ ((4 : Nat) = 1))) (fun g => absurd g (by decide : ¬ ((4 : Nat) = 2))) (fun g => absurd g (by decide : ¬ ((4 : Nat) = 3))) (fun _ => a6) ⟨Nat.le_succ_of_le pq, by show q + 1 ≤ n; omega, fun _ => by show p < q + 1; omega⟩
    · obtain ⟨a3, a5, a7, a8, a6⟩ := k1 (by omega)
      have kd : tKd t q k = 2 ∨ tKd t q k = 3 ∨ tKd t q k = 1 := by
        unfold tKd
        split
        · exact .inl rfl
        · split
          · exact .inr (.inl rfl)
          · exact .inr (.inr rfl)
      have e2 : ¬ ((3 : Int) = 2) := by decide
      have e1 : ¬ ((1 : Int) = 2) := by decide
      have e3 : ¬ ((1 : Int) = 3) := by decide
      have hp : p ≤ q + k ∧ q + k ≤ n ∧ (I 1 5 ≠ 0 → p < q + k) := ⟨by omega, kn, fun _ => by omega⟩
      rcases kd with e | e | e
      · have w : isW (tF 256 t q k) ∧ cv 7 (tF 256 t q k) = tF 32 (fun j => t j - 96) q k := by
          unfold tKd at e
          split at e
          · rename_i g
            have al := tN_all k g.1
            exact ⟨⟨t, q, k, by omega, g.2, al, rfl⟩, cv_tF k 7 g.2 al⟩
          · split at e <;> exact absurd e (by decide)
        obtain ⟨b1, b2⟩ := a7 e
        have kt : kTok t n lim p (1, q, tF 256 t q k, q + k) := ⟨q, hq, .inr ⟨lt, k, hk, .inr ⟨by omega, by rw [e]; rfl⟩⟩⟩
        exact cTk_h kt e4 a3 (.inr (.inr (.inr (.inl ⟨rfl, by rw [a5, e]⟩)))) (.inr ⟨by rw [a5, e]; decide, lt⟩) (fun _ => ⟨by rw [b1, w.2], by rw [b2, ← w.2]; exact wFd_rIx w.1, w.1⟩) (fun g => absurd g (by decide : ¬ ((1 : Nat) = 2))) (fun g => absurd g (by decide : ¬ ((1 : Nat) = 3))) (fun g => absurd rfl g) hp
      · have l : 0 ≤ tF 10 (fun j => t j - 48) q k ∧ tF 10 (fun j => t j - 48) q k < 1000 := by
          unfold tKd at e
          split at e
          · exact absurd e (by decide)
          · split at e
            · rename_i g
              have al : ∀ i, i < k → tD (t (q + i)) := fun i hi => (hk.2.1 i hi).resolve_left (tN_none k g.1 i hi)
              have l1 := tF_nn (b := 10) (by omega) (g := fun j => t j - 48) (q := q) k (fun i hi => by have := al i hi; show 0 ≤ t (q + i) - 48; omega)
              have l2 := tF_lt (b := 10) (by omega) (g := fun j => t j - 48) (q := q) k (fun i hi => by have := al i hi; show 0 ≤ t (q + i) - 48 ∧ t (q + i) - 48 < 10; omega)
              have l3 : (10 : Int) ^ k ≤ 1000 := by
                have := g.2
                rcases (show k = 0 ∨ k = 1 ∨ k = 2 ∨ k = 3 by omega) with rfl | rfl | rfl | rfl <;> decide
              exact ⟨l1, Int.lt_of_lt_of_le l2 l3⟩
            · exact absurd e (by decide)
        have kt : kTok t n lim p (2, q, tF 10 (fun j => t j - 48) q k, q + k) := ⟨q, hq, .inr ⟨lt, k, hk, .inr ⟨by omega, by rw [e]; rfl⟩⟩⟩
        exact cTk_h kt e4 a3 (.inr (.inr (.inr (.inr (.inl ⟨rfl, by rw [a5, e]⟩))))) (.inr ⟨by rw [a5, e]; decide, lt⟩) (fun g => absurd g (by decide : ¬ ((2 : Nat) = 1))) (fun _ => ⟨a8 e, l⟩) (fun g => absurd g (by decide : ¬ ((2 : Nat) = 3))) (fun _ => a6 (by omega)) hp
      · have kt : kTok t n lim p (4, q, 0, q + k) := ⟨q, hq, .inr ⟨lt, k, hk, .inr ⟨by omega, by rw [e]; rfl⟩⟩⟩
        exact cTk_h kt e4 a3 (.inr (.inr (.inl ⟨rfl, by rw [a5, e]⟩))) (.inr ⟨by rw [a5, e]; decide, lt⟩) (fun g => absurd g (by decide : ¬ ((4 : Nat) = 1))) (fun g => absurd g (by decide : ¬ ((4 : Nat) = 2))) (fun g => absurd g (by decide : ¬ ((4 : Nat) = 3))) (fun _ => a6 (by omega)) hp
