/-! SENTENCE read by a stack (pure), and that it says the same -/
/-- nots on the stack are done -/
def jNots : List Int → Sn → List Int × Sn
  | [], s => ([], s)
  | w :: k, s => if w = 18 then jNots k (sAdd s 18 0 0) else (w :: k, s)
/-- so are joints that bind as much as till, or more -/
def jJoins (till : Int) : List Int → Sn → List Int × Sn
  | [], s => ([], s)
  | w :: k, s => if w = 17 ∨ (w = 16 ∧ till = 16) then jJoins till k (sAdd s w 0 0) else (w :: k, s)
def jDeep : List Int → Nat
  | [] => 1
  | w :: k => if w = 18 ∨ w = 40 then jDeep k + 1 else jDeep k
section Sp
variable (tk : Nat → Tk) (S : Ld)
def jRun : Nat → List Int → Sn → Nat → Bool → Option (Rs Sn)
  | 0, _, _, _, _ => none
  | m + 1, k, s, p, true =>
    if (tk p).1 = 0 then
      (if (jJoins 16 (jNots k s).1 (jNots k s).2).1 = [] then some (.inr (jJoins 16 (jNots k s).1 (jNots k s).2).2) else some (.inl (1, (tk p).2.1)))
    else if kIsW tk 16 17 p then
      jRun m (rIx (tk p).2.2.1 :: (jJoins (rIx (tk p).2.2.1) (jNots k s).1 (jNots k s).2).1) (jJoins (rIx (tk p).2.2.1) (jNots k s).1 (jNots k s).2).2 (tk p).2.2.2 false
    else if ¬ kIsS tk 41 p ∨ (jJoins 16 (jNots k s).1 (jNots k s).2).1 = [] then some (.inl (1, (tk p).2.1))
    else jRun m (jJoins 16 (jNots k s).1 (jNots k s).2).1.tail (jJoins 16 (jNots k s).1 (jNots k s).2).2 (tk p).2.2.2 true
  | m + 1, k, s, p, false =>
    if ¬ kBegins tk p then some (.inl (1, (tk p).2.1)) else
    if s.1 = 20 ∨ 8 < jDeep k then some (.inl (4, (tk p).2.1)) else
    if kIsW tk 18 18 p then jRun m (18 :: k) (sOne s) (tk p).2.2.2 false else
    if kIsS tk 40 p then jRun m (40 :: k) (sOne s) (tk p).2.2.2 false else
    match kPlain tk S (sOne s) (rIx (tk p).2.2.1) (tk p).2.2.2 with
    | .inl f => some (.inl f)
    | .inr (s2, p2) => jRun m k s2 p2 true
/-- it comes to r -/
def jGo (k : List Int) (s : Sn) (p : Nat) (w : Bool) (r : Rs Sn) : Prop := ∃ m, jRun tk S m k s p w = some r
def jTo (x : Rs (Sn × Nat)) (k : List Int) (r : Rs Sn) : Prop := match x with
  | .inl f => r = .inl f
  | .inr (s, p) => jGo tk S k s p true r
end Sp
section Sq
variable {tk : Nat → Tk} {S : Ld} {n : Nat}
theorem jNots_18 (k : List Int) (s : Sn) : jNots (18 :: k) s = jNots k (sAdd s 18 0 0) := by rw [jNots, if_pos rfl]
theorem jNots_ne {k : List Int} {s : Sn} (h : k.head? ≠ some 18) : jNots k s = (k, s) := by
  cases k with
  | nil => rfl
  | cons w k =>
    rw [jNots]
    exact if_neg (fun q => h (by subst q; rfl))
theorem jJoins_17 (t : Int) (k : List Int) (s : Sn) : jJoins t (17 :: k) s = jJoins t k (sAdd s 17 0 0) := by
  rw [jJoins]
  exact if_pos (.inl rfl)
theorem jJoins_16 (k : List Int) (s : Sn) : jJoins 16 (16 :: k) s = jJoins 16 k (sAdd s 16 0 0) := by
  rw [jJoins]
  exact if_pos (.inr ⟨rfl, rfl⟩)
theorem jJoins_ne {t : Int} {k : List Int} {s : Sn} (h1 : k.head? ≠ some 17) (h2 : k.head? ≠ some 16 ∨ t ≠ 16) : jJoins t k s = (k, s) := by
  cases k with
  | nil => rfl
  | cons w k =>
    rw [jJoins, if_neg]
    intro q
    rcases q with q | ⟨q, q2⟩
    · exact h1 (by subst q; rfl)
    · rcases h2 with h2 | h2
      · exact h2 (by subst q; rfl)
      · exact h2 q2
theorem jStep_stop {m : Nat} {k k' : List Int} {s s' : Sn} {p : Nat} (c0 : (tk p).1 = 0) (hj : jJoins 16 (jNots k s).1 (jNots k s).2 = (k', s')) : jRun tk S (m + 1) k s p true = if k' = [] then some (.inr s') else some (.inl (1, (tk p).2.1)) := by
  rw [jRun, if_pos c0, hj] <;> rfl
theorem jStep_join {m : Nat} {k k' : List Int} {s s' : Sn} {p : Nat} (hw : kIsW tk 16 17 p) (hj : jJoins (rIx (tk p).2.2.1) (jNots k s).1 (jNots k s).2 = (k', s')) : jRun tk S (m + 1) k s p true = jRun tk S m (rIx (tk p).2.2.1 :: k') s' (tk p).2.2.2 false := by
  have c0 : ¬ (tk p).1 = 0 := fun q => absurd (hw.1.symm.trans q) (by decide)
  rw [jRun, if_neg c0, if_pos hw, hj] <;> rfl
theorem jStep_close {m : Nat} {k k' : List Int} {s s' : Sn} {p : Nat} (c0 : ¬ (tk p).1 = 0) (nw : ¬ kIsW tk 16 17 p) (hj : jJoins 16 (jNots k s).1 (jNots k s).2 = (k', s')) : jRun tk S (m + 1) k s p true = if ¬ kIsS tk 41 p ∨ k' = [] then some (.inl (1, (tk p).2.1)) else jRun tk S m k'.tail s' (tk p).2.2.2 true := by
  rw [jRun, if_neg c0, if_neg nw, hj] <;> rfl
/-- whole, what is done first doesn't matter -/
theorem jGo_cg {k k' : List Int} {s s' : Sn} {p : Nat} {r : Rs Sn} (h1 : ∀ t, (t = 17 → kIsW tk 17 17 p) → jJoins t (jNots k s).1 (jNots k s).2 = jJoins t (jNots k' s').1 (jNots k' s').2) (h : jGo tk S k' s' p true r) : jGo tk S k s p true r := by
  obtain ⟨m, h⟩ := h
  cases m with
  | zero => rw [jRun] at h; cases h
  | succ m =>
    refine ⟨m + 1, ?_⟩
    rw [jRun] at h ⊢
    have e16 := h1 16 (fun q => absurd q (by decide))
    by_cases c0 : (tk p).1 = 0
    · rw [if_pos c0] at h ⊢
      rw [e16]; exact h
    · rw [if_neg c0] at h ⊢
      by_cases c1 : kIsW tk 16 17 p
      · rw [if_pos c1] at h ⊢
        rw [h1 (rIx (tk p).2.2.1) (fun q => ⟨c1.1, by omega, by omega⟩)]; exact h
      · rw [if_neg c1] at h ⊢
        rw [e16]; exact h
theorem jGo_18 {k : List Int} {s : Sn} {p : Nat} {r : Rs Sn} (h : jGo tk S k (sAdd s 18 0 0) p true r) : jGo tk S (18 :: k) s p true r :=
  jGo_cg (fun t _ => by rw [jNots_18]) h
theorem jGo_17 {k : List Int} {s : Sn} {p : Nat} {r : Rs Sn} (hk : k.head? ≠ some 18) (h : jGo tk S k (sAdd s 17 0 0) p true r) : jGo tk S (17 :: k) s p true r := by
  refine jGo_cg (fun t _ => ?_) h
  rw [jNots_ne (k := 17 :: k) (fun q => absurd (Option.some.inj q) (by decide)), jNots_ne hk]
  exact jJoins_17 t k s
theorem jGo_16 {k : List Int} {s : Sn} {p : Nat} {r : Rs Sn} (hk : k.head? ≠ some 18) (c : ¬ kIsW tk 17 17 p) (h : jGo tk S k (sAdd s 16 0 0) p true r) : jGo tk S (16 :: k) s p true r := by
  obtain ⟨m, h⟩ := h
  cases m with
  | zero => rw [jRun] at h; cases h
  | succ m =>
    refine ⟨m + 1, ?_⟩
    rw [jRun] at h ⊢
    have e16 : jJoins 16 (jNots (16 :: k) s).1 (jNots (16 :: k) s).2 = jJoins 16 (jNots k (sAdd s 16 0 0)).1 (jNots k (sAdd s 16 0 0)).2 := by
      rw [jNots_ne (k := 16 :: k) (fun q => absurd (Option.some.inj q) (by decide)), jNots_ne hk]
      exact jJoins_16 k s
    by_cases c0 : (tk p).1 = 0
    · rw [if_pos c0] at h ⊢
      rw [e16]; exact h
    · rw [if_neg c0] at h ⊢
      by_cases c1 : kIsW tk 16 17 p
      · have e : rIx (tk p).2.2.1 = 16 := by
          obtain ⟨a, b, d⟩ := c1
          by_cases q : rIx (tk p).2.2.1 = 17
          · exact absurd ⟨a, by omega, by omega⟩ c
          · omega
        rw [if_pos c1] at h ⊢
        rw [e] at h ⊢
        rw [e16]; exact h
      · rw [if_neg c1] at h ⊢
        rw [e16]; exact h
/-- ONE, read with the stack k -/
def jOne (tk : Nat → Tk) (S : Ld) (n e : Nat) (one : Sn → Nat → Rs (Sn × Nat)) : Prop := ∀ (k : List Int) (s : Sn) (p : Nat) (r : Rs Sn), jDeep k + e = 9 → p ≤ n → s.1 ≤ 20 → jTo tk S (one s p) k r → jGo tk S k s p false r
variable {e : Nat} {one : Sn → Nat → Rs (Sn × Nat)}
theorem jAnd (H : tGo tk n) (g : sGd n one) (h : jOne tk S n e one) {k : List Int} (h8 : k.head? ≠ some 18) (h7 : k.head? ≠ some 17) (hd : jDeep k + e = 9) : ∀ (m : Nat) {s : Sn} {p : Nat} {r : Rs Sn}, p ≤ n → s.1 ≤ 20 → jTo tk S (kLoop tk one 17 m s p) k r → jGo tk S k s p true r := by
  intro m
  induction m with
  | zero => intro s p r hp h20 q; rw [kLoop] at q; exact q
  | succ m ih =>
    intro s p r hp h20 q
    rw [kLoop] at q
    by_cases c : kIsW tk 17 17 p
    · rw [if_pos c] at q
      have d17 : jDeep (17 :: k) = jDeep k := by
        rw [jDeep]
        exact if_neg (by decide)
      have step : jGo tk S (17 :: k) s (tk p).2.2.2 false r := by
        refine h (17 :: k) s _ r (by rw [d17]; exact hd) (H p hp).2 h20 ?_
        unfold jTo
        split at q
        · rename_i f h1
          rw [h1]; exact q
        · rename_i s2 p2 h1
          rw [h1]
          obtain ⟨a1, a2, a3, a4⟩ := g s _ s2 p2 (H p hp).2 h1
          exact jGo_17 h8 (@ih (sAdd s2 17 0 0) p2 r a4 a2 q)
      obtain ⟨m', step⟩ := step
      refine ⟨m' + 1, ?_⟩
      have e17 : rIx (tk p).2.2.1 = 17 := by have := c.2; omega
      have hw : kIsW tk 16 17 p := ⟨c.1, by omega, by omega⟩
      have hj : jJoins (rIx (tk p).2.2.1) (jNots k s).1 (jNots k s).2 = (k, s) := by
        rw [jNots_ne h8]; exact jJoins_ne h7 (.inr (by omega))
      rw [jStep_join hw hj, e17]
      exact step
    · rw [if_neg c] at q; exact q
theorem jSeq (H : tGo tk n) (g : sGd n one) (h : jOne tk S n e one) {k : List Int} (h8 : k.head? ≠ some 18) (h7 : k.head? ≠ some 17) (hd : jDeep k + e = 9) {s : Sn} {p : Nat} {r : Rs Sn} (hp : p ≤ n) (h20 : s.1 ≤ 20) (q : jTo tk S (kSeq tk one 17 s p) k r) : jGo tk S k s p false r := by
  refine h k s p r hd hp h20 ?_
  unfold kSeq at q
  split at q
  · rename_i f h1
    rw [h1]; exact q
  · rename_i s2 p2 h1
    rw [h1]
    obtain ⟨a1, a2, a3, a4⟩ := g s p s2 p2 hp h1
    exact jAnd H g h h8 h7 hd 20 a4 a2 q
theorem jOr (H : tGo tk n) (g : sGd n one) (h : jOne tk S n e one) {k : List Int} (h8 : k.head? ≠ some 18) (h7 : k.head? ≠ some 17) (h6 : k.head? ≠ some 16) (hd : jDeep k + e = 9) : ∀ (m : Nat) {s : Sn} {p : Nat} {r : Rs Sn}, p ≤ n → s.1 ≤ 20 → ¬ kIsW tk 17 17 p → jTo tk S (kLoop tk (kSeq tk one 17) 16 m s p) k r → jGo tk S k s p true r := by
  intro m
  induction m with
  | zero => intro s p r hp h20 _ q; rw [kLoop] at q; exact q
  | succ m ih =>
    intro s p r hp h20 nc q
    rw [kLoop] at q
    by_cases c : kIsW tk 16 16 p
    · rw [if_pos c] at q
      have d16 : jDeep (16 :: k) = jDeep k := by
        rw [jDeep]
        exact if_neg (by decide)
      have step : jGo tk S (16 :: k) s (tk p).2.2.2 false r := by
        refine jSeq H g h (k := 16 :: k) (fun q => absurd (Option.some.inj q) (by decide)) (fun q => absurd (Option.some.inj q) (by decide)) (by rw [d16]; exact hd) (H p hp).2 h20 ?_
        unfold jTo
        split at q
        · rename_i f h1
          rw [h1]; exact q
        · rename_i s2 p2 h1
          rw [h1]
          obtain ⟨a1, a2, a3, a4⟩ := kSeq_gd H g 17 s _ s2 p2 (H p hp).2 h1
          have en := kSeq_end H g (H p hp).2 h1
          exact jGo_16 h8 en (@ih (sAdd s2 16 0 0) p2 r a4 a2 en q)
      obtain ⟨m', step⟩ := step
      refine ⟨m' + 1, ?_⟩
      have e16 : rIx (tk p).2.2.1 = 16 := by have := c.2; omega
      have hw : kIsW tk 16 17 p := ⟨c.1, by omega, by omega⟩
      have hj : jJoins (rIx (tk p).2.2.1) (jNots k s).1 (jNots k s).2 = (k, s) := by
        rw [jNots_ne h8]; exact jJoins_ne h7 (.inl h6)
      rw [jStep_join hw hj, e16]
      exact step
    · rw [if_neg c] at q; exact q
/-- a COND, with the stack k -/
theorem jCond (H : tGo tk n) (g : sGd n one) (h : jOne tk S n e one) {k : List Int} (h8 : k.head? ≠ some 18) (h7 : k.head? ≠ some 17) (h6 : k.head? ≠ some 16) (hd : jDeep k + e = 9) {s : Sn} {p : Nat} {r : Rs Sn} (hp : p ≤ n) (h20 : s.1 ≤ 20) (q : jTo tk S (kSeq tk (kSeq tk one 17) 16 s p) k r) : jGo tk S k s p false r := by
  refine jSeq H g h h8 h7 hd hp h20 ?_
  rw [kSeq] at q
  cases h1 : kSeq tk one 17 s p with
  | inl f => rw [h1] at q; exact q
  | inr x =>
    obtain ⟨s2, p2⟩ := x
    rw [h1] at q
    have q : jTo tk S (kLoop tk (kSeq tk one 17) 16 20 s2 p2) k r := q
    show jGo tk S k s2 p2 true r
    obtain ⟨a1, a2, a3, a4⟩ := kSeq_gd H g 17 s p s2 p2 hp h1
    exact jOr H g h h8 h7 h6 hd 20 a4 a2 (kSeq_end H g hp h1) q
theorem jOne_all (H : tGo tk n) : ∀ e, jOne tk S n e (kOne tk S e) := by
  intro e
  induction e with
  | zero =>
    intro k s p r hd hp h20 q
    refine ⟨1, ?_⟩
    rw [jRun]
    rw [kOne] at q
    by_cases c : kBegins tk p
    · have nn : ¬ ¬ kBegins tk p := fun w => w c
      have n4 : s.1 = 20 ∨ 8 < jDeep k := .inr (by omega)
      rw [if_neg nn] at q ⊢
      rw [if_pos n4]
      have q : r = .inl (4, (tk p).2.1) := q
      rw [q]
    · rw [if_pos c] at q ⊢
      have q : r = .inl (1, (tk p).2.1) := q
      rw [q]
  | succ e ih =>
    intro k s p r hd hp h20 q
    rw [kOne] at q
    have g := (H p hp).2
    by_cases c : kBegins tk p
    · have nn : ¬ ¬ kBegins tk p := fun w => w c
      rw [if_neg nn] at q
      by_cases c20 : 20 ≤ s.1
      · rw [if_pos c20] at q
        refine ⟨1, ?_⟩
        have n4 : s.1 = 20 ∨ 8 < jDeep k := .inl (by omega)
        rw [jRun, if_neg nn, if_pos n4]
        have q : r = .inl (4, (tk p).2.1) := q
        rw [q]
      · rw [if_neg c20] at q
        have n4 : ¬ (s.1 = 20 ∨ 8 < jDeep k) := by omega
        have o20 : (sOne s).1 ≤ 20 := by show s.1 + 1 ≤ 20; omega
        by_cases c40 : kIsS tk 40 p
        · rw [if_pos c40] at q
          have n18 : ¬ kIsW tk 18 18 p := fun w => absurd (w.1.symm.trans c40.1) (by decide)
          have d40 : jDeep (40 :: k) = jDeep k + 1 := by
            rw [jDeep]
            exact if_pos (.inr rfl)
          have step : jGo tk S (40 :: k) (sOne s) (tk p).2.2.2 false r := by
            refine jCond H (kOne_gd H e) ih (k := 40 :: k) (fun q => absurd (Option.some.inj q) (by decide)) (fun q => absurd (Option.some.inj q) (by decide)) (fun q => absurd (Option.some.inj q) (by decide)) (by rw [d40]; omega) g o20 ?_
            unfold jTo
            split at q
            · rename_i f h1
              rw [h1]; exact q
            · rename_i s2 p2 h1
              rw [h1]
              have en7 : ¬ kIsW tk 17 17 p2 := by
                have h1 := h1
                rw [kSeq] at h1
                split at h1
                · cases h1
                · rename_i s1 p1 h0
                  have h0 : kSeq tk (kOne tk S e) 17 (sOne s) (tk p).2.2.2 = .inr (s1, p1) := h0
                  exact kLoop_end H (kSeq_gd H (kOne_gd H e) 17) (E := fun p' => ¬ kIsW tk 17 17 p') (fun s p s' p' hp e1 => kSeq_end H (kOne_gd H e) hp e1) 16 20 (kSeq_gd H (kOne_gd H e) 17 _ _ s1 p1 g h0).2.2.2 (kSeq_end H (kOne_gd H e) g h0) h1
              have en6 : ¬ kIsW tk 16 16 p2 := kSeq_end H (kSeq_gd H (kOne_gd H e) 17) g h1
              have nw : ¬ kIsW tk 16 17 p2 := fun w => by
                by_cases q7 : rIx (tk p2).2.2.1 = 17
                · exact en7 ⟨w.1, by omega, by omega⟩
                · have := w.2; exact en6 ⟨w.1, by omega, by omega⟩
              have hj : jJoins 16 (jNots (40 :: k) s2).1 (jNots (40 :: k) s2).2 = (40 :: k, s2) := by
                rw [jNots_ne (k := 40 :: k) (fun q => absurd (Option.some.inj q) (by decide))]
                exact jJoins_ne (fun q => absurd (Option.some.inj q) (by decide)) (.inl (fun q => absurd (Option.some.inj q) (by decide)))
              have n40 : ¬ (40 :: k : List Int) = [] := fun w => by cases w
              by_cases c41 : kIsS tk 41 p2
              · have es : kSign tk 41 p2 = .inr (tk p2).2.2.2 := by unfold kSign; rw [if_pos c41]
                rw [es] at q
                obtain ⟨m, q⟩ : jGo tk S k s2 (tk p2).2.2.2 true r := q
                refine ⟨m + 1, ?_⟩
                have c0 : ¬ (tk p2).1 = 0 := fun w => absurd (c41.1.symm.trans w) (by decide)
                have nq : ¬ (¬ kIsS tk 41 p2 ∨ (40 :: k : List Int) = []) := fun w => w.elim (fun w => w c41) n40
                rw [jStep_close c0 nw hj, if_neg nq]
                exact q
              · have es : kSign tk 41 p2 = .inl (1, (tk p2).2.1) := by unfold kSign; rw [if_neg c41]
                rw [es] at q
                have q : r = .inl (1, (tk p2).2.1) := q
                refine ⟨1, ?_⟩
                by_cases c0 : (tk p2).1 = 0
                · rw [jStep_stop c0 hj, if_neg n40, q]
                · have nq : ¬ kIsS tk 41 p2 ∨ (40 :: k : List Int) = [] := .inl c41
                  rw [jStep_close c0 nw hj, if_pos nq, q]
          obtain ⟨m, step⟩ := step
          refine ⟨m + 1, ?_⟩
          rw [jRun, if_neg nn, if_neg n4, if_neg n18, if_pos c40]
          exact step
        · rw [if_neg c40] at q
          have w1 : (tk p).1 = 1 := by
            rcases c with c | c | c | c
            · exact absurd c c40
            · exact c.1
            · exact c.1
            · exact c.1
          by_cases c18 : rIx (tk p).2.2.1 = 18
          · rw [if_pos c18] at q
            have d18 : jDeep (18 :: k) = jDeep k + 1 := by
              rw [jDeep]
              exact if_pos (.inl rfl)
            have step : jGo tk S (18 :: k) (sOne s) (tk p).2.2.2 false r := by
              refine ih (18 :: k) (sOne s) _ r (by rw [d18]; omega) g o20 ?_
              unfold jTo
              split at q
              · rename_i f h1
                rw [h1]; exact q
              · rename_i s2 p2 h1
                rw [h1]
                exact jGo_18 q
            obtain ⟨m, step⟩ := step
            refine ⟨m + 1, ?_⟩
            have y18 : kIsW tk 18 18 p := ⟨w1, by omega, by omega⟩
            rw [jRun, if_neg nn, if_neg n4, if_pos y18]
            exact step
          · rw [if_neg c18] at q
            have n18 : ¬ kIsW tk 18 18 p := fun w => by have := w.2; omega
            cases h1 : kPlain tk S (sOne s) (rIx (tk p).2.2.1) (tk p).2.2.2 with
            | inl f =>
              rw [h1] at q
              have q : r = .inl f := q
              refine ⟨1, ?_⟩
              rw [jRun, if_neg nn, if_neg n4, if_neg n18, if_neg c40, h1, q]
            | inr x =>
              obtain ⟨s2, p2⟩ := x
              rw [h1] at q
              obtain ⟨m, q⟩ : jGo tk S k s2 p2 true r := q
              refine ⟨m + 1, ?_⟩
              rw [jRun, if_neg nn, if_neg n4, if_neg n18, if_neg c40, h1]
              exact q
    · rw [if_pos c] at q
      refine ⟨1, ?_⟩
      rw [jRun, if_pos c]
      have q : r = .inl (1, (tk p).2.1) := q
      rw [q]
/-- the stack says what the text says -/
theorem jSent (H : tGo tk n) : jGo tk S [] Sn0 0 false (kSent tk S) := by
  refine jCond H (kOne_gd H 8) (jOne_all H 8) (k := []) (fun q => by cases q) (fun q => by cases q) (fun q => by cases q) rfl (Nat.zero_le n) (Nat.zero_le 20) ?_
  have g : 0 ≤ n := Nat.zero_le n
  unfold kSent kCond
  cases h1 : kSeq tk (kSeq tk (kOne tk S 8) 17) 16 Sn0 0 with
  | inl f => exact rfl
  | inr x =>
    obtain ⟨s2, p2⟩ := x
    have en7 : ¬ kIsW tk 17 17 p2 := by
      have h1 := h1
      rw [kSeq] at h1
      split at h1
      · cases h1
      · rename_i s1 p1 h0
        have h0 : kSeq tk (kOne tk S 8) 17 Sn0 0 = .inr (s1, p1) := h0
        exact kLoop_end H (kSeq_gd H (kOne_gd H 8) 17) (E := fun p' => ¬ kIsW tk 17 17 p') (fun s p s' p' hp e1 => kSeq_end H (kOne_gd H 8) hp e1) 16 20 (kSeq_gd H (kOne_gd H 8) 17 _ _ s1 p1 g h0).2.2.2 (kSeq_end H (kOne_gd H 8) g h0) h1
    have en6 : ¬ kIsW tk 16 16 p2 := kSeq_end H (kSeq_gd H (kOne_gd H 8) 17) g h1
    have nw : ¬ kIsW tk 16 17 p2 := fun w => by
      by_cases q7 : rIx (tk p2).2.2.1 = 17
      · exact en7 ⟨w.1, by omega, by omega⟩
      · have := w.2; exact en6 ⟨w.1, by omega, by omega⟩
    show jGo tk S [] s2 p2 true (if (tk p2).1 = 0 then .inr s2 else .inl (1, (tk p2).2.1))
    refine ⟨1, ?_⟩
    have hj : jJoins 16 (jNots [] s2).1 (jNots [] s2).2 = ([], s2) := rfl
    by_cases c0 : (tk p2).1 = 0
    · rw [jStep_stop c0 hj, if_pos c0, if_pos rfl]
    · have nq : ¬ kIsS tk 41 p2 ∨ ([] : List Int) = [] := .inr rfl
      rw [jStep_close c0 nw hj, if_neg c0, if_pos nq]
end Sq
