/-! KNOTS, 1: a game of tokens on a digraph. Whoever can be brought away by runs (a run: one token along a path) can be brought away by nine of them (part 53). Here: runs, rows of runs, minimal rows. -/
abbrev knP : Type := Nat → Option Nat
def kn_upd (P : knP) (t : Nat) (v : Option Nat) : knP := fun u => if u = t then v else P u
def kn_ch (E : Nat → Nat → Prop) : Nat → List Nat → Prop
  | _, [] => True
  | x, v :: l => E x v ∧ kn_ch E v l
def kn_last : Nat → List Nat → Nat
  | x, [] => x
  | _, v :: l => kn_last v l
def kn_free (P : knP) (t : Nat) (l : List Nat) : Prop := ∀ v, v ∈ l → ∀ u, u ≠ t → P u ≠ some v
def kn_none : knP := fun _ => none
/-- a run of token t -/
def kn_run (E X : Nat → Nat → Prop) (t : Nat) (P Q : knP) : Prop :=
  ∃ x l, P t = some x ∧ kn_ch E x l ∧ kn_free P t l ∧ (Q = kn_upd P t (some (kn_last x l)) ∨ (X t (kn_last x l) ∧ Q = kn_upd P t none))
def kn_re (E X : Nat → Nat → Prop) : Nat → knP → knP → Prop
  | 0, P, Q => P = Q
  | k + 1, P, Q => ∃ t R, kn_run E X t P R ∧ kn_re E X k R Q
def kn_sol (E X : Nat → Nat → Prop) (r : Nat) (P : knP) : Prop := ∃ k, k ≤ r ∧ kn_re E X k P kn_none
def kn_lock (E X : Nat → Nat → Prop) (P : knP) : Prop := ∀ t x l, P t = some x → kn_ch E x l → kn_free P t l → ¬ X t (kn_last x l)
def kn_good (P : knP) : Prop := (∀ t, 3 ≤ t → P t = none) ∧ (∀ t u v, P t = some v → P u = some v → t = u)

theorem kn_upd_same (P : knP) (t : Nat) (v : Option Nat) : kn_upd P t v t = v := by simp [kn_upd]
theorem kn_upd_ne (P : knP) {t u : Nat} (v : Option Nat) (h : u ≠ t) : kn_upd P t v u = P u := by simp [kn_upd, h]
theorem kn_upd_upd (P : knP) (t : Nat) (v w : Option Nat) : kn_upd (kn_upd P t v) t w = kn_upd P t w := by
  funext u; simp only [kn_upd]; split <;> rfl
theorem kn_upd_self (P : knP) {t : Nat} {v : Option Nat} (h : P t = v) : kn_upd P t v = P := by
  funext u; simp only [kn_upd]; split
  · rename_i e; subst e; exact h.symm
  · rfl
theorem kn_upd_comm (P : knP) {t u : Nat} (v w : Option Nat) (h : t ≠ u) : kn_upd (kn_upd P t v) u w = kn_upd (kn_upd P u w) t v := by
  funext a; simp only [kn_upd]
  by_cases h1 : a = t
  · by_cases h2 : a = u
    · exact absurd (h1.symm.trans h2) h
    · simp [h1]; intro e; exact absurd e h
  · by_cases h2 : a = u
    · simp [h1, h2]; intro e; exact absurd e.symm h
    · simp [h1, h2]
theorem kn_last_append (x : Nat) (l m : List Nat) : kn_last x (l ++ m) = kn_last (kn_last x l) m := by
  induction l generalizing x with
  | nil => rfl
  | cons a t ih => exact ih a
theorem kn_ch_append {E : Nat → Nat → Prop} (x : Nat) (l m : List Nat) : kn_ch E x (l ++ m) ↔ kn_ch E x l ∧ kn_ch E (kn_last x l) m := by
  induction l generalizing x with
  | nil => simp [kn_ch, kn_last]
  | cons a t ih => simp [kn_ch, kn_last, ih a, and_assoc]
theorem kn_last_mem (x : Nat) (l : List Nat) : kn_last x l = x ∨ kn_last x l ∈ l := by
  induction l generalizing x with
  | nil => exact .inl rfl
  | cons a t ih =>
    rcases ih a with h | h
    · right; show kn_last a t ∈ a :: t; rw [h]; exact List.mem_cons_self
    · right; exact List.mem_cons_of_mem _ h
theorem kn_last_snoc (x : Nat) (l : List Nat) (y : Nat) : kn_last x (l ++ [y]) = y := by rw [kn_last_append]; rfl
/-- a path without a place twice -/
theorem kn_simple {E : Nat → Nat → Prop} : ∀ (n : Nat) (x : Nat) (l : List Nat), l.length ≤ n → kn_ch E x l →
    ∃ l', kn_ch E x l' ∧ kn_last x l' = kn_last x l ∧ (∀ v, v ∈ l' → v ∈ l) ∧ (x :: l').Nodup := by
  intro n
  induction n with
  | zero =>
    intro x l hl h
    have : l = [] := List.length_eq_zero_iff.mp (Nat.le_zero.mp hl)
    subst this
    exact ⟨[], trivial, rfl, fun v h => h, by simp⟩
  | succ n ih =>
    intro x l hl h
    by_cases hx : x ∈ l
    · obtain ⟨a, b, e⟩ := List.append_of_mem hx
      subst e
      have h2 := (kn_ch_append x a (x :: b)).mp h
      have h3 : kn_ch E x b := h2.2.2
      have hb : b.length ≤ n := by simp at hl; omega
      obtain ⟨l', h4, h5, h6, h7⟩ := ih x b hb h3
      refine ⟨l', h4, ?_, fun v hv => ?_, h7⟩
      · rw [h5, kn_last_append]; rfl
      · exact List.mem_append_right _ (List.mem_cons_of_mem _ (h6 v hv))
    · cases l with
      | nil => exact ⟨[], trivial, rfl, fun v h => h, by simp⟩
      | cons v t =>
        have ht : t.length ≤ n := by simp at hl; omega
        obtain ⟨l', h4, h5, h6, h7⟩ := ih v t ht h.2
        refine ⟨v :: l', ⟨h.1, h4⟩, h5, fun w hw => ?_, ?_⟩
        · rcases List.mem_cons.mp hw with e | e
          · rw [e]; exact List.mem_cons_self
          · exact List.mem_cons_of_mem _ (h6 w e)
        · refine List.nodup_cons.mpr ⟨fun hm => hx ?_, h7⟩
          rcases List.mem_cons.mp hm with e | e
          · rw [e]; exact List.mem_cons_self
          · exact List.mem_cons_of_mem _ (h6 x e)
theorem kn_free_sub {P : knP} {t : Nat} {l m : List Nat} (h : kn_free P t l) (hs : ∀ v, v ∈ m → v ∈ l) : kn_free P t m := fun v hv => h v (hs v hv)
theorem kn_free_append {P : knP} {t : Nat} {l m : List Nat} (h : kn_free P t l) (h' : kn_free P t m) : kn_free P t (l ++ m) := fun v hv => by
  rcases List.mem_append.mp hv with e | e
  · exact h v e
  · exact h' v e
theorem kn_free_upd {P : knP} {t : Nat} {l : List Nat} (v : Option Nat) : kn_free (kn_upd P t v) t l ↔ kn_free P t l := by
  constructor
  · intro h a ha u hu e; exact h a ha u hu (by rw [kn_upd_ne _ _ hu]; exact e)
  · intro h a ha u hu e; rw [kn_upd_ne _ _ hu] at e; exact h a ha u hu e
theorem kn_re_app {E X : Nat → Nat → Prop} : ∀ (a b : Nat) (P Q R : knP), kn_re E X a P Q → kn_re E X b Q R → kn_re E X (a + b) P R := by
  intro a
  induction a with
  | zero => intro b P Q R h h'; cases h; rw [Nat.zero_add]; exact h'
  | succ a ih =>
    intro b P Q R h h'
    obtain ⟨t, S, h1, h2⟩ := h
    rw [Nat.add_right_comm]
    exact ⟨t, S, h1, ih b S Q R h2 h'⟩
theorem kn_sol_mono {E X : Nat → Nat → Prop} {a b : Nat} (h : a ≤ b) {P : knP} (hs : kn_sol E X a P) : kn_sol E X b P := by
  obtain ⟨k, hk, hr⟩ := hs; exact ⟨k, Nat.le_trans hk h, hr⟩
theorem kn_sol_re {E X : Nat → Nat → Prop} {a b : Nat} {P Q : knP} (h : kn_re E X a P Q) (hs : kn_sol E X b Q) : kn_sol E X (a + b) P := by
  obtain ⟨k, hk, hr⟩ := hs; exact ⟨a + k, by omega, kn_re_app a k P Q kn_none h hr⟩
theorem kn_run_good {E X : Nat → Nat → Prop} {t : Nat} {P Q : knP} (h : kn_run E X t P Q) (g : kn_good P) : kn_good Q := by
  obtain ⟨x, l, hx, hc, hf, hq⟩ := h
  have ht : t < 3 := by
    rcases Nat.lt_or_ge t 3 with h | h
    · exact h
    · rw [g.1 t h] at hx; cases hx
  have hfr : ∀ u, u ≠ t → P u ≠ some (kn_last x l) := by
    intro u hu e
    rcases kn_last_mem x l with h | h
    · rw [h] at e; exact hu (g.2 u t x e hx)
    · exact hf _ h u hu e
  rcases hq with e | ⟨_, e⟩ <;> subst e
  · refine ⟨fun u hu => ?_, fun a b v ha hb => ?_⟩
    · rw [kn_upd_ne _ _ (by omega)]; exact g.1 u hu
    · by_cases h1 : a = t
      · by_cases h2 : b = t
        · rw [h1, h2]
        · rw [h1, kn_upd_same] at ha; rw [kn_upd_ne _ _ h2] at hb; cases ha; exact absurd hb (hfr b h2)
      · by_cases h2 : b = t
        · rw [h2, kn_upd_same] at hb; rw [kn_upd_ne _ _ h1] at ha; cases hb; exact absurd ha (hfr a h1)
        · rw [kn_upd_ne _ _ h1] at ha; rw [kn_upd_ne _ _ h2] at hb; exact g.2 a b v ha hb
  · refine ⟨fun u hu => ?_, fun a b v ha hb => ?_⟩
    · rw [kn_upd_ne _ _ (by omega)]; exact g.1 u hu
    · by_cases h1 : a = t
      · rw [h1, kn_upd_same] at ha; cases ha
      · by_cases h2 : b = t
        · rw [h2, kn_upd_same] at hb; cases hb
        · rw [kn_upd_ne _ _ h1] at ha; rw [kn_upd_ne _ _ h2] at hb; exact g.2 a b v ha hb
/-- who goes at once is gone the better -/
theorem kn_dom {E X : Nat → Nat → Prop} : ∀ (r : Nat) (P : knP) (t : Nat), P t ≠ none → kn_sol E X r P → 1 ≤ r ∧ kn_sol E X (r - 1) (kn_upd P t none) := by
  have key : ∀ (k : Nat) (P : knP) (t : Nat), P t ≠ none → kn_re E X k P kn_none → 1 ≤ k ∧ kn_sol E X (k - 1) (kn_upd P t none) := by
    intro k
    induction k with
    | zero => intro P t h hr; cases hr; exact absurd rfl h
    | succ k ih =>
      intro P t h hr
      refine ⟨by omega, ?_⟩
      obtain ⟨u, Q, hrun, hre⟩ := hr
      obtain ⟨x, l, hx, hc, hf, hq⟩ := hrun
      by_cases hu : u = t
      · subst hu
        rcases hq with e | ⟨_, e⟩
        · have h1 : Q u ≠ none := by rw [e, kn_upd_same]; exact fun h => by cases h
          obtain ⟨h2, h3⟩ := ih Q u h1 hre
          rw [e, kn_upd_upd] at h3
          exact kn_sol_mono (by omega) h3
        · exact ⟨k, by omega, by rw [e] at hre; exact hre⟩
      · have hQt : Q t = P t := by
          rcases hq with e | ⟨_, e⟩ <;> rw [e] <;> exact kn_upd_ne _ _ (fun h => hu h.symm)
        obtain ⟨h2, h3⟩ := ih Q t (by rw [hQt]; exact h) hre
        have hrun' : kn_run E X u (kn_upd P t none) (kn_upd Q t none) := by
          refine ⟨x, l, by rw [kn_upd_ne _ _ hu]; exact hx, hc, fun v hv w hw e => ?_, ?_⟩
          · by_cases hwt : w = t
            · rw [hwt, kn_upd_same] at e; cases e
            · rw [kn_upd_ne _ _ hwt] at e; exact hf v hv w hw e
          · rcases hq with e | ⟨hX, e⟩
            · left; rw [e]; exact kn_upd_comm _ _ _ hu
            · right; exact ⟨hX, by rw [e]; exact kn_upd_comm _ _ _ hu⟩
        obtain ⟨a, ha, hre'⟩ := h3
        exact ⟨a + 1, by omega, u, _, hrun', hre'⟩
  intro r P t h hs
  obtain ⟨k, hk, hr⟩ := hs
  obtain ⟨h1, h2⟩ := key k P t h hr
  exact ⟨by omega, kn_sol_mono (by omega) h2⟩
/-- a row of runs with no run too many, in which who can go goes at once -/
def kn_chain (E X : Nat → Nat → Prop) (r : Nat) (S : Nat → knP) (mv : Nat → Nat) : Prop :=
  S 0 = kn_none ∧ ∀ i, i < r → kn_run E X (mv i) (S (i + 1)) (S i) ∧ ¬ kn_sol E X i (S (i + 1)) ∧ (S i (mv i) = none ∨ kn_lock E X (S (i + 1))) ∧ kn_good (S (i + 1))
theorem kn_canon {E X : Nat → Nat → Prop} : ∀ (r : Nat) (P : knP), kn_good P → kn_sol E X r P → (r = 0 ∨ ¬ kn_sol E X (r - 1) P) → ∃ S mv, S r = P ∧ kn_chain E X r S mv := by
  intro r
  induction r with
  | zero =>
    intro P _ hs _
    obtain ⟨k, hk, hr⟩ := hs
    have : k = 0 := by omega
    subst this
    exact ⟨fun _ => P, fun _ => 0, rfl, hr, fun i hi => absurd hi (by omega)⟩
  | succ r ih =>
    intro P g hs hn
    have hn' : ¬ kn_sol E X r P := by rcases hn with h | h; exact absurd h (by omega); exact h
    have step : ∃ t Q, kn_run E X t P Q ∧ kn_sol E X r Q ∧ (Q t = none ∨ kn_lock E X P) := by
      rcases Classical.em (kn_lock E X P) with hl | hl
      · obtain ⟨k, hk, hr⟩ := hs
        cases k with
        | zero => exact absurd ⟨0, by omega, hr⟩ hn'
        | succ k =>
          obtain ⟨t, Q, h1, h2⟩ := hr
          exact ⟨t, Q, h1, ⟨k, by omega, h2⟩, .inr hl⟩
      · have : ∃ t x l, P t = some x ∧ kn_ch E x l ∧ kn_free P t l ∧ X t (kn_last x l) := by
          apply Classical.byContradiction
          intro hc
          exact hl (fun t x l a b c d => hc ⟨t, x, l, a, b, c, d⟩)
        obtain ⟨t, x, l, a, b, c, d⟩ := this
        have h := kn_dom (r + 1) P t (by rw [a]; exact fun h => by cases h) hs
        exact ⟨t, kn_upd P t none, ⟨x, l, a, b, c, .inr ⟨d, rfl⟩⟩, h.2, .inl (kn_upd_same _ _ _)⟩
    obtain ⟨t, Q, h1, h2, h3⟩ := step
    have hq : r = 0 ∨ ¬ kn_sol E X (r - 1) Q := by
      rcases Nat.eq_zero_or_pos r with h | h
      · exact .inl h
      · right; intro hs'
        obtain ⟨k, hk, hr⟩ := hs'
        exact hn' ⟨k + 1, by omega, t, Q, h1, hr⟩
    obtain ⟨S, mv, e, c0, c1⟩ := ih Q (kn_run_good h1 g) h2 hq
    refine ⟨fun i => if i ≤ r then S i else P, fun i => if i < r then mv i else t, ?_, ?_, fun i hi => ?_⟩
    · simp; intro h; exact absurd h (by omega)
    · simp; exact c0
    · rcases Nat.lt_or_ge i r with h | h
      · have a1 : i ≤ r := by omega
        have a2 : i + 1 ≤ r := by omega
        simp only [if_pos a1, if_pos a2, if_pos h]
        exact c1 i h
      · have e' : i = r := by omega
        subst e'
        have a2 : ¬ i + 1 ≤ i := by omega
        have a3 : ¬ i < i := by omega
        simp only [if_neg a2, if_neg a3, if_pos (Nat.le_refl i), e]
        exact ⟨h1, hn', h3, g⟩
