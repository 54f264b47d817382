/-! THE CLASS's KNOTS, 1: the game that its search plays, on spots; how many STEPS are enough, from wherever. -/
abbrev gSt : Type := Nat → Nat
def gCnt (f : gSt) (q : Nat) : Nat := (if f 0 = q then 1 else 0) + (if f 1 = q then 1 else 0) + (if f 2 = q then 1 else 0)
def gUp (f : gSt) (t v : Nat) : gSt := fun u => if u = t then v else f u
theorem gUp_same (f : gSt) (t v : Nat) : gUp f t v t = v := if_pos rfl
theorem gUp_ne (f : gSt) {t u : Nat} (v : Nat) (h : u ≠ t) : gUp f t v u = f u := if_neg h
theorem gUp_up (f : gSt) (t v w : Nat) : gUp (gUp f t v) t w = gUp f t w := by
  funext u; unfold gUp; split <;> rfl
/-- a STEP -/
def gM (A : Nat) (Ed : Nat → Nat → Prop) (rm bd : Nat → Nat) (f f' : gSt) : Prop := ∃ t q, t < 3 ∧ f t < A ∧ q < A ∧ Ed (f t) q ∧ gCnt f q < rm q ∧ f' = gUp f t (if q = bd t then A else q)
/-- so many STEPS -/
def gC (A : Nat) (Ed : Nat → Nat → Prop) (rm bd : Nat → Nat) : Nat → gSt → gSt → Prop
  | 0, f, g => f = g
  | n + 1, f, g => ∃ h, gM A Ed rm bd f h ∧ gC A Ed rm bd n h g
def gV (A : Nat) (f : gSt) : Prop := (∀ t, f t ≤ A) ∧ ∀ t, 3 ≤ t → f t = A
def gE (A : Nat) (Ed : Nat → Nat → Prop) (rm : Nat → Nat) (v w : Nat) : Prop := w < 2 * A ∧ (w % 2 = 1 → rm (w / 2) = 2) ∧ Ed (v / 2) (w / 2)
def gX (bd : Nat → Nat) (t v : Nat) : Prop := v / 2 = bd t
/-- a row of places for a state -/
def gR (A : Nat) (rm : Nat → Nat) (f : gSt) (P : knP) : Prop := kn_good P ∧ ∀ t, t < 3 → (f t = A → P t = none) ∧ (f t ≠ A → ∃ v, P t = some v ∧ v / 2 = f t ∧ (v % 2 = 1 → rm (v / 2) = 2))
theorem gCnt_1 {f : gSt} {q u : Nat} (hu : u < 3) (h : f u = q) : 1 ≤ gCnt f q := by
  unfold gCnt
  rcases (show u = 0 ∨ u = 1 ∨ u = 2 by omega) with rfl | rfl | rfl <;> rw [if_pos h] <;> omega
theorem gCnt_2 {f : gSt} {q u w : Nat} (hu : u < 3) (hw : w < 3) (hne : u ≠ w) (h : f u = q) (h2 : f w = q) : 2 ≤ gCnt f q := by
  unfold gCnt
  rcases (show u = 0 ∨ u = 1 ∨ u = 2 by omega) with rfl | rfl | rfl <;> rcases (show w = 0 ∨ w = 1 ∨ w = 2 by omega) with rfl | rfl | rfl <;> first | exact absurd rfl hne | (rw [if_pos h, if_pos h2]; omega)
theorem gCnt_0 {f : gSt} {q : Nat} (h : ∀ u, u < 3 → f u ≠ q) : gCnt f q = 0 := by
  unfold gCnt
  rw [if_neg (h 0 (by omega)), if_neg (h 1 (by omega)), if_neg (h 2 (by omega))]
theorem gCnt_le1 {f : gSt} {q : Nat} (h : ∀ u w, u < 3 → w < 3 → f u = q → f w = q → u = w) : gCnt f q ≤ 1 := by
  unfold gCnt
  by_cases h0 : f 0 = q
  · have h1 : f 1 ≠ q := fun e => absurd (h 0 1 (by omega) (by omega) h0 e) (by decide)
    have h2 : f 2 ≠ q := fun e => absurd (h 0 2 (by omega) (by omega) h0 e) (by decide)
    rw [if_pos h0, if_neg h1, if_neg h2]; omega
  · rw [if_neg h0]
    by_cases h1 : f 1 = q
    · have h2 : f 2 ≠ q := fun e => absurd (h 1 2 (by omega) (by omega) h1 e) (by decide)
      rw [if_pos h1, if_neg h2]; omega
    · rw [if_neg h1]; split <;> omega
/-- who is away does not count -/
theorem gCnt_away {f : gSt} {A t q : Nat} (ht : t < 3) (hq : q < A) (h : f t ≠ q) : gCnt (gUp f t A) q = gCnt f q := by
  have hA : A ≠ q := by omega
  unfold gCnt
  rcases (show t = 0 ∨ t = 1 ∨ t = 2 by omega) with rfl | rfl | rfl
  · rw [gUp_same, gUp_ne f A (show (1 : Nat) ≠ 0 by decide), gUp_ne f A (show (2 : Nat) ≠ 0 by decide), if_neg hA, if_neg h]
  · rw [gUp_same, gUp_ne f A (show (0 : Nat) ≠ 1 by decide), gUp_ne f A (show (2 : Nat) ≠ 1 by decide), if_neg hA, if_neg h]
  · rw [gUp_same, gUp_ne f A (show (0 : Nat) ≠ 2 by decide), gUp_ne f A (show (1 : Nat) ≠ 2 by decide), if_neg hA, if_neg h]
theorem gk_good_upd {P : knP} {t w : Nat} (h : kn_good P) (ht : t < 3) (hf : ∀ u, u ≠ t → P u ≠ some w) : kn_good (kn_upd P t (some w)) := by
  refine ⟨fun u hu => by rw [kn_upd_ne _ _ (by omega)]; exact h.1 u hu, fun a b v ha hb => ?_⟩
  by_cases e1 : a = t
  · subst e1
    rw [kn_upd_same] at ha
    cases ha
    by_cases e2 : b = a
    · exact e2.symm
    · rw [kn_upd_ne _ _ e2] at hb; exact absurd hb (hf b e2)
  · rw [kn_upd_ne _ _ e1] at ha
    by_cases e2 : b = t
    · subst e2
      rw [kn_upd_same] at hb
      cases hb
      exact absurd ha (hf a e1)
    · rw [kn_upd_ne _ _ e2] at hb; exact h.2 a b v ha hb
theorem gk_good_none {P : knP} {t : Nat} (h : kn_good P) : kn_good (kn_upd P t none) := by
  refine ⟨fun u hu => ?_, fun a b v ha hb => ?_⟩
  · by_cases e : u = t
    · subst e; exact kn_upd_same _ _ _
    · rw [kn_upd_ne _ _ e]; exact h.1 u hu
  · by_cases e1 : a = t
    · subst e1; rw [kn_upd_same] at ha; cases ha
    · by_cases e2 : b = t
      · subst e2; rw [kn_upd_same] at hb; cases hb
      · rw [kn_upd_ne _ _ e1] at ha
        rw [kn_upd_ne _ _ e2] at hb
        exact h.2 a b v ha hb
theorem gk_short {n : Nat} {l : List Nat} (h : l.Nodup) (hb : ∀ x, x ∈ l → x < n) : l.length ≤ n := by
  have := List.Nodup.length_le_of_subset h (l₂ := List.range n) (fun x hx => List.mem_range.mpr (hb x hx))
  rw [List.length_range] at this
  exact this
theorem gk_last_map (f : Nat → Nat) : ∀ (l : List Nat) (x : Nat), kn_last (f x) (l.map f) = f (kn_last x l) := by
  intro l
  induction l with
  | nil => intro x; rfl
  | cons a t ih => intro x; exact ih a
section Gg
variable {A : Nat} {Ed : Nat → Nat → Prop} {rm bd : Nat → Nat}
theorem gM_v {f f' : gSt} (hV : gV A f) (hM : gM A Ed rm bd f f') : gV A f' := by
  obtain ⟨t, q, ht, h1, hq, he, hc, rfl⟩ := hM
  refine ⟨fun u => ?_, fun u hu => ?_⟩
  · by_cases e : u = t
    · subst e; rw [gUp_same]; split <;> omega
    · rw [gUp_ne _ _ e]; exact hV.1 u
  · rw [gUp_ne _ _ (by omega)]; exact hV.2 u hu
theorem gC_v : ∀ {n : Nat} {f f' : gSt}, gV A f → gC A Ed rm bd n f f' → gV A f' := by
  intro n
  induction n with
  | zero => intro f f' hV h; rw [← (show f = f' from h)]; exact hV
  | succ n ih => intro f f' hV h; obtain ⟨g, h1, h2⟩ := h; exact ih (gM_v hV h1) h2
theorem gC_tr : ∀ {a b : Nat} {f g h : gSt}, gC A Ed rm bd a f g → gC A Ed rm bd b g h → gC A Ed rm bd (a + b) f h := by
  intro a
  induction a with
  | zero => intro b f g h h1 h2; rw [Nat.zero_add]; rw [show f = g from h1]; exact h2
  | succ a ih =>
    intro b f g h h1 h2
    obtain ⟨s', k1, k2⟩ := h1
    rw [show a + 1 + b = (a + b) + 1 by omega]
    exact ⟨s', k1, ih k2 h2⟩
/-- a STEP is a run -/
theorem gR_step (hrm : ∀ q, q < A → rm q = 1 ∨ rm q = 2) {f f' : gSt} {P : knP} (hM : gM A Ed rm bd f f') (hr : gR A rm f P) : ∃ t Q, kn_run (gE A Ed rm) (gX bd) t P Q ∧ gR A rm f' Q := by
  obtain ⟨t, q, ht, hlt, hq, he, hc, rfl⟩ := hM
  obtain ⟨v, hv1, hv2, hv3⟩ := (hr.2 t ht).2 (by omega)
  have at_ : ∀ u y, P u = some y → u < 3 ∧ f u = y / 2 := fun u y hy => by
    have hu : u < 3 := by
      apply Classical.byContradiction
      intro c
      rw [hr.1.1 u (by omega)] at hy; cases hy
    refine ⟨hu, ?_⟩
    by_cases e : f u = A
    · rw [(hr.2 u hu).1 e] at hy; cases hy
    · obtain ⟨z, z1, z2, _⟩ := (hr.2 u hu).2 e
      rw [hy] at z1
      cases z1
      exact z2.symm
  have pick : ∃ w, w / 2 = q ∧ (w % 2 = 1 → rm q = 2) ∧ ∀ u, u ≠ t → P u ≠ some w := by
    by_cases c : ∃ u, u ≠ t ∧ P u = some (2 * q)
    · obtain ⟨u1, n1, p1⟩ := c
      obtain ⟨l1, f1⟩ := at_ u1 _ p1
      have g1 := gCnt_1 l1 (show f u1 = q by omega)
      have r2 : rm q = 2 := by have := hrm q hq; omega
      refine ⟨2 * q + 1, by omega, fun _ => r2, fun u2 n2 p2 => ?_⟩
      obtain ⟨l2, f2⟩ := at_ u2 _ p2
      have ne : u1 ≠ u2 := fun e => by subst e; rw [p1] at p2; exact absurd (Option.some.inj p2) (by omega)
      have g2 := gCnt_2 l1 l2 ne (show f u1 = q by omega) (show f u2 = q by omega)
      omega
    · exact ⟨2 * q, by omega, fun g => by omega, fun u hu hp => c ⟨u, hu, hp⟩⟩
  obtain ⟨w, w1, w2, w3⟩ := pick
  have hE : gE A Ed rm v w := ⟨by omega, by rw [w1]; exact w2, by rw [hv2, w1]; exact he⟩
  have hfr : kn_free P t [w] := fun y hy u hu => by
    rw [List.mem_singleton.mp hy]; exact w3 u hu
  by_cases e : q = bd t
  · refine ⟨t, kn_upd P t none, ⟨v, [w], hv1, ⟨hE, trivial⟩, hfr, .inr ⟨show w / 2 = bd t by omega, rfl⟩⟩, gk_good_none hr.1, fun u hu => ?_⟩
    rw [if_pos e]
    by_cases eu : u = t
    · subst eu; rw [gUp_same, kn_upd_same]; exact ⟨fun _ => rfl, fun g => absurd rfl g⟩
    · rw [gUp_ne _ _ eu, kn_upd_ne _ _ eu]; exact hr.2 u hu
  · refine ⟨t, kn_upd P t (some w), ⟨v, [w], hv1, ⟨hE, trivial⟩, hfr, .inl rfl⟩, gk_good_upd hr.1 ht w3, fun u hu => ?_⟩
    rw [if_neg e]
    by_cases eu : u = t
    · subst eu; rw [gUp_same, kn_upd_same]; exact ⟨fun g => by omega, fun _ => ⟨w, rfl, w1, by rw [w1]; exact w2⟩⟩
    · rw [gUp_ne _ _ eu, kn_upd_ne _ _ eu]; exact hr.2 u hu
/-- a row of places that a state goes along with: who is gone here may still stand there -/
def gSim (A : Nat) (rm bd : Nat → Nat) (f : gSt) (P : knP) : Prop := kn_good P ∧ ∀ t, t < 3 → f t = A ∨ (f t < A ∧ f t ≠ bd t ∧ ∃ v, P t = some v ∧ v / 2 = f t ∧ (v % 2 = 1 → rm (v / 2) = 2))
theorem gWalk {t : Nat} (ht : t < 3) : ∀ (l : List Nat) (f : gSt), f t < A → f t ≠ bd t → kn_ch Ed (f t) l → (f t :: l).Nodup → (∀ p, p ∈ l → p < A ∧ gCnt (gUp f t A) p < rm p) →
    ∃ n f', n ≤ l.length ∧ gC A Ed rm bd n f f' ∧ (∀ u, u ≠ t → f' u = f u) ∧ (f' t = A ∨ (f' t = kn_last (f t) l ∧ f' t < A ∧ f' t ≠ bd t)) := by
  intro l
  induction l with
  | nil =>
    intro f hA hb _ _ _
    exact ⟨0, f, Nat.le_refl _, rfl, fun _ _ => rfl, .inr ⟨rfl, hA, hb⟩⟩
  | cons p l ih =>
    intro f hA hb hc hn hr
    obtain ⟨e1, hc2⟩ := hc
    obtain ⟨q1, q2⟩ := hr p List.mem_cons_self
    have hn1 := List.nodup_cons.mp hn
    have hne : f t ≠ p := fun e => hn1.1 (by rw [e]; exact List.mem_cons_self)
    rw [gCnt_away ht q1 hne] at q2
    by_cases hbp : p = bd t
    · refine ⟨1, gUp f t A, by simp, ⟨_, ⟨t, p, ht, hA, q1, e1, q2, ?_⟩, rfl⟩, fun u hu => gUp_ne _ _ hu, .inl (gUp_same _ _ _)⟩
      rw [if_pos hbp]
    · have es : gUp f t p t = p := gUp_same _ _ _
      obtain ⟨n, f', x1, x2, x3, x4⟩ := ih (gUp f t p) (by rw [es]; exact q1) (by rw [es]; exact hbp) (by rw [es]; exact hc2) (by rw [es]; exact hn1.2) (fun p' hp' => by
        rw [gUp_up]; exact hr p' (List.mem_cons_of_mem _ hp'))
      refine ⟨n + 1, f', by simp; omega, ⟨_, ⟨t, p, ht, hA, q1, e1, q2, ?_⟩, x2⟩, fun u hu => by rw [x3 u hu]; exact gUp_ne _ _ hu, ?_⟩
      · rw [if_neg hbp]
      · rw [es] at x4; exact x4
theorem gk_map {A : Nat} {Ed : Nat → Nat → Prop} {rm : Nat → Nat} : ∀ (l : List Nat) (x : Nat), kn_ch (gE A Ed rm) x l → kn_ch Ed (x / 2) (l.map (fun v => v / 2)) ∧ ∀ w, w ∈ l → w < 2 * A ∧ (w % 2 = 1 → rm (w / 2) = 2) := by
  intro l
  induction l with
  | nil => intro x _; exact ⟨trivial, fun w h => absurd h List.not_mem_nil⟩
  | cons a t ih =>
    intro x h
    obtain ⟨⟨e1, e2, e3⟩, h2⟩ := h
    obtain ⟨i1, i2⟩ := ih a h2
    refine ⟨⟨e3, i1⟩, fun w hw => ?_⟩
    rcases List.mem_cons.mp hw with e | e
    · subst e; exact ⟨e1, e2⟩
    · exact i2 w e
/-- a run is at most A STEPS -/
theorem gRun (hrm : ∀ q, q < A → rm q = 1 ∨ rm q = 2) {f : gSt} {P Q : knP} {t : Nat} (hs : gSim A rm bd f P) (hr : kn_run (gE A Ed rm) (gX bd) t P Q) : ∃ n f', n ≤ A ∧ gC A Ed rm bd n f f' ∧ gSim A rm bd f' Q := by
  obtain ⟨x, l, hP, hch, hfr, hQ⟩ := hr
  have t3 : t < 3 := by
    apply Classical.byContradiction
    intro q
    rw [hs.1.1 t (by omega)] at hP; cases hP
  have gQ : kn_good Q := by
    rcases hQ with e | ⟨_, e⟩
    · subst e
      refine gk_good_upd hs.1 t3 (fun u hne hu => ?_)
      rcases kn_last_mem x l with g | g
      · rw [g] at hu; exact hne (hs.1.2 u t x hu hP)
      · exact hfr _ g u hne hu
    · subst e; exact gk_good_none hs.1
  have other : ∀ u, u ≠ t → Q u = P u := fun u hne => by
    rcases hQ with e | ⟨_, e⟩
    · subst e; exact kn_upd_ne _ _ hne
    · subst e; exact kn_upd_ne _ _ hne
  rcases hs.2 t t3 with h36 | ⟨hdA, hnb, v, hv1, hv2, hv3⟩
  · refine ⟨0, f, Nat.zero_le _, rfl, gQ, fun u hu => ?_⟩
    by_cases e : u = t
    · subst e; exact .inl h36
    · rw [other u e]; exact hs.2 u hu
  · have ex : v = x := by rw [hv1] at hP; cases hP; rfl
    subst ex
    obtain ⟨m1, m2⟩ := gk_map l v hch
    obtain ⟨l', a1, a2, a3, a4⟩ := kn_simple _ (v / 2) _ (Nat.le_refl _) m1
    have mem' : ∀ p, p ∈ l' → ∃ w, w ∈ l ∧ w / 2 = p := fun p hp => List.mem_map.mp (a3 p hp)
    have len : l'.length ≤ A := gk_short (List.nodup_cons.mp a4).2 (fun y hy => by
      obtain ⟨w, w1, w2⟩ := mem' y hy
      have := (m2 w w1).1
      omega)
    have room : ∀ p, p ∈ l' → p < A ∧ gCnt (gUp f t A) p < rm p := by
      intro p hp
      obtain ⟨w, w1, w2⟩ := mem' p hp
      obtain ⟨w3, w4⟩ := m2 w w1
      have pA : p < A := by omega
      rw [w2] at w4
      refine ⟨pA, ?_⟩
      have on : ∀ u, u < 3 → gUp f t A u = p → u ≠ t ∧ ∃ y, P u = some y ∧ y / 2 = p ∧ y ≠ w ∧ (y % 2 = 1 → rm p = 2) := by
        intro u hu hc
        have hne : u ≠ t := fun e => by subst e; rw [gUp_same] at hc; omega
        rw [gUp_ne _ _ hne] at hc
        rcases hs.2 u hu with h36 | ⟨_, _, y, y1, y2, y3⟩
        · omega
        · refine ⟨hne, y, y1, by omega, fun e => ?_, fun h1 => ?_⟩
          · subst e; exact hfr _ w1 u hne y1
          · have := y3 h1
            rw [show y / 2 = p by omega] at this
            exact this
      rcases hrm p pA with h1 | h2
      · rw [gCnt_0 (fun u hu hc => ?_)]
        · omega
        · obtain ⟨_, y, y1, y2, y3, y4⟩ := on u hu hc
          have b1 : ¬ (w % 2 = 1) := fun g => by have := w4 g; omega
          have b2 : ¬ (y % 2 = 1) := fun g => by have := y4 g; omega
          omega
      · have g := gCnt_le1 (f := gUp f t A) (q := p) (fun u1 u2 h1 h2 c1 c2 => by
          obtain ⟨_, y, y1, y2, y3, _⟩ := on u1 h1 c1
          obtain ⟨_, y', z1, z2, z3, _⟩ := on u2 h2 c2
          have : y = y' := by omega
          subst this
          exact hs.1.2 u1 u2 y y1 z1)
        omega
    rw [hv2] at a1 a4
    obtain ⟨n, f', x1, x2, x4, x5⟩ := gWalk t3 l' f hdA hnb a1 a4 room
    have elast : kn_last (v / 2) l' = kn_last v l / 2 := by rw [a2]; exact gk_last_map (fun y => y / 2) l v
    refine ⟨n, f', by omega, x2, gQ, fun u hu => ?_⟩
    by_cases e : u = t
    · subst e
      rcases x5 with g | ⟨g1, g2, g3⟩
      · exact .inl g
      · rw [← hv2, elast] at g1
        rcases hQ with e | ⟨eX, e⟩
        · right
          refine ⟨g2, g3, kn_last v l, by subst e; exact kn_upd_same _ _ _, g1.symm, ?_⟩
          rcases kn_last_mem v l with c | c
          · rw [c]; exact hv3
          · exact (m2 _ c).2
        · exact absurd (g1.trans eX) g3
    · rw [other u e, x4 u e]; exact hs.2 u hu
def gEnd (A : Nat) : gSt := fun _ => A
/-- from where nobody stands beyond the ROOM or where he is bound -/
theorem gShort (hrm : ∀ q, q < A → rm q = 1 ∨ rm q = 2) {f : gSt} {P : knP} (hV : gV A f) (hP : gR A rm f P) (hnb : ∀ t, t < 3 → f t ≠ A → f t ≠ bd t) {r : Nat} (h : gC A Ed rm bd r f (gEnd A)) : ∃ n, n ≤ 9 * A ∧ gC A Ed rm bd n f (gEnd A) := by
  have sol : ∀ (r : Nat) (f : gSt) (P : knP), gR A rm f P → gC A Ed rm bd r f (gEnd A) → kn_sol (gE A Ed rm) (gX bd) r P := by
    intro r
    induction r with
    | zero =>
      intro f P hP h
      have es : f = gEnd A := h
      subst es
      refine ⟨0, Nat.le_refl _, ?_⟩
      show P = kn_none
      funext u
      by_cases e : u < 3
      · exact (hP.2 u e).1 rfl
      · exact hP.1.1 u (by omega)
    | succ r ih =>
      intro f P hP h
      obtain ⟨f', h1, h2⟩ := h
      obtain ⟨t, Q, q1, q2⟩ := gR_step hrm h1 hP
      obtain ⟨k, k1, k2⟩ := ih f' Q q2 h2
      exact ⟨k + 1, by omega, t, Q, q1, k2⟩
  obtain ⟨k, k9, hk⟩ := kn_nine hP.1 (sol r f P hP h)
  have go : ∀ (k : Nat) (f : gSt) (P : knP), gV A f → gSim A rm bd f P → kn_re (gE A Ed rm) (gX bd) k P kn_none → ∃ n, n ≤ A * k ∧ gC A Ed rm bd n f (gEnd A) := by
    intro k
    induction k with
    | zero =>
      intro f P hv hs hre
      have eP : P = kn_none := hre
      subst eP
      refine ⟨0, Nat.zero_le _, ?_⟩
      show f = gEnd A
      funext u
      by_cases e : u < 3
      · rcases hs.2 u e with g | ⟨_, _, v, g, _⟩
        · exact g
        · cases g
      · exact hv.2 u (by omega)
    | succ k ih =>
      intro f P hv hs hre
      obtain ⟨t, R, r1, r2⟩ := hre
      obtain ⟨n, f', x1, x2, x4⟩ := gRun hrm hs r1
      obtain ⟨n2, y1, y2⟩ := ih f' R (gC_v hv x2) x4 r2
      refine ⟨n + n2, ?_, gC_tr x2 y2⟩
      rw [Nat.mul_succ]; omega
  have sim : gSim A rm bd f P := by
    refine ⟨hP.1, fun t ht => ?_⟩
    by_cases e : f t = A
    · exact .inl e
    · obtain ⟨v, v1, v2, v4⟩ := (hP.2 t ht).2 e
      have := hV.1 t
      exact .inr ⟨by omega, hnb t ht e, v, v1, v2, v4⟩
  obtain ⟨n, n1, n2⟩ := go k f P hV sim hk
  refine ⟨n, ?_, n2⟩
  have : A * k ≤ A * 9 := Nat.mul_le_mul_left A k9
  omega
/-- a row of places, where nobody stands beyond the ROOM -/
theorem gR_start {f : gSt} (h1 : ∀ a b, a < b → b < 3 → f a ≠ A → f a = f b → rm (f a) = 2) (h3 : f 0 ≠ A → f 0 = f 1 → f 1 = f 2 → False) (hV : gV A f) : ∃ P, gR A rm f P := by
  have pick : ∀ t, t < 3 → ∃ v, v / 2 = f t ∧ (v % 2 = 1 ↔ ∃ u, u < t ∧ f u = f t) := fun t ht => by
    by_cases c : ∃ u, u < t ∧ f u = f t
    · exact ⟨2 * f t + 1, by omega, fun _ => c, fun _ => by omega⟩
    · exact ⟨2 * f t, by omega, fun q => by omega, fun q => absurd q c⟩
  obtain ⟨v0, a0, b0⟩ := pick 0 (by omega)
  obtain ⟨v1, a1, b1⟩ := pick 1 (by omega)
  obtain ⟨v2, a2, b2⟩ := pick 2 (by omega)
  have hg : ∃ g : Nat → Nat, ∀ t, t < 3 → g t / 2 = f t ∧ (g t % 2 = 1 ↔ ∃ u, u < t ∧ f u = f t) := by
    refine ⟨fun t => if t = 0 then v0 else if t = 1 then v1 else v2, fun t ht => ?_⟩
    rcases (show t = 0 ∨ t = 1 ∨ t = 2 by omega) with rfl | rfl | rfl
    · exact ⟨a0, b0⟩
    · exact ⟨a1, b1⟩
    · exact ⟨a2, b2⟩
  obtain ⟨g, hg⟩ := hg
  have ne : ∀ a b, a < b → b < 3 → f a ≠ A → g a ≠ g b := fun a b h4 h5 h6 e => by
    obtain ⟨x1, x2⟩ := hg a (by omega)
    obtain ⟨y1, y2⟩ := hg b h5
    have ed : f a = f b := by rw [← x1, ← y1, e]
    have ob := y2.mpr ⟨a, h4, ed⟩
    rw [← e] at ob
    obtain ⟨u, u1, u2⟩ := x2.mp ob
    have e0 : u = 0 := by omega
    have e1 : a = 1 := by omega
    have e2 : b = 2 := by omega
    subst e0 e1 e2
    exact h3 (by rw [u2]; exact h6) u2 ed
  refine ⟨fun t => if t < 3 ∧ f t ≠ A then some (g t) else none, ⟨fun u hu => if_neg (fun q => by omega), fun a b v ha hb => ?_⟩, fun t ht => ⟨fun e => if_neg (fun q => q.2 e), fun e => ?_⟩⟩
  · by_cases ca : a < 3 ∧ f a ≠ A
    · by_cases cb : b < 3 ∧ f b ≠ A
      · simp only [if_pos ca] at ha
        simp only [if_pos cb] at hb
        have e1 := Option.some.inj ha
        have e2 := Option.some.inj hb
        rcases Nat.lt_trichotomy a b with c | c | c
        · exact absurd (by rw [e1, e2]) (ne a b c cb.1 ca.2)
        · exact c
        · exact absurd (by rw [e1, e2]) (ne b a c ca.1 cb.2)
      · simp only [if_neg cb] at hb; cases hb
    · simp only [if_neg ca] at ha; cases ha
  · obtain ⟨x1, x2⟩ := hg t ht
    refine ⟨g t, if_pos ⟨ht, e⟩, x1, fun o => ?_⟩
    obtain ⟨u, u1, u2⟩ := x2.mp o
    rw [x1, ← u2]
    exact h1 u t u1 ht (by rw [u2]; exact e) u2
/-- what is so along a row of STEPS from s: who stands where he may not stands where he began -/
def gI (A : Nat) (rm bd : Nat → Nat) (s f : gSt) : Prop :=
  (∀ a b, a < b → b < 3 → f a ≠ A → f a = f b → rm (f a) = 2 ∨ f a = s a ∨ f b = s b) ∧
  (f 0 ≠ A → f 0 = f 1 → f 1 = f 2 → f 0 = s 0 ∨ f 1 = s 1 ∨ f 2 = s 2) ∧
  (∀ t, t < 3 → f t ≠ A → f t ≠ bd t ∨ f t = s t)
theorem gI_step (hrm : ∀ q, q < A → rm q = 1 ∨ rm q = 2) {s f f' : gSt} (h : gI A rm bd s f) (hM : gM A Ed rm bd f f') : gI A rm bd s f' := by
  obtain ⟨t, q, ht, hlt, hq, he, hc, rfl⟩ := hM
  obtain ⟨i1, i2, i3⟩ := h
  have hr := hrm q hq
  by_cases eb : q = bd t
  · rw [if_pos eb]
    refine ⟨fun a b hab hb hA hq => ?_, fun hA h01 h12 => ?_, fun u hu hA => ?_⟩
    · have na : a ≠ t := fun e => hA (by rw [e, gUp_same])
      have nb : b ≠ t := fun e => hA (by rw [hq, e, gUp_same])
      rw [gUp_ne _ _ na] at hA hq ⊢
      rw [gUp_ne _ _ nb] at hq ⊢
      exact i1 a b hab hb hA hq
    · have n0 : 0 ≠ t := fun e => hA (by rw [e, gUp_same])
      have n1 : 1 ≠ t := fun e => hA (by rw [h01, e, gUp_same])
      have n2 : 2 ≠ t := fun e => hA (by rw [h01, h12, e, gUp_same])
      omega
    · have nu : u ≠ t := fun e => hA (by rw [e, gUp_same])
      rw [gUp_ne _ _ nu] at hA ⊢
      exact i3 u hu hA
  · rw [if_neg eb]
    have two : ∀ u, u < 3 → u ≠ t → f u = q → rm q = 2 := fun u hu _ e => by
      have := gCnt_1 hu e; omega
    refine ⟨fun a b hab hb hA hq2 => ?_, fun hA h01 h12 => ?_, fun u hu hA => ?_⟩
    · by_cases ea : a = t
      · subst ea
        rw [gUp_ne _ _ (show b ≠ a by omega)] at hq2
        rw [gUp_same] at hq2 ⊢
        exact .inl (two b hb (by omega) hq2.symm)
      · rw [gUp_ne _ _ ea] at hA hq2 ⊢
        by_cases ebt : b = t
        · subst ebt
          rw [gUp_same] at hq2
          rw [hq2]
          exact .inl (two a (by omega) ea hq2)
        · rw [gUp_ne _ _ ebt] at hq2 ⊢
          exact i1 a b hab hb hA hq2
    · exfalso
      rcases (show t = 0 ∨ t = 1 ∨ t = 2 by omega) with rfl | rfl | rfl
      · rw [gUp_same, gUp_ne _ _ (show (1 : Nat) ≠ 0 by decide)] at h01
        rw [gUp_ne _ _ (show (1 : Nat) ≠ 0 by decide), gUp_ne _ _ (show (2 : Nat) ≠ 0 by decide)] at h12
        have := gCnt_2 (f := f) (q := q) (show 1 < 3 by decide) (show 2 < 3 by decide) (by decide) h01.symm (h12.symm.trans h01.symm)
        omega
      · rw [gUp_same, gUp_ne _ _ (show (0 : Nat) ≠ 1 by decide)] at h01
        rw [gUp_same, gUp_ne _ _ (show (2 : Nat) ≠ 1 by decide)] at h12
        have := gCnt_2 (f := f) (q := q) (show 0 < 3 by decide) (show 2 < 3 by decide) (by decide) h01 h12.symm
        omega
      · rw [gUp_ne _ _ (show (0 : Nat) ≠ 2 by decide), gUp_ne _ _ (show (1 : Nat) ≠ 2 by decide)] at h01
        rw [gUp_same, gUp_ne _ _ (show (1 : Nat) ≠ 2 by decide)] at h12
        have := gCnt_2 (f := f) (q := q) (show 0 < 3 by decide) (show 1 < 3 by decide) (by decide) (h01.trans h12) h12
        omega
    · by_cases eu : u = t
      · subst eu; rw [gUp_same]; exact .inl eb
      · rw [gUp_ne _ _ eu] at hA ⊢
        exact i3 u hu hA
/-- a row of states -/
def gRow (A : Nat) (Ed : Nat → Nat → Prop) (rm bd : Nat → Nat) (L : Nat) (S : Nat → gSt) : Prop := ∀ i, i < L → gM A Ed rm bd (S i) (S (i + 1))
theorem gRow_C {S : Nat → gSt} {L : Nat} (h : gRow A Ed rm bd L S) : ∀ n i, i + n ≤ L → gC A Ed rm bd n (S i) (S (i + n)) := by
  intro n
  induction n with
  | zero => intro i _; rfl
  | succ n ih =>
    intro i hi
    refine ⟨S (i + 1), h i (by omega), ?_⟩
    have := ih (i + 1) (by omega)
    rw [show i + 1 + n = i + (n + 1) by omega] at this
    exact this
/-- of a shortest row: from any state, however it stands -/
theorem gFar (hrm : ∀ q, q < A → rm q = 1 ∨ rm q = 2) (hA : A ≤ 36) {S : Nat → gSt} {L : Nat} (hV : gV A (S 0)) (h : gRow A Ed rm bd L S) (hL : S L = gEnd A) (hmin : ∀ n i, i ≤ L → gC A Ed rm bd n (S i) (gEnd A) → L ≤ i + n) : L ≤ 4431 := by
  have hv : ∀ i, i ≤ L → gV A (S i) := fun i hi => by
    have := gRow_C h i 0 (by omega)
    rw [Nat.zero_add] at this
    exact gC_v hV this
  have hI : ∀ i, i ≤ L → gI A rm bd (S 0) (S i) := by
    intro i
    induction i with
    | zero => intro _; exact ⟨fun a b _ _ _ _ => .inr (.inl rfl), fun _ _ _ => .inl rfl, fun t _ _ => .inr rfl⟩
    | succ i ih => intro hi; exact gI_step hrm (ih (by omega)) (h i (by omega))
  apply Classical.byContradiction
  intro hbig
  -- nobody where he began: 9 A more
  have far : ∀ i, i ≤ 4107 → ∃ t, t < 3 ∧ S i t = S 0 t ∧ S i t ≠ A := by
    intro i hi
    apply Classical.byContradiction
    intro hno
    have hno : ∀ t, t < 3 → S i t ≠ A → S i t ≠ S 0 t := fun t ht h1 h2 => hno ⟨t, ht, h2, h1⟩
    obtain ⟨j1, j2, j3⟩ := hI i (by omega)
    obtain ⟨P, hP⟩ := gR_start (A := A) (rm := rm) (f := S i) (fun a b hab hb ha he => by
      rcases j1 a b hab hb ha he with g | g | g
      · exact g
      · exact absurd g (hno a (by omega) ha)
      · exact absurd g (hno b hb (by rw [← he]; exact ha))) (fun h0 h01 h12 => by
      rcases j2 h0 h01 h12 with g | g | g
      · exact hno 0 (by omega) h0 g
      · exact hno 1 (by omega) (by rw [← h01]; exact h0) g
      · exact hno 2 (by omega) (by rw [← h12, ← h01]; exact h0) g) (hv i (by omega))
    have e := gRow_C h (L - i) i (by omega)
    rw [show i + (L - i) = L by omega, hL] at e
    obtain ⟨n, n1, n2⟩ := gShort hrm (hv i (by omega)) hP (fun t ht h1 => by
      rcases j3 t ht h1 with g | g
      · exact g
      · exact absurd g (hno t ht h1)) e
    have := hmin n i (by omega) n2
    omega
  have inj : ∀ i j, i < j → j ≤ L → (∀ t, t < 3 → S i t = S j t) → False := by
    intro i j hij hj he
    have e : S i = S j := by
      funext t
      by_cases ht : t < 3
      · exact he t ht
      · rw [(hv i (by omega)).2 t (by omega), (hv j hj).2 t (by omega)]
    have g := gRow_C h (L - j) j (by omega)
    rw [show j + (L - j) = L by omega, hL, ← e] at g
    have := hmin _ i (by omega) g
    omega
  have cod : ∀ i, i ≤ 4107 → ∃ c, c < 4107 ∧ ((c / 1369 = 0 ∧ S i 0 = S 0 0 ∧ c % 37 = S i 1 ∧ c / 37 % 37 = S i 2) ∨ (c / 1369 = 1 ∧ S i 1 = S 0 1 ∧ c % 37 = S i 0 ∧ c / 37 % 37 = S i 2) ∨ (c / 1369 = 2 ∧ S i 2 = S 0 2 ∧ c % 37 = S i 0 ∧ c / 37 % 37 = S i 1)) := by
    intro i hi
    have b0 := (hv i (by omega)).1 0
    have b1 := (hv i (by omega)).1 1
    have b2 := (hv i (by omega)).1 2
    obtain ⟨t, ht, e, _⟩ := far i hi
    rcases (show t = 0 ∨ t = 1 ∨ t = 2 by omega) with rfl | rfl | rfl
    · exact ⟨S i 1 + 37 * S i 2, by omega, .inl ⟨by omega, e, by omega, by omega⟩⟩
    · exact ⟨1369 + (S i 0 + 37 * S i 2), by omega, .inr (.inl ⟨by omega, e, by omega, by omega⟩)⟩
    · exact ⟨2738 + (S i 0 + 37 * S i 1), by omega, .inr (.inr ⟨by omega, e, by omega, by omega⟩)⟩
  have ch : ∃ c : Nat → Nat, ∀ i, i ≤ 4107 → c i < 4107 ∧ ((c i / 1369 = 0 ∧ S i 0 = S 0 0 ∧ c i % 37 = S i 1 ∧ c i / 37 % 37 = S i 2) ∨ (c i / 1369 = 1 ∧ S i 1 = S 0 1 ∧ c i % 37 = S i 0 ∧ c i / 37 % 37 = S i 2) ∨ (c i / 1369 = 2 ∧ S i 2 = S 0 2 ∧ c i % 37 = S i 0 ∧ c i / 37 % 37 = S i 1)) :=
    ⟨fun i => if hi : i ≤ 4107 then Classical.choose (cod i hi) else 0, fun i hi => by
      simp only [dif_pos hi]
      exact Classical.choose_spec (cod i hi)⟩
  obtain ⟨c, hc⟩ := ch
  have nd : ((List.range 4108).map c).Nodup := by
    show List.Pairwise (fun a b => a ≠ b) _
    refine List.pairwise_map.mpr ?_
    refine List.Pairwise.imp_of_mem ?_ (List.nodup_range : (List.range 4108).Nodup)
    intro a b ha hb hne heq
    have ha := List.mem_range.mp ha
    have hb := List.mem_range.mp hb
    obtain ⟨_, x⟩ := hc a (by omega)
    obtain ⟨_, y⟩ := hc b (by omega)
    rw [← heq] at y
    have all : ∀ t, t < 3 → S a t = S b t := by
      intro t ht
      rcases (show t = 0 ∨ t = 1 ∨ t = 2 by omega) with rfl | rfl | rfl <;> rcases x with ⟨x1, x2, x3, x4⟩ | ⟨x1, x2, x3, x4⟩ | ⟨x1, x2, x3, x4⟩ <;> rcases y with ⟨y1, y2, y3, y4⟩ | ⟨y1, y2, y3, y4⟩ | ⟨y1, y2, y3, y4⟩ <;> first | (exfalso; omega) | omega
    rcases Nat.lt_or_gt_of_ne hne with g | g
    · exact inj a b g (by omega) all
    · exact inj b a g (by omega) (fun t ht => (all t ht).symm)
  have := gk_short nd (n := 4107) (fun x hx => by
    obtain ⟨i, hi, rfl⟩ := List.mem_map.mp hx
    exact (hc i (by have := List.mem_range.mp hi; omega)).1)
  rw [List.length_map, List.length_range] at this
  omega
end Gg
