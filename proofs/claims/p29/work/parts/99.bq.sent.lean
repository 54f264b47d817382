/-! SENTENCE: what a text says (pure) -/
/-- what is read of it: how many ONES, how many parts, the parts (word, sign, number) -/
abbrev Sn : Type := Nat × Nat × (Nat → Int × Int × Int)
def sAdd (s : Sn) (w c v : Int) : Sn := (s.1, s.2.1 + 1, fun i => if i = s.2.1 then (w, c, v) else s.2.2 i)
def sOne (s : Sn) : Sn := (s.1 + 1, s.2.1, s.2.2)
section Sp
variable (tk : Nat → Tk)
abbrev kIsW (a b : Int) (p : Nat) : Prop := (tk p).1 = 1 ∧ a ≤ rIx (tk p).2.2.1 ∧ rIx (tk p).2.2.1 ≤ b
abbrev kIsS (c : Int) (p : Nat) : Prop := (tk p).1 = 3 ∧ (tk p).2.2.1 = c
abbrev kBegins (p : Nat) : Prop := kIsS tk 40 p ∨ kIsW tk 18 23 p ∨ kIsW tk 9 11 p ∨ kIsW tk 7 7 p
/-- ONE's rest, behind its word w -/
def kPlain (S : Ld) (s : Sn) (w : Int) (p : Nat) : Rs (Sn × Nat) :=
  if w = 19 ∨ w = 7 then .inr (sAdd s w 0 0, p) else
  if w = 20 then
    match kName tk S p with
    | .inl f => .inl f
    | .inr c => .inr (sAdd s w 0 (c : Int), (tk p).2.2.2)
  else
  if ¬ (kIsS tk 60 p ∨ kIsS tk 61 p ∨ kIsS tk 62 p) then .inl (1, (tk p).2.1) else
  match kNum tk 0 999 (tk p).2.2.2 with
  | .inl f => .inl f
  | .inr (v, p2) => .inr (sAdd s w (tk p).2.2.1 v, p2)
/-- what the word w joins on, m times at most -/
def kLoop (one : Sn → Nat → Rs (Sn × Nat)) (w : Int) : Nat → Sn → Nat → Rs (Sn × Nat)
  | 0, s, p => .inr (s, p)
  | m + 1, s, p => if kIsW tk w w p then
      match one s (tk p).2.2.2 with
      | .inl f => .inl f
      | .inr (s2, p2) => kLoop one w m (sAdd s2 w 0 0) p2
    else .inr (s, p)
def kSeq (one : Sn → Nat → Rs (Sn × Nat)) (w : Int) (s : Sn) (p : Nat) : Rs (Sn × Nat) :=
  match one s p with
  | .inl f => .inl f
  | .inr (s2, p2) => kLoop tk one w 20 s2 p2
/-- ONE, so many more within one another -/
def kOne (S : Ld) : Nat → Sn → Nat → Rs (Sn × Nat)
  | 0, _, p => if ¬ kBegins tk p then .inl (1, (tk p).2.1) else .inl (4, (tk p).2.1)
  | e + 1, s, p => if ¬ kBegins tk p then .inl (1, (tk p).2.1) else
    if 20 ≤ s.1 then .inl (4, (tk p).2.1) else
    if kIsS tk 40 p then
      match kSeq tk (kSeq tk (kOne S e) 17) 16 (sOne s) (tk p).2.2.2 with
      | .inl f => .inl f
      | .inr (s2, p2) => match kSign tk 41 p2 with
        | .inl f => .inl f
        | .inr p3 => .inr (s2, p3)
    else if rIx (tk p).2.2.1 = 18 then
      match kOne S e (sOne s) (tk p).2.2.2 with
      | .inl f => .inl f
      | .inr (s2, p2) => .inr (sAdd s2 18 0 0, p2)
    else kPlain tk S (sOne s) (rIx (tk p).2.2.1) (tk p).2.2.2
def Sn0 : Sn := (0, 0, fun _ => (0, 0, 0))
def kCond (S : Ld) : Sn → Nat → Rs (Sn × Nat) := kSeq tk (kSeq tk (kOne tk S 8) 17) 16
/-- all of it -/
def kSent (S : Ld) : Rs Sn :=
  match kCond tk S Sn0 0 with
  | .inl f => .inl f
  | .inr (s, p) => if (tk p).1 = 0 then .inr s else .inl (1, (tk p).2.1)
/-- how far what is read goes -/
def sGd (n : Nat) (one : Sn → Nat → Rs (Sn × Nat)) : Prop := ∀ s p s' p', p ≤ n → one s p = .inr (s', p') → s.1 < s'.1 ∧ s'.1 ≤ 20 ∧ s'.2.1 + 2 * s.1 + 1 ≤ s.2.1 + 2 * s'.1 ∧ p' ≤ n
def sBd (n : Nat) (one : Sn → Nat → Rs (Sn × Nat)) : Prop := ∀ s p f, p ≤ n → one s p = .inl f → kBad n f
end Sp
section Sq
variable {tk : Nat → Tk} {n : Nat} {S : Ld} {one : Sn → Nat → Rs (Sn × Nat)}
theorem kLoop_gd (H : tGo tk n) (h : sGd n one) (w : Int) : ∀ (m : Nat) {s s' : Sn} {p p' : Nat}, p ≤ n → s.1 ≤ 20 → kLoop tk one w m s p = .inr (s', p') → s.1 ≤ s'.1 ∧ s'.1 ≤ 20 ∧ s'.2.1 + 2 * s.1 ≤ s.2.1 + 2 * s'.1 ∧ p' ≤ n ∧ (¬ kIsW tk w w p' ∨ s.1 + m ≤ s'.1) := by
  intro m
  induction m with
  | zero =>
    intro s s' p p' hp h20 e
    rw [kLoop] at e
    cases e
    exact ⟨Nat.le_refl _, h20, Nat.le_refl _, hp, .inr (Nat.le_refl _)⟩
  | succ m ih =>
    intro s s' p p' hp h20 e
    rw [kLoop] at e
    split at e
    · split at e
      · cases e
      · rename_i s2 p2 h1
        obtain ⟨a1, a2, a3, a4⟩ := h s _ s2 p2 (H p hp).2 h1
        have b := @ih (sAdd s2 w 0 0) s' p2 p' a4 a2 e
        have b1 : s2.1 ≤ s'.1 := b.1
        have b3 : s'.2.1 + 2 * s2.1 ≤ (s2.2.1 + 1) + 2 * s'.1 := b.2.2.1
        refine ⟨by omega, b.2.1, by omega, b.2.2.2.1, b.2.2.2.2.imp id (fun q => ?_)⟩
        have q : s2.1 + m ≤ s'.1 := q
        omega
    · rename_i c
      cases e
      exact ⟨Nat.le_refl _, h20, Nat.le_refl _, hp, .inl c⟩
theorem kSeq_gd (H : tGo tk n) (h : sGd n one) (w : Int) : sGd n (kSeq tk one w) := by
  intro s p s' p' hp e
  unfold kSeq at e
  split at e
  · cases e
  · rename_i s1 p1 h1
    obtain ⟨a1, a2, a3, a4⟩ := h s p s1 p1 hp h1
    obtain ⟨b1, b2, b3, b4, -⟩ := kLoop_gd H h w 20 a4 a2 e
    exact ⟨by omega, b2, by omega, b4⟩
theorem kSeq_end (H : tGo tk n) (h : sGd n one) {w : Int} {s s' : Sn} {p p' : Nat} (hp : p ≤ n) (e : kSeq tk one w s p = .inr (s', p')) : ¬ kIsW tk w w p' := by
  unfold kSeq at e
  split at e
  · cases e
  · rename_i s1 p1 h1
    obtain ⟨a1, a2, a3, a4⟩ := h s p s1 p1 hp h1
    obtain ⟨b1, b2, b3, b4, b5⟩ := kLoop_gd H h w 20 a4 a2 e
    rcases b5 with b5 | b5
    · exact b5
    · exfalso; omega
theorem kLoop_end (H : tGo tk n) (h : sGd n one) {E : Nat → Prop} (hE : ∀ s p s' p', p ≤ n → one s p = .inr (s', p') → E p') (w : Int) : ∀ (m : Nat) {s s' : Sn} {p p' : Nat}, p ≤ n → E p → kLoop tk one w m s p = .inr (s', p') → E p' := by
  intro m
  induction m with
  | zero =>
    intro s s' p p' hp q e
    rw [kLoop] at e
    cases e; exact q
  | succ m ih =>
    intro s s' p p' hp q e
    rw [kLoop] at e
    split at e
    · split at e
      · cases e
      · rename_i s2 p2 h1
        exact ih (h s _ s2 p2 (H p hp).2 h1).2.2.2 (hE s _ s2 p2 (H p hp).2 h1) e
    · cases e; exact q
theorem kPlain_gd (H : tGo tk n) {s s' : Sn} {w : Int} {p p' : Nat} (hp : p ≤ n) (e : kPlain tk S s w p = .inr (s', p')) : s'.1 = s.1 ∧ s'.2.1 = s.2.1 + 1 ∧ p' ≤ n := by
  unfold kPlain at e
  split at e
  · cases e; exact ⟨rfl, rfl, hp⟩
  · split at e
    · split at e
      · cases e
      · cases e; exact ⟨rfl, rfl, (H p hp).2⟩
    · split at e
      · cases e
      · split at e
        · cases e
        · rename_i v p2 h1
          cases e; exact ⟨rfl, rfl, (kNum_go H (H p hp).2 h1).2⟩
theorem kSign_go (H : tGo tk n) {c : Int} {p p' : Nat} (hp : p ≤ n) (e : kSign tk c p = .inr p') : p' ≤ n := by
  unfold kSign at e
  split at e
  · cases e; exact (H p hp).2
  · cases e
theorem kOne_gd (H : tGo tk n) : ∀ e, sGd n (kOne tk S e) := by
  intro e
  induction e with
  | zero =>
    intro s p s' p' hp q
    rw [kOne] at q
    split at q <;> cases q
  | succ e ih =>
    intro s p s' p' hp q
    have g := (H p hp).2
    rw [kOne] at q
    split at q
    · cases q
    · split at q
      · cases q
      · rename_i n20
        split at q
        · split at q
          · cases q
          · rename_i s2 p2 h1
            obtain ⟨a1, a2, a3, a4⟩ := kSeq_gd H (kSeq_gd H ih 17) 16 (sOne s) _ s2 p2 g h1
            have a1 : s.1 + 1 < s2.1 := a1
            have a3 : s2.2.1 + 2 * (s.1 + 1) + 1 ≤ s.2.1 + 2 * s2.1 := a3
            split at q
            · cases q
            · rename_i p3 h2
              cases q
              exact ⟨by omega, a2, by omega, kSign_go H a4 h2⟩
        · split at q
          · split at q
            · cases q
            · rename_i s2 p2 h1
              obtain ⟨a1, a2, a3, a4⟩ := ih (sOne s) _ s2 p2 g h1
              have a1 : s.1 + 1 < s2.1 := a1
              have a3 : s2.2.1 + 2 * (s.1 + 1) + 1 ≤ s.2.1 + 2 * s2.1 := a3
              cases q
              refine ⟨?_, a2, ?_, a4⟩
              · show s.1 < s2.1; omega
              · show s2.2.1 + 1 + 2 * s.1 + 1 ≤ s.2.1 + 2 * s2.1; omega
          · obtain ⟨a1, a2, a3⟩ := kPlain_gd H g q
            have a1 : s'.1 = s.1 + 1 := a1
            have a2 : s'.2.1 = s.2.1 + 1 := a2
            exact ⟨by omega, by omega, by omega, a3⟩
theorem kLoop_bd (H : tGo tk n) (h : sGd n one) (hb : sBd n one) (w : Int) : ∀ (m : Nat) {s : Sn} {p : Nat} {f : Int × Nat}, p ≤ n → kLoop tk one w m s p = .inl f → kBad n f := by
  intro m
  induction m with
  | zero =>
    intro s p f hp e
    rw [kLoop] at e
    cases e
  | succ m ih =>
    intro s p f hp e
    rw [kLoop] at e
    split at e
    · split at e
      · rename_i f' h1
        cases e; exact hb s _ _ (H p hp).2 h1
      · rename_i s2 p2 h1
        exact ih (h s _ s2 p2 (H p hp).2 h1).2.2.2 e
    · cases e
theorem kSeq_bd (H : tGo tk n) (h : sGd n one) (hb : sBd n one) (w : Int) : sBd n (kSeq tk one w) := by
  intro s p f hp e
  unfold kSeq at e
  split at e
  · rename_i f' h1
    cases e; exact hb s p _ hp h1
  · rename_i s1 p1 h1
    exact kLoop_bd H h hb w 20 (h s p s1 p1 hp h1).2.2.2 e
theorem kPlain_bd (H : tGo tk n) (P : tPl tk n) {s : Sn} {w : Int} {p : Nat} {f : Int × Nat} (hp : p ≤ n) (e : kPlain tk S s w p = .inl f) : kBad n f := by
  unfold kPlain at e
  split at e
  · cases e
  · split at e
    · split at e
      · rename_i f' h1
        cases e; exact kName_bad P hp h1
      · cases e
    · split at e
      · cases e; exact kB (P p hp) (by decide) (by decide)
      · split at e
        · rename_i f' h1
          cases e; exact kNum_bad P (H p hp).2 h1
        · cases e
theorem kOne_bd (H : tGo tk n) (P : tPl tk n) : ∀ e, sBd n (kOne tk S e) := by
  intro e
  induction e with
  | zero =>
    intro s p f hp q
    rw [kOne] at q
    split at q <;> (cases q; exact kB (P p hp) (by decide) (by decide))
  | succ e ih =>
    intro s p f hp q
    have g := (H p hp).2
    rw [kOne] at q
    split at q
    · cases q; exact kB (P p hp) (by decide) (by decide)
    · split at q
      · cases q; exact kB (P p hp) (by decide) (by decide)
      · split at q
        · split at q
          · rename_i f' h1
            cases q
            exact kSeq_bd H (kSeq_gd H (kOne_gd H e) 17) (kSeq_bd H (kOne_gd H e) ih 17) 16 _ _ _ g h1
          · rename_i s2 p2 h1
            have a4 := (kSeq_gd H (kSeq_gd H (kOne_gd H e) 17) 16 (sOne s) _ s2 p2 g h1).2.2.2
            split at q
            · rename_i f' h2
              cases q
              unfold kSign at h2
              split at h2
              · cases h2
              · cases h2; exact kB (P _ a4) (by decide) (by decide)
            · cases q
        · split at q
          · split at q
            · rename_i f' h1
              cases q
              exact ih _ _ _ g h1
            · cases q
          · exact kPlain_bd H P g q
theorem kCond_gd (H : tGo tk n) : sGd n (kCond tk S) := kSeq_gd H (kSeq_gd H (kOne_gd H 8) 17) 16
theorem kSent_bad (H : tGo tk n) (P : tPl tk n) {f : Int × Nat} (e : kSent tk S = .inl f) : kBad n f := by
  unfold kSent at e
  split at e
  · rename_i f' h1
    cases e
    exact kSeq_bd H (kSeq_gd H (kOne_gd H 8) 17) (kSeq_bd H (kOne_gd H 8) (kOne_bd H P 8) 17) 16 _ _ _ (Nat.zero_le n) h1
  · rename_i s p h1
    split at e
    · cases e
    · cases e
      exact kB (P _ (kCond_gd H Sn0 0 s p (Nat.zero_le n) h1).2.2.2) (by decide) (by decide)
theorem kSent_ok (H : tGo tk n) {s : Sn} (e : kSent tk S = .inr s) : s.1 ≤ 20 ∧ s.2.1 ≤ 39 := by
  unfold kSent at e
  split at e
  · cases e
  · rename_i s' p h1
    split at e
    · cases e
      obtain ⟨a1, a2, a3, -⟩ := kCond_gd H Sn0 0 s p (Nat.zero_le n) h1
      have a3 : s.2.1 + 2 * 0 + 1 ≤ 0 + 2 * s.1 := a3
      exact ⟨a2, by omega⟩
    · cases e
end Sq
