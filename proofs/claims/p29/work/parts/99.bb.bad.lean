/-! ALLEYS: where a FAULT lies; the text but for its end -/
theorem kTok_cg {t t' : Nat → Int} {n lim : Nat} (h : ∀ j, j < n → t j = t' j) {p : Nat} {x : Tk} (k : kTok t n lim p x) : kTok t' n lim p x := by
  obtain ⟨q, ⟨s1, s2, s3, s4⟩, a⟩ := k
  refine ⟨q, ⟨s1, s2, fun j h1 h2 => by rw [← h j (by omega)]; exact s3 j h1 h2, ?_⟩, ?_⟩
  · by_cases c : q = n
    · exact .inl c
    · rw [← h q (by omega)]; exact s4
  · rcases a with a | ⟨a1, k, ⟨r1, r2, r3⟩, a2⟩
    · exact .inl a
    · have r' : tRun t' n q k := ⟨r1, fun j hj => by rw [← h _ (by omega)]; exact r2 j hj, by
        by_cases c : q + k = n
        · exact .inl c
        · rw [← h _ (by omega)]; exact r3⟩
      refine .inr ⟨a1, k, r', ?_⟩
      have e0 : t q = t' q := h q (by omega)
      have en : ∀ m, m ≤ k → tN t q m = tN t' q m := by
        intro m
        induction m with
        | zero => intro _; rfl
        | succ m ih =>
          intro hm
          show tN t q m + (if tL (t (q + m)) then 1 else 0) = tN t' q m + (if tL (t' (q + m)) then 1 else 0)
          rw [ih (by omega), h (q + m) (by omega)]
      have ek : tKd t q k = tKd t' q k := by unfold tKd; rw [en k (Nat.le_refl _)]
      have e256 : tF 256 t q k = tF 256 t' q k := tF_cg k (fun i hi => h _ (by omega))
      have e10 : tF 10 (fun j => t j - 48) q k = tF 10 (fun j => t' j - 48) q k := tF_cg k (fun i hi => by show t (q + i) - 48 = t' (q + i) - 48; rw [h _ (by omega)])
      rcases a2 with ⟨b1, b2⟩ | ⟨b1, b2⟩
      · exact .inl ⟨b1, by rw [b2, e0]⟩
      · exact .inr ⟨b1, by rw [b2, ek, e256, e10]⟩
theorem tk_cg {t t' : Nat → Int} {n lim : Nat} (h : ∀ j, j < n → t j = t' j) : tk t n lim = tk t' n lim := by
  funext p
  unfold tk
  rw [show kTok t n lim p = kTok t' n lim p from funext fun x => propext ⟨kTok_cg h, kTok_cg (fun j hj => (h j hj).symm)⟩]
theorem tk_pl {t : Nat → Int} {n lim p : Nat} (hp : p ≤ n) : (tk t n lim p).2.1 ≤ n := by
  obtain ⟨q, s, a⟩ := (tk_ok (t := t) (lim := lim) hp).1
  have := s.2.1
  rcases a with ⟨a1, a2⟩ | ⟨a1, k, r, a2⟩
  · rw [a2]; show min n lim ≤ n; omega
  · rcases a2 with ⟨_, b2⟩ | ⟨_, b2⟩
    · rw [b2]; exact this
    · rw [b2]; exact this
/-- a FAULT's sort and place -/
def kBad (n : Nat) (f : Int × Nat) : Prop := 1 ≤ f.1 ∧ f.1 ≤ 5 ∧ f.2 ≤ n
theorem kB {n y : Nat} {s : Int} (h : y ≤ n) (h1 : 1 ≤ s) (h5 : s ≤ 5) : kBad n (s, y) := ⟨h1, h5, h⟩
abbrev tPl (tk : Nat → Tk) (n : Nat) : Prop := ∀ q, q ≤ n → (tk q).2.1 ≤ n
section Sb
variable {tk : Nat → Tk} {n : Nat} {S : Ld} {f : Int × Nat} {p : Nat}
theorem kNum_bad (P : tPl tk n) {lo hi : Int} (hp : p ≤ n) (e : kNum tk lo hi p = .inl f) : kBad n f := by
  unfold kNum at e
  split at e
  · split at e
    · cases e
    · cases e; exact kB (P p hp) (by decide) (by decide)
  · cases e; exact kB (P p hp) (by decide) (by decide)
theorem kCell_bad (H : tGo tk n) (P : tPl tk n) (hp : p ≤ n) (e : kCell tk S p = .inl f) : kBad n f := by
  unfold kCell at e
  split at e
  · rename_i f' h1
    cases e; exact kNum_bad P hp h1
  · rename_i x p1 h1
    split at e
    · rename_i f' h2
      cases e; exact kNum_bad P (kNum_go H hp h1).2 h2
    · cases e
theorem kOpen_bad (H : tGo tk n) (P : tPl tk n) (hp : p ≤ n) (e : kOpen tk S p = .inl f) : kBad n f := by
  unfold kOpen at e
  split at e
  · rename_i f' h1
    cases e; exact kCell_bad H P hp h1
  · rename_i x p1 h1
    split at e
    · cases e; exact kB (P _ (kCell_go H hp h1).2) (by decide) (by decide)
    · cases e
theorem kDir_bad (P : tPl tk n) (hp : p ≤ n) (e : kDir tk p = .inl f) : kBad n f := by
  unfold kDir at e
  split at e
  · cases e
  · cases e; exact kB (P p hp) (by decide) (by decide)
theorem kMark_bad (H : tGo tk n) (P : tPl tk n) {s most : Nat} (hp : p ≤ n) (e : kMark tk S s most p = .inl f) : kBad n f := by
  have a := H p hp
  unfold kMark at e
  split at e
  · cases e; exact kB (P p hp) (by decide) (by decide)
  · split at e
    · rename_i f' h1
      cases e; exact kCell_bad H P a.2 h1
    · rename_i x p1 h1
      split at e
      · cases e; exact kB (P _ (kCell_go H a.2 h1).2) (by decide) (by decide)
      · cases e
theorem kLane_bad (H : tGo tk n) (P : tPl tk n) (hp : p ≤ n) (e : kLane tk S p = .inl f) : kBad n f := by
  have a := H p hp
  unfold kLane at e
  split at e
  · cases e; exact kB (P p hp) (by decide) (by decide)
  · split at e
    · rename_i f' h1
      cases e; exact kCell_bad H P a.2 h1
    · rename_i x p1 h1
      have b := kCell_go H a.2 h1
      split at e
      · cases e; exact kB (P _ b.2) (by decide) (by decide)
      · split at e
        · rename_i f' h2
          cases e; exact kDir_bad P (H _ b.2).2 h2
        · cases e
theorem kChair3_bad (H : tGo tk n) (P : tPl tk n) {v g : Int} (hp : p ≤ n) (e : kChair3 tk S v g p = .inl f) : kBad n f := by
  unfold kChair3 at e
  split at e
  · rename_i f' h1
    cases e; exact kNum_bad P hp h1
  · rename_i r p1 h1
    have a := kNum_go H hp h1
    split at e
    · rename_i f' h2
      cases e; exact kNum_bad P a.2 h2
    · rename_i r2 p2 h2
      have b := kNum_go H a.2 h2
      split at e
      · rename_i f' h3
        cases e; exact kOpen_bad H P b.2 h3
      · cases e
theorem kChair_bad (H : tGo tk n) (P : tPl tk n) (hp : p ≤ n) (e : kChair tk S p = .inl f) : kBad n f := by
  have a := H p hp
  have b := H _ a.2
  unfold kChair at e
  split at e
  · cases e; exact kB (P p hp) (by decide) (by decide)
  · split at e
    · cases e; exact kB (P _ a.2) (by decide) (by decide)
    · split at e
      · cases e; exact kB (P _ a.2) (by decide) (by decide)
      · unfold kChair2 at e
        split at e
        · rename_i f' h1
          cases e; exact kOpen_bad H P b.2 h1
        · rename_i g p1 h1
          exact kChair3_bad H P (kOpen_go H b.2 h1).2 e
theorem kName_bad (P : tPl tk n) (hp : p ≤ n) (e : kName tk S p = .inl f) : kBad n f := by
  unfold kName at e
  split at e
  · cases e; exact kB (P p hp) (by decide) (by decide)
  · split at e
    · cases e; exact kB (P p hp) (by decide) (by decide)
    · cases e
theorem kStart_bad (H : tGo tk n) (P : tPl tk n) (hp : p ≤ n) (e : kStart tk S p = .inl f) : kBad n f := by
  have a := H p hp
  have b := H _ a.2
  unfold kStart at e
  split at e
  · rename_i f' h1
    cases e; exact kName_bad P a.2 h1
  · split at e
    · cases e; exact kB (P _ a.2) (by decide) (by decide)
    · split at e
      · rename_i f' h1
        cases e; exact kNum_bad P b.2 h1
      · cases e
theorem kSick_bad (H : tGo tk n) (P : tPl tk n) (hp : p ≤ n) (e : kSick tk S p = .inl f) : kBad n f := by
  have a := H p hp
  unfold kSick at e
  split at e
  · rename_i f' h1
    cases e; exact kName_bad P a.2 h1
  · split at e
    · cases e; exact kB (P _ a.2) (by decide) (by decide)
    · cases e
theorem kWays_bad (H : tGo tk n) (P : tPl tk n) : ∀ (m : Nat) {S : Ld} {p : Nat}, p ≤ n → kWays tk m S p = .inl f → kBad n f := by
  intro m
  induction m with
  | zero =>
    intro S p hp e
    rw [kWays] at e
    cases e
  | succ m ih =>
    intro S p hp e
    have a := H p hp
    rw [kWays] at e
    split at e
    · cases e
    · split at e
      · cases e; exact kB (P p hp) (by decide) (by decide)
      · split at e
        · cases e; exact kB (P p hp) (by decide) (by decide)
        · exact ih a.2 e
theorem kSize_bad (H : tGo tk n) (P : tPl tk n) (hp : p ≤ n) (e : kSize tk S p = .inl f) : kBad n f := by
  have a := H p hp
  unfold kSize at e
  split at e
  · cases e; exact kB (P p hp) (by decide) (by decide)
  · split at e
    · rename_i f' h1
      cases e; exact kNum_bad P a.2 h1
    · rename_i r p1 h1
      split at e
      · rename_i f' h2
        cases e; exact kNum_bad P (kNum_go H a.2 h1).2 h2
      · cases e
theorem kLine_bad (H : tGo tk n) (P : tPl tk n) (hp : p ≤ n) (e : kLine tk S p = .inl f) : kBad n f := by
  unfold kLine at e
  split at e
  · cases e; exact kB (P p hp) (by decide) (by decide)
  · split at e
    · exact kSize_bad H P hp e
    · split at e
      · exact kMark_bad H P hp e
      · split at e
        · exact kMark_bad H P hp e
        · split at e
          · exact kMark_bad H P hp e
          · split at e
            · exact kLane_bad H P hp e
            · split at e
              · exact kChair_bad H P hp e
              · split at e
                · exact kStart_bad H P hp e
                · split at e
                  · exact kSick_bad H P hp e
                  · split at e
                    · unfold kLaw at e
                      split at e
                      · cases e; exact kB (P p hp) (by decide) (by decide)
                      · exact kWays_bad H P 4 (H p hp).2 e
                    · cases e; exact kB (P p hp) (by decide) (by decide)
theorem kAll_bad (H : tGo tk n) (P : tPl tk n) : ∀ (m : Nat) {S : Ld} {c p : Nat}, p ≤ n → kAll tk m S c p = .inl f → kBad n f := by
  intro m
  induction m with
  | zero =>
    intro S c p hp e
    rw [kAll] at e
    cases e
  | succ m ih =>
    intro S c p hp e
    rw [kAll] at e
    split at e
    · cases e
    · split at e
      · rename_i f' h1
        cases e; exact kLine_bad H P hp h1
      · rename_i S1 p1 h1
        have a := kLine_go H hp h1
        split at e
        · rename_i f' h2
          cases e
          unfold kSign at h2
          split at h2
          · cases h2
          · cases h2; exact kB (P _ a.2) (by decide) (by decide)
        · rename_i p2 h2
          unfold kSign at h2
          split at h2
          · cases h2; exact ih (H _ a.2).2 e
          · cases h2
end Sb
