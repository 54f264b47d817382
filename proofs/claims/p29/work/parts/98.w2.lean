/-! THE REFERENCE's CONTRACTS: the knot, 7: the first knot has a row of places. -/
/-- at most ROOM stand on a CELL -/
def mRm (I : Nat → Nat → Int) : Prop :=
  (∀ a b : Nat, a < b → b < 8 → (b : Int) < I 104 2 → 0 ≤ I 104 (470 + a) → I 104 (470 + a) = I 104 (470 + b) → I 104 (210 + (I 104 (470 + a)).toNat) = 1) ∧
  (∀ a b c : Nat, a < b → b < c → c < 8 → (c : Int) < I 104 2 → 0 ≤ I 104 (470 + a) → I 104 (470 + a) = I 104 (470 + b) → I 104 (470 + b) = I 104 (470 + c) → False)
/-- who is out is not where it is bound -/
def mNb (I : Nat → Nat → Int) : Prop := ∀ k : Nat, k < 8 → (k : Int) < I 104 2 → 0 ≤ I 104 (470 + k) → I 104 (470 + k) ≠ I 104 (334 + k)
theorem kR_start {J : Nat → Nat → Int} {W A m s : Nat} (hm3 : m ≤ 3) (hv : ∀ t, t < m → mDg s t < A) (hv' : ∀ t, t < 3 → m ≤ t → mDg s t = 36) (hn : ∀ t, t < m → mDg s t ≠ 36)
    (h2 : ∀ a b, a < b → b < m → mDg s a = mDg s b → J 104 (210 + (mCe W (mDg s a)).toNat) = 1) (h3 : ∀ a b c, a < b → b < c → c < m → mDg s a = mDg s b → mDg s b = mDg s c → False) : ∃ P, kR J W A s P := by
  -- the second on a CELL has its second place
  have pick : ∀ t, t < m → ∃ v, v / 2 = mDg s t ∧ (v % 2 = 1 ↔ ∃ u, u < t ∧ mDg s u = mDg s t) := fun t ht => by
    by_cases c : ∃ u, u < t ∧ mDg s u = mDg s t
    · exact ⟨2 * mDg s t + 1, by omega, fun _ => c, fun _ => by omega⟩
    · exact ⟨2 * mDg s t, by omega, fun q => by omega, fun q => absurd q c⟩
  have ex : ∃ f : Nat → Nat, ∀ t, t < m → f t / 2 = mDg s t ∧ (f t % 2 = 1 ↔ ∃ u, u < t ∧ mDg s u = mDg s t) :=
    ⟨fun t => if h : t < m then Classical.choose (pick t h) else 0, fun t ht => by
      simp only [dif_pos ht]
      exact Classical.choose_spec (pick t ht)⟩
  obtain ⟨f, hf⟩ := ex
  have ne : ∀ a b, a < b → b < m → f a ≠ f b := fun a b h1 h4 e => by
    obtain ⟨a1, a2⟩ := hf a (by omega)
    obtain ⟨b1, b2⟩ := hf b h4
    have ed : mDg s a = mDg s b := by rw [← a1, ← b1, e]
    have ob := b2.mpr ⟨a, h1, ed⟩
    rw [← e] at ob
    obtain ⟨u, u1, u2⟩ := a2.mp ob
    exact h3 u a b u1 h1 h4 u2 ed
  refine ⟨fun t => if t < m then some (f t) else none, ⟨fun u hu => if_neg (by omega), fun a b v ha hb => ?_⟩, fun t ht => ⟨fun e => ?_, fun e => ?_⟩⟩
  · by_cases ca : a < m
    · by_cases cb : b < m
      · simp only [if_pos ca] at ha
        simp only [if_pos cb] at hb
        have e1 := Option.some.inj ha
        have e2 := Option.some.inj hb
        rcases Nat.lt_trichotomy a b with c | c | c
        · exact absurd (by rw [e1, e2]) (ne a b c cb)
        · exact c
        · exact absurd (by rw [e1, e2]) (ne b a c ca)
      · simp only [if_neg cb] at hb; cases hb
    · simp only [if_neg ca] at ha; cases ha
  · by_cases c : t < m
    · exact absurd e (hn t c)
    · exact if_neg c
  · have c : t < m := by
      apply Classical.byContradiction
      intro q
      exact e (hv' t ht (by omega))
    obtain ⟨a1, a2⟩ := hf t c
    have := hv t c
    refine ⟨f t, if_pos c, a1, by omega, fun o => ?_⟩
    obtain ⟨u, u1, u2⟩ := a2.mp o
    rw [a1, ← u2]
    exact h2 u t u1 c u2
