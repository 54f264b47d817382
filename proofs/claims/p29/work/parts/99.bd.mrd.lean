/-! THE REFERENCE's small methods over TOKENS, to the letter -/
set_option maxRecDepth 100000 in
theorem rCd_ne : ∀ i, i < 24 → ∀ j, j < i → rCd j ≠ rCd i := by decide +kernel
set_option maxRecDepth 100000 in
theorem rCd_rng : ∀ i, i < 24 → 0 ≤ rCd i ∧ rCd i < 72057594037927936 := by decide +kernel
theorem rIx_eq {v : Int} {i : Nat} (h : i < 24) : rIx v = (i : Int) ↔ v = rCd i := by
  unfold rIx
  constructor
  · intro g
    cases hf : (List.range 24).find? (fun i => decide (rCd i = v)) with
    | none =>
      rw [hf] at g
      have g : (-1 : Int) = (i : Int) := g
      omega
    | some j =>
      rw [hf] at g
      have g : ((j : Nat) : Int) = (i : Int) := g
      have e : j = i := by omega
      subst e
      have g2 := List.find?_some (p := fun i => decide (rCd i = v)) hf
      exact (of_decide_eq_true g2).symm
  · intro g
    subst g
    rw [rfind_some (f := fun j => decide (rCd j = rCd i)) (decide_eq_true rfl) (fun j hj => decide_eq_false (rCd_ne i h j hj)) 24 h]
    rfl
theorem rIx_none {v : Int} : rIx v = -1 ↔ ∀ i, i < 24 → v ≠ rCd i := by
  constructor
  · intro g i hi e
    have := (rIx_eq hi).mpr e
    omega
  · intro g
    unfold rIx
    rw [rfind_none (fun j hj => decide_eq_false (fun e => g j hj e.symm))]
    rfl
theorem isW_rng {v : Int} (h : isW v) : 0 ≤ v ∧ v < 72057594037927936 := by
  obtain ⟨t, q, k, k0, k7, al, rfl⟩ := h
  have l1 := tF_nn (b := 256) (by omega) (g := t) (q := q) k (fun i hi => by have := al i hi; omega)
  have l2 := tF_lt (b := 256) (by omega) (g := t) (q := q) k (fun i hi => by have := al i hi; omega)
  have l3 : (256 : Int) ^ k ≤ 72057594037927936 := by
    rcases (show k = 0 ∨ k = 1 ∨ k = 2 ∨ k = 3 ∨ k = 4 ∨ k = 5 ∨ k = 6 ∨ k = 7 by omega) with rfl | rfl | rfl | rfl | rfl | rfl | rfl | rfl <;> decide
  exact ⟨l1, Int.lt_of_lt_of_le l2 l3⟩
/-- the reference stands at the TOKEN that is next from p on -/
def mRd (I : Nat → Nat → Int) (t : Nat → Int) (n lim p : Nat) : Prop := I 102 3 = (n : Int) ∧ (I 102 5 = (lim : Int) ∧ I 102 15 = 0) ∧ mTk I t n lim p
theorem mTk_tk {I : Nat → Nat → Int} {t : Nat → Int} {n lim p : Nat} (h : mTk I t n lim p) : kTok t n lim p (tk t n lim p) ∧ I 102 11 = (((tk t n lim p).1 : Nat) : Int) ∧ I 102 12 = (((tk t n lim p).2.1 : Nat) : Int) ∧ I 102 4 = (((tk t n lim p).2.2.2 : Nat) : Int) ∧ ((tk t n lim p).1 = 1 → I 102 17 = (tk t n lim p).2.2.1 ∧ isW (tk t n lim p).2.2.1) ∧ ((tk t n lim p).1 = 2 → I 102 14 = (tk t n lim p).2.2.1 ∧ 0 ≤ (tk t n lim p).2.2.1 ∧ (tk t n lim p).2.2.1 < 1000) ∧ ((tk t n lim p).1 = 3 → I 102 14 = (tk t n lim p).2.2.1) ∧ (tk t n lim p).1 < 5 ∧ (tk t n lim p).2.2.2 ≤ n ∧ (0 ≤ I 102 14 ∧ I 102 14 ≤ 10000) := by
  obtain ⟨x, k, h⟩ := h
  rw [tk_eq k]
  exact ⟨k, h⟩
/-- what reading may change -/
def mFt (I I' : Nat → Nat → Int) : Prop := ∀ a b, ¬ (a = 102 ∧ (b = 4 ∨ (11 ≤ b ∧ b ≤ 18))) → I' a b = I a b
def mFl (I : Nat → Nat → Int) (f : Int × Nat) : Prop := I 102 15 = f.1 ∧ I 102 16 = (f.2 : Int) ∧ (0 ≤ I 102 14 ∧ I 102 14 ≤ 10000)
theorem mFt_tr {I J L : Nat → Nat → Int} (h : mFt I J) (g : mFt J L) : mFt I L := fun a b c => (g a b c).trans (h a b c)
theorem mFt_t {I I' : Nat → Nat → Int} {t : Nat → Int} (f : mFt I I') (ht : I 103 = t) : I' 103 = t := by
  rw [← ht]
  exact funext fun j => f 103 j (by omega)
theorem mRd_cg {I I' : Nat → Nat → Int} {t : Nat → Int} {n lim p : Nat} (h : mRd I t n lim p) (e : ∀ b, (b < 18 ∧ b ≠ 16) → I' 102 b = I 102 b) : mRd I' t n lim p := by
  refine ⟨by rw [e 3 (by omega)]; exact h.1, ⟨by rw [e 5 (by omega)]; exact h.2.1.1, by rw [e 15 (by omega)]; exact h.2.1.2⟩, ?_⟩
  unfold mTk
  rw [e 11 (by omega), e 12 (by omega), e 4 (by omega), e 17 (by omega), e 14 (by omega)]
  exact h.2.2
section Xq
variable {l : Launch} {D : va_G} {cy : Nat → ClassId} {z d bc bs N : Nat} {T : Nat → Nat × Nat} {R : Nat → Nat → Option Nat} {I : Nat → Nat → Int} {K : yKo} {t : Nat → Int} {n lim p : Nat}
/-- bad -/
theorem x_159 (hT : yLT T) (hR : yLR R) (h : mRd I t n lim p) {x1 : Int} (hk : ∀ I', mFt I I' → mFl I' (x1, (tk t n lim p).2.1) → K (some (yi 0)) (N, T, R, I')) :
    yW l zSS D cy zFk z d 159 bc bs K 0 0 0 [(0, yr (some 102)), (1, yi x1)] [] (N, T, R, I) := by
  obtain ⟨-, -, g12, -, -, -, -, -, -, g14⟩ := mTk_tk h.2.2
  exact B_159_0 hT hR (fun I1 e1 I2 e2 => hk I2 (fun a b g => by rw [e2, yU_ne _ _ (by omega), e1, yU_ne _ _ (by omega)]) ⟨by rw [e2, yU_ne _ _ (by omega), e1, yU_eq], by rw [e2, yU_eq, e1, yU_ne _ _ (by omega)]; exact g12, by rw [e2, yU_ne _ _ (by omega), e1, yU_ne _ _ (by omega)]; exact g14⟩)
/-- go: on to the next TOKEN -/
theorem x_go (hT : yLT T) (hR : yLR R) (h : mRd I t n lim p) (hn : n ≤ 940) (hb : ∀ j, j < n → -128 ≤ t j ∧ t j < 128) (ht : I 103 = t) (hk : ∀ I', mFt I I' → I' 102 18 = I 102 18 → mRd I' t n lim (tk t n lim p).2.2.2 → K none (N, T, R, I')) :
    yW l zSS D cy zFk z (d + 1) 182 bc bs K 0 0 0 [(0, yr (some 102))] [] (N, T, R, I) := by
  obtain ⟨-, -, -, g4, -, -, -, -, gn, g14⟩ := mTk_tk h.2.2
  refine x_182 hT hR (n := n) (lim := lim) (p := (tk t n lim p).2.2.2) h.1 hn h.2.1.1 g4 gn (by rw [ht]; exact hb) g14 (fun I' f c => hk I' (fun a b g => f a b (by omega)) (f 102 18 (by omega)) ⟨by rw [f 102 3 (by omega)]; exact h.1, ⟨by rw [f 102 5 (by omega)]; exact h.2.1.1, by rw [f 102 15 (by omega)]; exact h.2.1.2⟩, by rw [ht] at c; exact c⟩)
/-- isWord -/
theorem x_199 (hT : yLT T) (hR : yLR R) (h : mRd I t n lim p) (i : Nat) (hi : i < 24) {c : Int} (hc : rCd i = c) (hk : ∀ r, ((r = 1 ∧ (tk t n lim p).1 = 1 ∧ rIx (tk t n lim p).2.2.1 = (i : Int)) ∨ (r = 0 ∧ ¬ ((tk t n lim p).1 = 1 ∧ rIx (tk t n lim p).2.2.1 = (i : Int)))) → K (some (yi r)) (N, T, R, I)) :
    yW l zSS D cy zFk z d 199 bc bs K 0 0 0 [(0, yr (some 102)), (1, yj c)] [] (N, T, R, I) := by
  obtain ⟨-, g11, -, -, g17, -⟩ := mTk_tk h.2.2
  refine B_199_0 hT hR ⟨fun c1 => hk 0 (.inr ⟨rfl, fun q => c1 (by rw [g11, q.1]; rfl)⟩), fun c1 => ?_⟩
  have k1 : (tk t n lim p).1 = 1 := by rw [g11] at c1; omega
  obtain ⟨e17, w⟩ := g17 k1
  have r1 := isW_rng w
  have r2 := rCd_rng i hi
  have cmp := ylcmp_eq (x := I 102 17) (y := c) ⟨by omega, by omega⟩ ⟨by omega, by omega⟩
  refine ⟨fun c2 => hk 0 (.inr ⟨rfl, fun q => c2 (cmp.mpr ?_)⟩), fun c2 => hk 1 (.inl ⟨rfl, k1, (rIx_eq hi).mpr ?_⟩)⟩
  · rw [e17, (rIx_eq hi).mp q.2, hc]
  · have := cmp.mp (by omega)
    rw [← e17, this, hc]
/-- isSign -/
theorem x_196 (hT : yLT T) (hR : yLR R) (h : mRd I t n lim p) {x1 : Int} (hk : ∀ r, ((r = 1 ∧ (tk t n lim p).1 = 3 ∧ (tk t n lim p).2.2.1 = x1) ∨ (r = 0 ∧ ¬ ((tk t n lim p).1 = 3 ∧ (tk t n lim p).2.2.1 = x1))) → K (some (yi r)) (N, T, R, I)) :
    yW l zSS D cy zFk z d 196 bc bs K 0 0 0 [(0, yr (some 102)), (1, yi x1)] [] (N, T, R, I) := by
  obtain ⟨-, g11, -, -, -, -, g3, -⟩ := mTk_tk h.2.2
  refine B_196_0 hT hR ⟨fun c1 => hk 0 (.inr ⟨rfl, fun q => c1 (by rw [g11, q.1]; rfl)⟩), fun c1 => ?_⟩
  have k3 : (tk t n lim p).1 = 3 := by rw [g11] at c1; omega
  have e14 := g3 k3
  exact ⟨fun c2 => hk 0 (.inr ⟨rfl, fun q => c2 (e14.trans q.2)⟩), fun c2 => hk 1 (.inl ⟨rfl, k3, by rw [← e14]; omega⟩)⟩
/-- sign -/
theorem x_236 (hT : yLT T) (hR : yLR R) (h : mRd I t n lim p) (hn : n ≤ 940) (hb : ∀ j, j < n → -128 ≤ t j ∧ t j < 128) (ht : I 103 = t) {x1 : Int} (hf : ∀ f I', kSign (tk t n lim) x1 p = .inl f → mFt I I' → mFl I' f → K (some (yi 0)) (N, T, R, I')) (ho : ∀ p' I', kSign (tk t n lim) x1 p = .inr p' → mFt I I' → mRd I' t n lim p' → K (some (yi 1)) (N, T, R, I')) :
    yW l zSS D cy zFk z (d + 2) 236 bc bs K 0 0 0 [(0, yr (some 102)), (1, yi x1)] [] (N, T, R, I) := by
  refine B_236_0 hT hR (x_196 hT hR h (fun r hr => ⟨_, _, rfl, rfl, fun c => ?_, fun c => ?_⟩))
  · rcases hr with ⟨_, a⟩ | ⟨e, _⟩
    · exact x_go hT hR h hn hb ht (fun I' fr _ r => ⟨_, rfl, rfl, ho _ I' (by unfold kSign; rw [if_pos a]) fr r⟩)
    · exact absurd e c
  · rcases hr with ⟨e, _⟩ | ⟨_, q⟩
    · exact absurd e (by omega)
    · exact x_159 hT hR h (fun I' fr fl => ⟨_, _, rfl, rfl, .inl rfl, hf _ I' (by unfold kSign; rw [if_neg q]) fr fl⟩)
/-- isName -/
theorem x_194 (hT : yLT T) (hR : yLR R) (h : mRd I t n lim p) (hw : ∀ i, i < 24 → I 108 i = rCd i) (hk : ∀ r, ((r = 1 ∧ kIsName (tk t n lim) p) ∨ (r = 0 ∧ ¬ kIsName (tk t n lim) p)) → K (some (yi r)) (N, T, R, I)) :
    yW l zSS D cy zFk z d 194 bc bs K 0 0 0 [(0, yr (some 102))] [] (N, T, R, I) := by
  obtain ⟨-, g11, -, -, g17, -⟩ := mTk_tk h.2.2
  -- it is none
  have no : ∀ (m k : Nat), k + m = 24 → ¬ kIsName (tk t n lim) p → yW l zSS D cy zFk z d 194 bc bs K 0 0 16 [(0, yr (some 102)), (1, yi 0), (2, yi (k : Int))] [] (N, T, R, I) := by
    intro m
    induction m with
    | zero => intro k hm q; exact B_194_16 hT hR ⟨fun _ => ⟨.inl rfl, hk 0 (.inr ⟨rfl, q⟩)⟩, fun c => absurd (by omega) c⟩
    | succ m ih =>
      intro k hm q
      refine B_194_16 hT hR ⟨fun c => absurd c (by omega), fun _ => ⟨fun _ => ?_, fun c => absurd rfl c⟩⟩
      have := ih (k + 1) (by omega) q
      rw [yadd_eq (by omega) (by omega)]
      exact this
  have yes : ∀ (m k : Nat), k + m = 24 → (tk t n lim p).1 = 1 → (∀ i, i < k → (tk t n lim p).2.2.1 ≠ rCd i) → yW l zSS D cy zFk z d 194 bc bs K 0 0 16 [(0, yr (some 102)), (1, yi 1), (2, yi (k : Int))] [] (N, T, R, I) := by
    intro m
    induction m with
    | zero =>
      intro k hm k1 q
      exact B_194_16 hT hR ⟨fun _ => ⟨.inr rfl, hk 1 (.inl ⟨rfl, k1, rIx_none.mpr (fun i hi => q i (by omega))⟩)⟩, fun c => absurd (by omega) c⟩
    | succ m ih =>
      intro k hm k1 q
      obtain ⟨e17, w⟩ := g17 k1
      have r1 := isW_rng w
      have r2 := rCd_rng k (by omega)
      have cmp := ylcmp_eq (x := (tk t n lim p).2.2.1) (y := rCd k) ⟨by omega, by omega⟩ ⟨by omega, by omega⟩
      refine B_194_16 hT hR ⟨fun c => absurd c (by omega), fun _ => ⟨fun c => absurd c (by decide), fun _ => ⟨by omega, by omega, fun c => ?_, fun c => ?_⟩⟩⟩
      · rw [show ((k : Int)).toNat = k by omega, hw k (by omega), e17] at c
        have := no m (k + 1) (by omega) (fun g => by have := rIx_none.mp g.2 k (by omega); exact this (cmp.mp c))
        rw [yadd_eq (by omega) (by omega)]
        exact this
      · rw [show ((k : Int)).toNat = k by omega, hw k (by omega), e17] at c
        have := ih (k + 1) (by omega) k1 (fun i hi => by
          by_cases g : i = k
          · subst g; exact fun e => c (cmp.mpr e)
          · exact q i (by omega))
        rw [yadd_eq (by omega) (by omega)]
        exact this
  refine B_194_0 hT hR ⟨fun c => no 24 0 rfl (fun g => c (by rw [g11, g.1]; rfl)), fun c => yes 24 0 rfl (by rw [g11] at c; omega) (fun i hi => absurd hi (Nat.not_lt_zero _))⟩
/-- dirOfWord -/
theorem x_172 (hT : yLT T) (hR : yLR R) (h : mRd I t n lim p) (hk : ∀ r, ((0 ≤ r ∧ r ≤ 3 ∧ (tk t n lim p).1 = 1 ∧ rIx (tk t n lim p).2.2.1 = r + 12) ∨ (r = -1 ∧ ¬ ((tk t n lim p).1 = 1 ∧ 12 ≤ rIx (tk t n lim p).2.2.1 ∧ rIx (tk t n lim p).2.2.1 ≤ 15))) → K (some (yi r)) (N, T, R, I)) :
    yW l zSS D cy zFk z (d + 1) 172 bc bs K 0 0 0 [(0, yr (some 102))] [] (N, T, R, I) := by
  refine B_172_0 hT hR (x_199 hT hR h 12 (by omega) rfl (fun r1 h1 => ⟨_, _, rfl, rfl, fun c1 => x_199 hT hR h 13 (by omega) rfl (fun r2 h2 => ⟨_, _, rfl, rfl, fun c2 => x_199 hT hR h 14 (by omega) rfl (fun r3 h3 => ⟨_, _, rfl, rfl, fun c3 => x_199 hT hR h 15 (by omega) rfl (fun r4 h4 => ⟨_, _, rfl, rfl, fun c4 => hk (-1) (.inr ⟨rfl, ?_⟩), fun c4 => hk 3 (.inl ?_)⟩), fun c3 => hk 2 (.inl ?_)⟩), fun c2 => hk 1 (.inl ?_)⟩), fun c1 => hk 0 (.inl ?_)⟩))
  · intro ⟨a, b, c⟩
    have n1 := h1.resolve_left (fun g => by omega)
    have n2 := h2.resolve_left (fun g => by omega)
    have n3 := h3.resolve_left (fun g => by omega)
    have n4 := h4.resolve_left (fun g => by omega)
    rcases (show rIx (tk t n lim p).2.2.1 = 12 ∨ rIx (tk t n lim p).2.2.1 = 13 ∨ rIx (tk t n lim p).2.2.1 = 14 ∨ rIx (tk t n lim p).2.2.1 = 15 by omega) with e | e | e | e
    · exact n1.2 ⟨a, e⟩
    · exact n2.2 ⟨a, e⟩
    · exact n3.2 ⟨a, e⟩
    · exact n4.2 ⟨a, e⟩
  · have g := h4.resolve_right (fun g => by omega)
    exact ⟨by omega, by omega, g.2.1, by have := g.2.2; omega⟩
  · have g := h3.resolve_right (fun g => by omega)
    exact ⟨by omega, by omega, g.2.1, by have := g.2.2; omega⟩
  · have g := h2.resolve_right (fun g => by omega)
    exact ⟨by omega, by omega, g.2.1, by have := g.2.2; omega⟩
  · have g := h1.resolve_right (fun g => by omega)
    exact ⟨by omega, by omega, g.2.1, by have := g.2.2; omega⟩
/-- takes -/
theorem x_245 (hT : yLT T) (hR : yLR R) (h : mRd I t n lim p) (hn : n ≤ 940) (hb : ∀ j, j < n → -128 ≤ t j ∧ t j < 128) (ht : I 103 = t) {x1 x2 : Int} (hf : ∀ f I', kNum (tk t n lim) x1 x2 p = .inl f → mFt I I' → mFl I' f → K (some (yi 0)) (N, T, R, I')) (ho : ∀ v p' I', kNum (tk t n lim) x1 x2 p = .inr (v, p') → mFt I I' → mRd I' t n lim p' → I' 102 18 = v → 0 ≤ v → v < 1000 → x1 ≤ v → v ≤ x2 → K (some (yi 1)) (N, T, R, I')) :
    yW l zSS D cy zFk z (d + 2) 245 bc bs K 0 0 0 [(0, yr (some 102)), (1, yi x1), (2, yi x2)] [] (N, T, R, I) := by
  obtain ⟨-, g11, -, -, -, g2, -, -⟩ := mTk_tk h.2.2
  refine B_245_0 hT hR ⟨fun c => ?_, fun c => ?_⟩
  · have k2 : (tk t n lim p).1 = 2 := by rw [g11] at c; omega
    obtain ⟨e14, v0, v1⟩ := g2 k2
    refine w_191 hT hR (fun r hr => ⟨_, _, rfl, rfl, fun c1 => ?_, fun c1 => ?_⟩)
    · have in_ : x1 ≤ (tk t n lim p).2.2.1 ∧ (tk t n lim p).2.2.1 ≤ x2 := by
        rcases hr with ⟨_, a⟩ | ⟨a, _⟩
        · rw [e14] at a; exact a
        · exact absurd a c1
      intro I5 e5
      have f5 : ∀ a b, ¬ (a = 102 ∧ b = 18) → I5 a b = I a b := fun a b g => by rw [e5, yU_ne _ _ g]
      have r5 : mRd I5 t n lim p := mRd_cg h (fun b hb => f5 102 b (by omega))
      refine x_go hT hR r5 hn hb (by rw [← ht]; exact funext fun j => f5 103 j (by omega)) (fun I6 f6 g18 r6 => ⟨_, rfl, rfl, ho _ _ I6 (by unfold kNum; rw [if_pos k2, if_pos in_]) (fun a b g => (f6 a b g).trans (f5 a b (by omega))) r6 (by rw [g18, e5, yU_eq]; exact e14) v0 v1 in_.1 in_.2⟩)
    · have out : ¬ (x1 ≤ (tk t n lim p).2.2.1 ∧ (tk t n lim p).2.2.1 ≤ x2) := by
        rcases hr with ⟨a, _⟩ | ⟨_, a⟩
        · omega
        · rw [e14] at a; exact a
      exact x_159 hT hR h (fun I' fr fl => ⟨_, _, rfl, rfl, .inl rfl, hf _ I' (by unfold kNum; rw [if_pos k2, if_neg out]) fr fl⟩)
  · have k2 : ¬ (tk t n lim p).1 = 2 := fun q => c (by rw [g11, q]; rfl)
    exact x_159 hT hR h (fun I' fr fl => ⟨_, _, rfl, rfl, .inl rfl, hf _ I' (by unfold kNum; rw [if_neg k2]) fr fl⟩)
end Xq
