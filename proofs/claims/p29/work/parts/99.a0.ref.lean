/-! THE REFERENCE's ONE INVARIANT, and its public methods under it (printed by wip/whole/y/gen99.py) -/
def uInv (I : Nat → Nat → Int) : Prop := mAllR I ∧ mUnR I ∧ mKeR I ∧ (0 ≤ I 102 2 ∧ I 102 2 ≤ 940) ∧ (0 ≤ I 102 42 ∧ I 102 42 ≤ 400) ∧ (0 ≤ I 102 14 ∧ I 102 14 ≤ 10000) ∧ mTt I
/-- what is so behind a call; L: how much of the tape is fed -/
def uPo (I I' : Nat → Nat → Int) (L : Int) : Prop := uInv I' ∧ (∀ k j, (k < 102 ∨ 126 ≤ k) → I' k j = I k j) ∧ I' 102 2 = L ∧ (∀ i, i < 2 → I' 125 i = I 125 i) ∧ (∀ j : Nat, (j : Int) < I 102 2 → I' 103 j = I 103 j) ∧ (∀ j, I' 108 j = I 108 j) ∧ ∀ j, I' 123 j = I 123 j ∧ I' 124 j = I 124 j
/-- the NAMES stay -/
def uLm (I I' : Nat → Nat → Int) : Prop := I' 104 2 = I 104 2 ∧ ∀ j, I' 107 j = I 107 j
/-- so does the FAULT -/
def uLn (I I' : Nat → Nat → Int) : Prop := uLm I I' ∧ I' 102 15 = I 102 15
theorem mInv_lo {I I' : Nat → Nat → Int} (h : mInv I) (e : ∀ j, j < 926 → I' 104 j = I 104 j) (o : mOr I') : mInv I' := by
  obtain ⟨a, b, c, d, f, g, _⟩ := h
  have at_ : ∀ v, mAt I' v ↔ mAt I v := fun v => by unfold mAt; rw [e 0 (by omega), e 1 (by omega)]
  refine ⟨?_, ?_, fun q hq => ?_, fun k hk hlt => ?_, ?_, fun k hk => ?_, o⟩
  · unfold mDim; rw [e 0 (by omega), e 1 (by omega), e 2 (by omega)]; exact a
  · rw [e 6 (by omega)]; exact b
  · rw [e _ (by omega)]; exact c q hq
  · rw [e 2 (by omega)] at hlt
    rw [e 0 (by omega), e 1 (by omega), e _ (by omega), e _ (by omega)]; exact d k hk hlt
  · rw [e 461 (by omega)]; exact f
  · rw [at_, at_, e _ (by omega), e _ (by omega)]; exact g k hk
/-- the row of what is so may have changed behind 926; all else is as it was -/
theorem uInv_k {I I' : Nat → Nat → Int} (h : uInv I) (e104 : ∀ j, j < 926 → I' 104 j = I 104 j) (hp : mPl I') (hc : mCo I') (ho : mOr I') (e113 : ∀ j, I' 113 j = I 113 j) (e35 : I' 102 35 = I 102 35) (e123 : ∀ j, I' 123 j = I 123 j) (e125 : ∀ j, I' 125 j = I 125 j) (h2 : 0 ≤ I' 102 2 ∧ I' 102 2 ≤ 940) (h42 : 0 ≤ I' 102 42 ∧ I' 102 42 ≤ 400) (h14 : 0 ≤ I' 102 14 ∧ I' 102 14 ≤ 10000) (h122 : mTt I') : uInv I' := by
  obtain ⟨⟨⟨i, m, _, _⟩, ro, nb⟩, u, k, _⟩ := h
  have c8 : I 104 2 ≤ 8 := i.1.2.2.2.2.2
  have ro' : mRo I' := mRo_eq ro c8 (fun j hj => e104 j (by omega))
  have nb' : mNb I' := mNb_eq nb (fun j hj => e104 j (by omega))
  exact ⟨⟨⟨mInv_lo i e104 ho, by rw [e104 458 (by omega)]; exact m, hp, hc⟩, ro', nb'⟩, mUnR_sl (fun j hj => e104 j (by omega)) e35 e113 u ro' nb', fun q hq => (k q hq).imp (fun e => by rw [e125]; exact e) (fun e => mKeR_cg e (fun j _ => e123 _)), h2, h42, h14, h122⟩
/-- what is so of a MINUTE may have changed -/
theorem uInv_p {I I' : Nat → Nat → Int} (h : uInv I) (i : mInv I') (m : 0 ≤ I' 104 458 ∧ I' 104 458 ≤ 500) (u : mUnR I') (f : ∀ k j, (k < 102 ∨ 126 ≤ k ∨ k = 103 ∨ k = 107 ∨ k = 108 ∨ k = 124 ∨ (k = 104 ∧ (j < 458 ∨ 926 ≤ j)) ∨ k = 122 ∨ k = 123 ∨ k = 125 ∨ (k = 102 ∧ (j = 2 ∨ j = 14 ∨ j = 15 ∨ j = 42))) → I' k j = I k j) : uPo I I' (I 102 2) ∧ uLn I I' := by
  obtain ⟨⟨⟨_, _, p, c⟩, _, _⟩, _, k, h2, h42, h14, ht⟩ := h
  have e2 := f 102 2 (by omega)
  have e42 := f 102 42 (by omega)
  have e14 := f 102 14 (by omega)
  exact ⟨⟨⟨⟨⟨i, m, mPl_lt p (fun j a _ => f 104 j (by omega)), mCo_lt c (fun j a _ => f 104 j (by omega))⟩, u.2.1, u.2.2.1⟩, u, fun q hq => (k q hq).imp (fun e => by rw [f 125 q (by omega)]; exact e) (fun e => mKeR_cg e (fun j _ => f 123 _ (by omega))), by rw [e2]; exact h2, by rw [e42]; exact h42, by rw [e14]; exact h14, fun j hj => by rw [f 122 j (by omega)]; exact ht j hj⟩, fun k j hk => f k j (by omega), e2, fun i _ => f 125 i (by omega), fun j _ => f 103 j (by omega), fun j => f 108 j (by omega), fun j => ⟨f 123 j (by omega), f 124 j (by omega)⟩⟩, ⟨f 104 2 (by omega), fun j => f 107 j (by omega)⟩, f 102 15 (by omega)⟩
/-- but for what is asked, nothing changed -/
theorem uPo_e {I I' : Nat → Nat → Int} {L : Int} (h : uInv I) (e104 : ∀ j, I' 104 j = I 104 j) (ho : mOr I') (e113 : ∀ j, I' 113 j = I 113 j) (e35 : I' 102 35 = I 102 35) (e123 : ∀ j, I' 123 j = I 123 j) (e125 : ∀ j, I' 125 j = I 125 j) (h2 : I' 102 2 = L) (hL : 0 ≤ L ∧ L ≤ 940) (h42 : 0 ≤ I' 102 42 ∧ I' 102 42 ≤ 400) (h14 : 0 ≤ I' 102 14 ∧ I' 102 14 ≤ 10000) (h122 : mTt I') (f3 : ∀ j : Nat, (j : Int) < I 102 2 → I' 103 j = I 103 j) (f : ∀ k j, (k < 102 ∨ 126 ≤ k ∨ k = 108 ∨ k = 124) → I' k j = I k j) : uPo I I' L :=
  ⟨uInv_k h (fun j _ => e104 j) (mPl_lt h.1.1.2.2.1 (fun j _ _ => e104 j)) (mCo_lt h.1.1.2.2.2 (fun j _ _ => e104 j)) ho e113 e35 e123 e125 (by rw [h2]; exact hL) h42 h14 h122, fun k j hk => f k j (by omega), h2, fun i _ => e125 i, f3, fun j => f 108 j (by omega), fun j => ⟨e123 j, f 124 j (by omega)⟩⟩
theorem uPo_x {I I' : Nat → Nat → Int} (h : uInv I) (ho : mOr I') (f : ∀ k j, (k < 102 ∨ 126 ≤ k ∨ k = 103 ∨ k = 107 ∨ k = 108 ∨ k = 124 ∨ k = 104 ∨ k = 113 ∨ k = 122 ∨ k = 123 ∨ k = 125 ∨ (k = 102 ∧ (j = 2 ∨ j = 14 ∨ j = 35 ∨ j = 42))) → I' k j = I k j) : uPo I I' (I 102 2) := by
  have e42 := f 102 42 (by omega)
  have e14 := f 102 14 (by omega)
  exact uPo_e h (fun j => f _ _ (by omega)) ho (fun j => f _ _ (by omega)) (f _ _ (by omega)) (fun j => f _ _ (by omega)) (fun j => f _ _ (by omega)) (f _ _ (by omega)) h.2.2.2.1 (by rw [e42]; exact h.2.2.2.2.1) (by rw [e14]; exact h.2.2.2.2.2.1) (fun j hj => by rw [f 122 j (by omega)]; exact h.2.2.2.2.2.2 j hj) (fun j _ => f 103 j (by omega)) (fun k j hk => f k j (by omega))
theorem uLn_x {I I' : Nat → Nat → Int} (f : ∀ k j, (k = 104 ∨ k = 107 ∨ (k = 102 ∧ j = 15)) → I' k j = I k j) : uLn I I' := ⟨⟨f 104 2 (.inl rfl), fun j => f 107 j (.inr (.inl rfl))⟩, f 102 15 (.inr (.inr ⟨rfl, rfl⟩))⟩
theorem uLn_sc {I I' : Nat → Nat → Int} (s : mSc I I') : uLn I I' := uLn_x (fun k j hk => s k j (by omega) (by omega) (by omega) (by omega) (by omega) (by omega))
theorem uPo_sc {I I' : Nat → Nat → Int} (h : uInv I) (i : mInv I') (s : mSc I I') : uPo I I' (I 102 2) :=
  uPo_x h i.2.2.2.2.2.2 (fun k j hk => s k j (by omega) (by omega) (by omega) (by omega) (by omega) (by omega))
section Sr
variable {l : Launch} {D : va_G} {cy : Nat → ClassId} {z d bc bs N : Nat} {T : Nat → Nat × Nat} {R : Nat → Nat → Option Nat} {I : Nat → Nat → Int} {K : yKo}
/-- ints in rows of ints are ints -/
theorem ys_rng {S : zS} {Fk : Nat → Nat → Nat} {mi nc ns pc : Nat} {lo : yL} {st : List yV} {h : yHp} (hk : (∀ k n j, k < h.1 → yTy h k = (1, n) → j < n → -2147483648 ≤ yI h k j ∧ yI h k j < 2147483648) → yW l S D cy Fk z d mi bc bs K nc ns pc lo st h) : yW l S D cy Fk z d mi bc bs K nc ns pc lo st h := by
  intro p e s m args below meth c C ad0 n0 ad hA hN hB H locs ls lv vs ws hR hP hD hS hl hlo hst
  exact hk (fun k n j hkn ht hj => by
    obtain ⟨ee, _, hge⟩ := hR.2.2 k hkn
    obtain ⟨f, _, f2⟩ := hge.1 (by rw [ht]; simp)
    rw [ht] at f2
    have g := y_rng (f j)
    rw [f2 j hj] at g
    exact g) p e s m args below meth c C ad0 n0 ad hA hN hB H locs ls lv vs ws hR hP hD hS hl hlo hst
theorem v_160 (hT : yLT T) (hR : yLR R) (hN : 126 ≤ N) (hu : uInv I) (hk : ∀ (r : Int) (I' : Nat → Nat → Int) (L : Int), uPo I I' L → L = I 102 2 → uLn I I' → K (some (yi r)) (N, T, R, I')) :
    yW l zSS D cy zFk z 60 160 bc bs K 0 0 0 [(0, yr (some 102))] [] (N, T, R, I) := by
  have hI := hu.1.1.1
  have hm := hu.1.1.2.1
  exact r_began (d := _) hT hR hN hI (fun r I' i s => hk r I' _ (uPo_sc hu i s) rfl (uLn_sc s))
theorem v_165 (hT : yLT T) (hR : yLR R) (hN : 126 ≤ N) (hu : uInv I) {x1 x2 : Int} (hk : ∀ (r : Int) (I' : Nat → Nat → Int) (L : Int), uPo I I' L → L = I 102 2 → uLn I I' → K (some (yi r)) (N, T, R, I')) :
    yW l zSS D cy zFk z 60 165 bc bs K 0 0 0 [(0, yr (some 102)), (1, yi x1), (2, yi x2)] [] (N, T, R, I) := by
  have hI := hu.1.1.1
  have hm := hu.1.1.2.1
  exact r_cell (d := _) hT hR hI (fun r I' i s => hk r I' _ (uPo_sc hu i s) rfl (uLn_sc s))
theorem v_167 (hT : yLT T) (hR : yLR R) (hN : 126 ≤ N) (hu : uInv I) {x1 x2 : Int} (hk : ∀ (r : Int) (I' : Nat → Nat → Int) (L : Int), uPo I I' L → L = I 102 2 → uLn I I' → K (some (yi r)) (N, T, R, I')) :
    yW l zSS D cy zFk z 60 167 bc bs K 0 0 0 [(0, yr (some 102)), (1, yi x1), (2, yi x2)] [] (N, T, R, I) := by
  have hI := hu.1.1.1
  have hm := hu.1.1.2.1
  exact r_chair (d := _) hT hR hI (fun r I' i s => hk r I' _ (uPo_sc hu i s) rfl (uLn_sc s))
theorem v_170 (hT : yLT T) (hR : yLR R) (hN : 126 ≤ N) (hu : uInv I) {x1 : Int} (hk : ∀ (r : Int) (I' : Nat → Nat → Int) (L : Int), uPo I I' L → L = I 102 2 → uLn I I' → K (some (yi r)) (N, T, R, I')) :
    yW l zSS D cy zFk z 60 170 bc bs K 0 0 0 [(0, yr (some 102)), (1, yi x1)] [] (N, T, R, I) := by
  have hI := hu.1.1.1
  have hm := hu.1.1.2.1
  exact r_count (d := _) hT hR hI (fun r I' i s => hk r I' _ (uPo_sc hu i s) rfl (uLn_sc s))
theorem v_178 (hT : yLT T) (hR : yLR R) (hN : 126 ≤ N) (hu : uInv I) (hk : ∀ (r : Int) (I' : Nat → Nat → Int) (L : Int), uPo I I' L → L = I 102 2 → uLn I I' → K (some (yi r)) (N, T, R, I')) :
    yW l zSS D cy zFk z 60 178 bc bs K 0 0 0 [(0, yr (some 102))] [] (N, T, R, I) := by
  have hI := hu.1.1.1
  have hm := hu.1.1.2.1
  exact r_fault (d := _) hT hR hI (fun r I' i s => hk r I' _ (uPo_sc hu i s) rfl (uLn_sc s))
theorem v_185 (hT : yLT T) (hR : yLR R) (hN : 126 ≤ N) (hu : uInv I) {x1 : Int} (hk : ∀ (r : Int) (I' : Nat → Nat → Int) (L : Int), uPo I I' L → L = I 102 2 → uLn I I' → K (some (yi r)) (N, T, R, I')) :
    yW l zSS D cy zFk z 60 185 bc bs K 0 0 0 [(0, yr (some 102)), (1, yi x1)] [] (N, T, R, I) := by
  have hI := hu.1.1.1
  have hm := hu.1.1.2.1
  exact r_invited (d := _) hT hR hN hI (fun r I' i s => hk r I' _ (uPo_sc hu i s) rfl (uLn_sc s))
theorem v_206 (hT : yLT T) (hR : yLR R) (hN : 126 ≤ N) (hu : uInv I) (hk : ∀ (r : Int) (I' : Nat → Nat → Int) (L : Int), uPo I I' L → L = I 102 2 → uLn I I' → K (some (yi r)) (N, T, R, I')) :
    yW l zSS D cy zFk z 60 206 bc bs K 0 0 0 [(0, yr (some 102))] [] (N, T, R, I) := by
  have hI := hu.1.1.1
  have hm := hu.1.1.2.1
  exact r_last (d := _) hT hR hN hI hm.1 (fun r I' i s => hk r I' _ (uPo_sc hu i s) rfl (uLn_sc s))
theorem v_208 (hT : yLT T) (hR : yLR R) (hN : 126 ≤ N) (hu : uInv I) (hk : ∀ (r : Int) (I' : Nat → Nat → Int) (L : Int), uPo I I' L → L = I 102 2 → uLn I I' → K (some (yi r)) (N, T, R, I')) :
    yW l zSS D cy zFk z 60 208 bc bs K 0 0 0 [(0, yr (some 102))] [] (N, T, R, I) := by
  have hI := hu.1.1.1
  have hm := hu.1.1.2.1
  exact r_latest (d := _) hT hR hN hI hm.1 (fun r I' i s => hk r I' _ (uPo_sc hu i s) rfl (uLn_sc s))
theorem v_210 (hT : yLT T) (hR : yLR R) (hN : 126 ≤ N) (hu : uInv I) {x1 x2 : Int} (hk : ∀ (r : Int) (I' : Nat → Nat → Int) (L : Int), uPo I I' L → L = I 102 2 → uLn I I' → K (some (yi r)) (N, T, R, I')) :
    yW l zSS D cy zFk z 60 210 bc bs K 0 0 0 [(0, yr (some 102)), (1, yi x1), (2, yi x2)] [] (N, T, R, I) := by
  have hI := hu.1.1.1
  have hm := hu.1.1.2.1
  refine ys_rng (fun hg => ?_)
  exact r_lent (d := _) hT hR hN hI hm.1 (fun k hk8 => hg 104 1188 (310 + k) (by show 104 < N; omega) (hT 104 rfl) (by omega)) (fun r I' i s => hk r I' _ (uPo_sc hu i s) rfl (uLn_sc s))
theorem v_214 (hT : yLT T) (hR : yLR R) (hN : 126 ≤ N) (hu : uInv I) {x1 x2 : Int} (hk : ∀ (r : Int) (I' : Nat → Nat → Int) (L : Int), uPo I I' L → L = I 102 2 → uLn I I' → K (some (yi r)) (N, T, R, I')) :
    yW l zSS D cy zFk z 60 214 bc bs K 0 0 0 [(0, yr (some 102)), (1, yi x1), (2, yi x2)] [] (N, T, R, I) := by
  have hI := hu.1.1.1
  have hm := hu.1.1.2.1
  exact r_met (d := _) hT hR hI (fun r I' i s => hk r I' _ (uPo_sc hu i s) rfl (uLn_sc s))
theorem v_216 (hT : yLT T) (hR : yLR R) (hN : 126 ≤ N) (hu : uInv I) {x1 : Int} (hk : ∀ (r : Int) (I' : Nat → Nat → Int) (L : Int), uPo I I' L → L = I 102 2 → uLn I I' → K (some (yi r)) (N, T, R, I')) :
    yW l zSS D cy zFk z 60 216 bc bs K 0 0 0 [(0, yr (some 102)), (1, yi x1)] [] (N, T, R, I) := by
  have hI := hu.1.1.1
  have hm := hu.1.1.2.1
  exact r_next (d := _) hT hR hI (fun r I' i s => hk r I' _ (uPo_sc hu i s) rfl (uLn_sc s))
theorem v_218 (hT : yLT T) (hR : yLR R) (hN : 126 ≤ N) (hu : uInv I) {x1 : Int} (hk : ∀ (r : Int) (I' : Nat → Nat → Int) (L : Int), uPo I I' L → L = I 102 2 → uLn I I' → K (some (yi r)) (N, T, R, I')) :
    yW l zSS D cy zFk z 60 218 bc bs K 0 0 0 [(0, yr (some 102)), (1, yi x1)] [] (N, T, R, I) := by
  have hI := hu.1.1.1
  have hm := hu.1.1.2.1
  exact r_now (d := _) hT hR hI (fun r I' i s => hk r I' _ (uPo_sc hu i s) rfl (uLn_sc s))
theorem v_221 (hT : yLT T) (hR : yLR R) (hN : 126 ≤ N) (hu : uInv I) (hk : ∀ (r : Int) (I' : Nat → Nat → Int) (L : Int), uPo I I' L → L = I 102 2 → uLn I I' → K (some (yi r)) (N, T, R, I')) :
    yW l zSS D cy zFk z 60 221 bc bs K 0 0 0 [(0, yr (some 102))] [] (N, T, R, I) := by
  have hI := hu.1.1.1
  have hm := hu.1.1.2.1
  exact r_oneWay (d := _) hT hR hN hI hm.1 (fun r I' i s => hk r I' _ (uPo_sc hu i s) rfl (uLn_sc s))
theorem v_223 (hT : yLT T) (hR : yLR R) (hN : 126 ≤ N) (hu : uInv I) {x1 : Int} (hk : ∀ (r : Int) (I' : Nat → Nat → Int) (L : Int), uPo I I' L → L = I 102 2 → uLn I I' → K (some (yi r)) (N, T, R, I')) :
    yW l zSS D cy zFk z 60 223 bc bs K 0 0 0 [(0, yr (some 102)), (1, yi x1)] [] (N, T, R, I) := by
  have hI := hu.1.1.1
  have hm := hu.1.1.2.1
  exact r_order (d := _) hT hR hI (fun r I' i s => hk r I' _ (uPo_sc hu i s) rfl (uLn_sc s))
theorem v_252 (hT : yLT T) (hR : yLR R) (hN : 126 ≤ N) (hu : uInv I) {x1 : Int} (hk : ∀ (r : Int) (I' : Nat → Nat → Int) (L : Int), uPo I I' L → L = I 102 2 → uLn I I' → K (some (yi r)) (N, T, R, I')) :
    yW l zSS D cy zFk z 60 252 bc bs K 0 0 0 [(0, yr (some 102)), (1, yi x1)] [] (N, T, R, I) := by
  have hI := hu.1.1.1
  have hm := hu.1.1.2.1
  exact r_voted (d := _) hT hR hN hI hm.1 (fun r I' i s => hk r I' _ (uPo_sc hu i s) rfl (uLn_sc s))
theorem v_254 (hT : yLT T) (hR : yLR R) (hN : 126 ≤ N) (hu : uInv I) {x1 x2 : Int} (hk : ∀ (r : Int) (I' : Nat → Nat → Int) (L : Int), uPo I I' L → L = I 102 2 → uLn I I' → K (some (yi r)) (N, T, R, I')) :
    yW l zSS D cy zFk z 60 254 bc bs K 0 0 0 [(0, yr (some 102)), (1, yi x1), (2, yi x2)] [] (N, T, R, I) := by
  have hI := hu.1.1.1
  have hm := hu.1.1.2.1
  exact r_way (d := _) hT hR hI (fun r I' i s => hk r I' _ (uPo_sc hu i s) rfl (uLn_sc s))
theorem v_256 (hT : yLT T) (hR : yLR R) (hN : 126 ≤ N) (hu : uInv I) {x1 : Int} (hk : ∀ (r : Int) (I' : Nat → Nat → Int) (L : Int), uPo I I' L → L = I 102 2 → uLn I I' → K (some (yi r)) (N, T, R, I')) :
    yW l zSS D cy zFk z 60 256 bc bs K 0 0 0 [(0, yr (some 102)), (1, yi x1)] [] (N, T, R, I) := by
  have hI := hu.1.1.1
  have hm := hu.1.1.2.1
  exact r_when (d := _) hT hR hN hI hm.1 (fun r I' i s => hk r I' _ (uPo_sc hu i s) rfl (uLn_sc s))
theorem v_220 (hT : yLT T) (hR : yLR R) (hN : 126 ≤ N) (hu : uInv I) {x1 : Int} (hk : ∀ (r : Int) (I' : Nat → Nat → Int) (L : Int), uPo I I' L → L = I 102 2 → uLn I I' → K (some (yi r)) (N, T, R, I')) :
    yW l zSS D cy zFk z 60 220 bc bs K 0 0 0 [(0, yr (some 102)), (1, yi x1)] [] (N, T, R, I) := by
  have hI := hu.1.1.1
  have hm := hu.1.1.2.1
  exact r_onR (d := _) hT hR hN hI hm hu.2.1 (fun r I' i m u f => hk r I' _ (uInv_p hu i m u (fun k j h => f k j (by omega) (by omega) (by omega) (by omega) (by omega) (by omega) (by omega) (by omega))).1 rfl (uInv_p hu i m u (fun k j h => f k j (by omega) (by omega) (by omega) (by omega) (by omega) (by omega) (by omega) (by omega))).2)
theorem v_205 (hT : yLT T) (hR : yLR R) (hN : 126 ≤ N) (hu : uInv I) {x1 x2 : Int} (hk : ∀ (r : Int) (I' : Nat → Nat → Int) (L : Int), uPo I I' L → L = I 102 2 → uLn I I' → K (some (yi r)) (N, T, R, I')) :
    yW l zSS D cy zFk z 60 205 bc bs K 0 0 0 [(0, yr (some 102)), (1, yi x1), (2, yi x2)] [] (N, T, R, I) := by
  have hI := hu.1.1.1
  have hm := hu.1.1.2.1
  exact r_laneR (d := _) hT hR hN hI hm hu.2.1 (fun r I' i m u f => hk r I' _ (uInv_p hu i m u (fun k j h => f k j (by omega) (by omega) (by omega) (by omega) (by omega) (by omega) (by omega) (by omega))).1 rfl (uInv_p hu i m u (fun k j h => f k j (by omega) (by omega) (by omega) (by omega) (by omega) (by omega) (by omega) (by omega))).2)
theorem v_175 (hT : yLT T) (hR : yLR R) (hN : 126 ≤ N) (hu : uInv I) {x1 : Int} (hk : ∀ (r : Int) (I' : Nat → Nat → Int) (L : Int), uPo I I' L → L = I 102 2 → uLn I I' → K (some (yi r)) (N, T, R, I')) :
    yW l zSS D cy zFk z 60 175 bc bs K 0 0 0 [(0, yr (some 102)), (1, yi x1)] [] (N, T, R, I) := by
  have hI := hu.1.1.1
  have hm := hu.1.1.2.1
  exact r_drawnR (d := _) hT hR hN hI hm hu.2.1 (fun r I' i m u f => hk r I' _ (uInv_p hu i m u (fun k j h => f k j (by omega) (by omega) (by omega) (by omega) (by omega) (by omega) (by omega))).1 rfl (uInv_p hu i m u (fun k j h => f k j (by omega) (by omega) (by omega) (by omega) (by omega) (by omega) (by omega))).2)
theorem v_201 (hT : yLT T) (hR : yLR R) (hN : 126 ≤ N) (hu : uInv I) {x1 : Int} (hk : ∀ (r : Int) (I' : Nat → Nat → Int) (L : Int), uPo I I' L → L = I 102 2 → uLn I I' → K (some (yi r)) (N, T, R, I')) :
    yW l zSS D cy zFk z 60 201 bc bs K 0 0 0 [(0, yr (some 102)), (1, yi x1)] [] (N, T, R, I) := by
  have hI := hu.1.1.1
  have hm := hu.1.1.2.1
  exact r_judgeR (d := _) hT hR hN hI hm hu.2.1 hu.1.1.2.2.1 (fun r I' i m u f => hk r I' _ (uInv_p hu i m u (fun k j h => f k j (by omega) (by omega) (by omega) (by omega) (by omega))).1 rfl (uInv_p hu i m u (fun k j h => f k j (by omega) (by omega) (by omega) (by omega) (by omega))).2)
theorem v_250 (hT : yLT T) (hR : yLR R) (hN : 126 ≤ N) (hu : uInv I) (hk : ∀ (r : Int) (I' : Nat → Nat → Int) (L : Int), uPo I I' L → L = I 102 2 → uLn I I' → K (some (yi r)) (N, T, R, I')) :
    yW l zSS D cy zFk z 60 250 bc bs K 0 0 0 [(0, yr (some 102))] [] (N, T, R, I) := by
  have hI := hu.1.1.1
  have hm := hu.1.1.2.1
  exact r_undoR (d := _) hT hR hN hI hm hu.2.1 (fun r I' i m u f => hk r I' _ (uInv_p hu i m u (fun k j h => f k j (by omega) (by omega))).1 rfl (uInv_p hu i m u (fun k j h => f k j (by omega) (by omega))).2)
theorem v_219 (hT : yLT T) (hR : yLR R) (hN : 126 ≤ N) (hu : uInv I) {x1 x2 : Int} (hk : ∀ (r : Int) (I' : Nat → Nat → Int) (L : Int), uPo I I' L → L = I 102 2 → uLn I I' → K (some (yi r)) (N, T, R, I')) :
    yW l zSS D cy zFk z 60 219 bc bs K 0 0 0 [(0, yr (some 102)), (1, yi x1), (2, yi x2)] [] (N, T, R, I) := by
  have hI := hu.1.1.1
  have hm := hu.1.1.2.1
  exact r_odds (d := _) hT hR hN hI (fun r I' i f => hk r I' _ (uPo_x hu i.2.2.2.2.2.2 (fun k j h => f k j (by omega) (by omega) (by omega) (by omega) (by omega) (by omega) (by omega))) rfl (uLn_x (fun k j h => f k j (by omega) (by omega) (by omega) (by omega) (by omega) (by omega) (by omega))))
theorem v_248 (hT : yLT T) (hR : yLR R) (hN : 126 ≤ N) (hu : uInv I) {x1 x2 x3 x4 : Int} (hk : ∀ (r : Int) (I' : Nat → Nat → Int) (L : Int), uPo I I' L → L = I 102 2 → uLn I I' → K (some (yi r)) (N, T, R, I')) :
    yW l zSS D cy zFk z 60 248 bc bs K 0 0 0 [(0, yr (some 102)), (1, yi x1), (2, yi x2), (3, yi x3), (4, yi x4)] [] (N, T, R, I) := by
  have hI := hu.1.1.1
  have hm := hu.1.1.2.1
  exact r_torches (d := _) hT hR hN hI hm (fun r I' i f => hk r I' _ (uPo_x hu i.2.2.2.2.2.2 (fun k j h => f k j (by omega) (by omega) (by omega) (by omega) (by omega) (by omega) (by omega))) rfl (uLn_x (fun k j h => f k j (by omega) (by omega) (by omega) (by omega) (by omega) (by omega) (by omega))))
theorem v_202 (hT : yLT T) (hR : yLR R) (hN : 126 ≤ N) (hu : uInv I) {x1 : Int} (hk : ∀ (r : Int) (I' : Nat → Nat → Int) (L : Int), uPo I I' L → L = I 102 2 → uLn I I' → K (some (yi r)) (N, T, R, I')) :
    yW l zSS D cy zFk z 60 202 bc bs K 0 0 0 [(0, yr (some 102)), (1, yi x1)] [] (N, T, R, I) := by
  have hI := hu.1.1.1
  have hm := hu.1.1.2.1
  exact w_202 (d := _) hT hR (fun r I' f _ => hk r I' _ (uPo_x hu (fun i hi => by rw [f 111 i (by omega), f 112 i (by omega)]; exact hI.2.2.2.2.2.2 i hi) (fun k j h => f k j (by omega))) rfl (uLn_x (fun k j h => f k j (by omega))))
theorem v_240 (hT : yLT T) (hR : yLR R) (hN : 126 ≤ N) (hu : uInv I) {x1 : Int} (hk : ∀ (r : Int) (I' : Nat → Nat → Int) (L : Int), uPo I I' L → L = I 102 2 → uLn I I' → K (some (yi r)) (N, T, R, I')) :
    yW l zSS D cy zFk z 60 240 bc bs K 0 0 0 [(0, yr (some 102)), (1, yi x1)] [] (N, T, R, I) := by
  have hI := hu.1.1.1
  have hm := hu.1.1.2.1
  exact w_240 (d := _) hT hR hu.2.2.2.2.1 (fun r I' f _ => hk r I' _ (uPo_x hu (fun i hi => by rw [f 111 i (by omega), f 112 i (by omega)]; exact hI.2.2.2.2.2.2 i hi) (fun k j h => f k j (by omega))) rfl (uLn_x (fun k j h => f k j (by omega))))
theorem v_251 (hT : yLT T) (hR : yLR R) (hN : 126 ≤ N) (hu : uInv I) (hk : ∀ (r : Int) (I' : Nat → Nat → Int) (L : Int), uPo I I' L → L = I 102 2 → uLn I I' → K (some (yi r)) (N, T, R, I')) :
    yW l zSS D cy zFk z 60 251 bc bs K 0 0 0 [(0, yr (some 102))] [] (N, T, R, I) := by
  have hI := hu.1.1.1
  have hm := hu.1.1.2.1
  refine r_untied (d := _) hT hR hI (mRm_of hI hu.1.2.1) hu.1.2.2 hu.2.2.2.2.1 (fun r I' a b f => hk r I' _ ?_ rfl (uLn_x (fun k j h => f k j (by omega) (by omega) (by omega) (by omega) (by omega))))
  have e14 := f 102 14 (by omega) (by omega) (by omega) (by omega) (by omega)
  exact uPo_e hu (fun j => f _ _ (by omega) (by omega) (by omega) (by omega) (by omega)) (fun i hi => by rw [f 111 i (by omega) (by omega) (by omega) (by omega) (by omega), f 112 i (by omega) (by omega) (by omega) (by omega) (by omega)]; exact hI.2.2.2.2.2.2 i hi) (fun j => f _ _ (by omega) (by omega) (by omega) (by omega) (by omega)) (f _ _ (by omega) (by omega) (by omega) (by omega) (by omega)) (fun j => f _ _ (by omega) (by omega) (by omega) (by omega) (by omega)) (fun j => f _ _ (by omega) (by omega) (by omega) (by omega) (by omega)) (f _ _ (by omega) (by omega) (by omega) (by omega) (by omega)) hu.2.2.2.1 ⟨a, b⟩ (by rw [e14]; exact hu.2.2.2.2.2.1) (fun j hj => by rw [f 122 j (by omega) (by omega) (by omega) (by omega) (by omega)]; exact hu.2.2.2.2.2.2 j hj) (fun j _ => f 103 j (by omega) (by omega) (by omega) (by omega) (by omega)) (fun k j h => f k j (by omega) (by omega) (by omega) (by omega) (by omega))
theorem v_233 (hT : yLT T) (hR : yLR R) (hN : 126 ≤ N) (hu : uInv I) {x1 : Int} (hk : ∀ (r : Int) (I' : Nat → Nat → Int) (L : Int), uPo I I' L → L = I 102 2 → uLn I I' → K (some (yi r)) (N, T, R, I')) :
    yW l zSS D cy zFk z 60 233 bc bs K 0 0 0 [(0, yr (some 102)), (1, yi x1)] [] (N, T, R, I) := by
  have hI := hu.1.1.1
  have hm := hu.1.1.2.1
  refine r_said (d := _) hT hR ⟨hI.1.2.2.2.2.1, hI.1.2.2.2.2.2⟩ hI.2.1 hu.1.1.2.2.2 hu.2.2.2.2.2.2 (fun r I' t f => hk r I' _ ?_ rfl (uLn_x (fun k j h => f k j (by omega) (by omega))))
  have e42 := f 102 42 (by omega) (by omega)
  have e14 := f 102 14 (by omega) (by omega)
  exact uPo_e hu (fun j => f _ _ (by omega) (by omega)) (fun i hi => by rw [f 111 i (by omega) (by omega), f 112 i (by omega) (by omega)]; exact hI.2.2.2.2.2.2 i hi) (fun j => f _ _ (by omega) (by omega)) (f _ _ (by omega) (by omega)) (fun j => f _ _ (by omega) (by omega)) (fun j => f _ _ (by omega) (by omega)) (f _ _ (by omega) (by omega)) hu.2.2.2.1 (by rw [e42]; exact hu.2.2.2.2.1) (by rw [e14]; exact hu.2.2.2.2.2.1) t (fun j _ => f 103 j (by omega) (by omega)) (fun k j h => f k j (by omega) (by omega))
theorem v_176 (hT : yLT T) (hR : yLR R) (hN : 126 ≤ N) (hu : uInv I) {x1 : Int} (hk : ∀ (r : Int) (I' : Nat → Nat → Int) (L : Int), uPo I I' L → ((r = 1 ∧ 0 ≤ x1 ∧ x1 ≤ I 102 2 ∧ L = x1) ∨ (r = 0 ∧ ¬ (0 ≤ x1 ∧ x1 ≤ I 102 2) ∧ L = I 102 2)) → uLn I I' → K (some (yi r)) (N, T, R, I')) :
    yW l zSS D cy zFk z 60 176 bc bs K 0 0 0 [(0, yr (some 102)), (1, yi x1)] [] (N, T, R, I) := by
  have hI := hu.1.1.1
  have hm := hu.1.1.2.1
  have h2 := hu.2.2.2.1
  refine w_176 (d := _) hT hR (fun r I' f q => hk r I' (I' 102 2) ?_ q (uLn_x (fun k j h => f k j (by omega))))
  have e42 := f 102 42 (by omega)
  have e14 := f 102 14 (by omega)
  exact uPo_e hu (fun j => f _ _ (by omega)) (fun i hi => by rw [f 111 i (by omega), f 112 i (by omega)]; exact hI.2.2.2.2.2.2 i hi) (fun j => f _ _ (by omega)) (f _ _ (by omega)) (fun j => f _ _ (by omega)) (fun j => f _ _ (by omega)) rfl (by omega) (by rw [e42]; exact hu.2.2.2.2.1) (by rw [e14]; exact hu.2.2.2.2.2.1) (fun j hj => by rw [f 122 j (by omega)]; exact hu.2.2.2.2.2.2 j hj) (fun j hj => f 103 j (by omega)) (fun k j h => f k j (by omega))
theorem v_179 (hT : yLT T) (hR : yLR R) (hN : 126 ≤ N) (hu : uInv I) {x1 x2 x3 x4 x5 : Int} (hk : ∀ (r : Int) (I' : Nat → Nat → Int) (L : Int), uPo I I' L → ((r = -1 ∧ 940 < I 102 2 + 20 ∧ L = I 102 2) ∨ (r = I 102 2 + 20 ∧ I 102 2 + 20 ≤ 940 ∧ L = I 102 2 + 20)) → (L = I 102 2 + 20 → ∀ q, q < 20 → I' 103 ((I 102 2).toNat + q) = yFbs x1 x2 x3 x4 x5 q) → uLn I I' → K (some (yi r)) (N, T, R, I')) :
    yW l zSS D cy zFk z 60 179 bc bs K 0 0 0 [(0, yr (some 102)), (1, yi x1), (2, yi x2), (3, yi x3), (4, yi x4), (5, yi x5)] [] (N, T, R, I) := by
  have hI := hu.1.1.1
  have hm := hu.1.1.2.1
  have h2 := hu.2.2.2.1
  refine x_179 (d := _) hT hR (n := (I 102 2).toNat) (by omega) (by omega) (fun r I' f q v => hk r I' (I' 102 2) ?_ q v (uLn_x (fun k j h => f k j (by omega))))
  have e42 := f 102 42 (by omega)
  have e14 := f 102 14 (by omega)
  exact uPo_e hu (fun j => f _ _ (by omega)) (fun i hi => by rw [f 111 i (by omega), f 112 i (by omega)]; exact hI.2.2.2.2.2.2 i hi) (fun j => f _ _ (by omega)) (f _ _ (by omega)) (fun j => f _ _ (by omega)) (fun j => f _ _ (by omega)) rfl (by omega) (by rw [e42]; exact hu.2.2.2.2.1) (by rw [e14]; exact hu.2.2.2.2.2.1) (fun j hj => by rw [f 122 j (by omega)]; exact hu.2.2.2.2.2.2 j hj) (fun j hj => f 103 j (by omega)) (fun k j h => f k j (by omega))
theorem v_227 (hT : yLT T) (hR : yLR R) (hN : 126 ≤ N) (hu : uInv I) (hk : ∀ (r : Int) (I' : Nat → Nat → Int) (L : Int), uPo I I' L → L = 0 → uLm I I' → K (some (yi r)) (N, T, R, I')) :
    yW l zSS D cy zFk z 60 227 bc bs K 0 0 0 [(0, yr (some 102))] [] (N, T, R, I) := by
  have hI := hu.1.1.1
  have hm := hu.1.1.2.1
  refine r_plan (d := _) hT hR hN ⟨hu.2.2.2.1.1, hu.2.2.2.1.2, hu.2.2.2.2.2.1.1, hu.2.2.2.2.2.1.2⟩ ⟨hI.1.2.2.2.2.1, hI.1.2.2.2.2.2⟩ (fun r I' q c => hk r I' 0 ?_ rfl (by
    rcases c with f | ⟨f, g⟩
    · exact ⟨f 104 2 (by unfold mPw; omega), fun j => f 107 j (by unfold mPw; omega)⟩
    · exact ⟨f 104 2 (by unfold mPw; omega) (by omega), fun j => f 107 j (by unfold mPw; omega) (by omega)⟩))
  rcases c with f | ⟨f, g⟩
  · have f : ∀ k j, ¬ mPw k j → I' k j = I k j := f
    have e42 := f 102 42 (by unfold mPw; omega)
    exact uPo_e hu (fun j => f _ _ (by unfold mPw; omega)) (fun i hi => by rw [f 111 i (by unfold mPw; omega), f 112 i (by unfold mPw; omega)]; exact hI.2.2.2.2.2.2 i hi) (fun j => f _ _ (by unfold mPw; omega)) (f _ _ (by unfold mPw; omega)) (fun j => f _ _ (by unfold mPw; omega)) (fun j => f _ _ (by unfold mPw; omega)) q.1 (by omega) (by rw [e42]; exact hu.2.2.2.2.1) q.2 (fun j hj => by rw [f 122 j (by unfold mPw; omega)]; exact hu.2.2.2.2.2.2 j hj) (fun j _ => f 103 j (by unfold mPw; omega)) (fun k j h => f k j (by unfold mPw; omega))
  · have e42 := f 102 42 (by unfold mPw; omega) (by omega)
    refine ⟨uInv_k hu (fun j h => f _ _ (by unfold mPw; omega) (by omega)) g (mCo_lt hu.1.1.2.2.2 (fun j a b => f _ _ (by unfold mPw; omega) (by omega))) (fun i hi => by rw [f 111 i (by unfold mPw; omega) (by omega), f 112 i (by unfold mPw; omega) (by omega)]; exact hI.2.2.2.2.2.2 i hi) (fun j => f _ _ (by unfold mPw; omega) (by omega)) (f _ _ (by unfold mPw; omega) (by omega)) (fun j => f _ _ (by unfold mPw; omega) (by omega)) (fun j => f _ _ (by unfold mPw; omega) (by omega)) (by omega) (by rw [e42]; exact hu.2.2.2.2.1) q.2 (fun j hj => by rw [f 122 j (by unfold mPw; omega) (by omega)]; exact hu.2.2.2.2.2.2 j hj), fun k j h => f k j (by unfold mPw; omega) (by omega), q.1, fun i _ => f _ _ (by unfold mPw; omega) (by omega), fun j _ => f _ _ (by unfold mPw; omega) (by omega), fun j => f _ _ (by unfold mPw; omega) (by omega), fun j => ⟨f _ _ (by unfold mPw; omega) (by omega), f _ _ (by unfold mPw; omega) (by omega)⟩⟩
theorem v_234 (hT : yLT T) (hR : yLR R) (hN : 126 ≤ N) (hu : uInv I) (hk : ∀ (r : Int) (I' : Nat → Nat → Int) (L : Int), uPo I I' L → L = 0 → uLm I I' → K (some (yi r)) (N, T, R, I')) :
    yW l zSS D cy zFk z 60 234 bc bs K 0 0 0 [(0, yr (some 102))] [] (N, T, R, I) := by
  have hI := hu.1.1.1
  have hm := hu.1.1.2.1
  refine r_sentence (d := _) hT hR hN ⟨hu.2.2.2.1.1, hu.2.2.2.1.2, hu.2.2.2.2.2.1.1, hu.2.2.2.2.2.1.2⟩ ⟨hI.1.2.2.2.2.1, hI.1.2.2.2.2.2⟩ (fun r I' q c => hk r I' 0 ?_ rfl (by
    rcases c with f | ⟨f, g⟩
    · exact ⟨f 104 2 (by unfold mSw; omega), fun j => f 107 j (by unfold mSw; omega)⟩
    · exact ⟨f 104 2 (by unfold mSw; omega) (by omega), fun j => f 107 j (by unfold mSw; omega) (by omega)⟩))
  rcases c with f | ⟨f, g⟩
  · have f : ∀ k j, ¬ mSw k j → I' k j = I k j := f
    have e42 := f 102 42 (by unfold mSw; omega)
    exact uPo_e hu (fun j => f _ _ (by unfold mSw; omega)) (fun i hi => by rw [f 111 i (by unfold mSw; omega), f 112 i (by unfold mSw; omega)]; exact hI.2.2.2.2.2.2 i hi) (fun j => f _ _ (by unfold mSw; omega)) (f _ _ (by unfold mSw; omega)) (fun j => f _ _ (by unfold mSw; omega)) (fun j => f _ _ (by unfold mSw; omega)) q.1 (by omega) (by rw [e42]; exact hu.2.2.2.2.1) q.2 (fun j hj => by rw [f 122 j (by unfold mSw; omega)]; exact hu.2.2.2.2.2.2 j hj) (fun j _ => f 103 j (by unfold mSw; omega)) (fun k j h => f k j (by unfold mSw; omega))
  · have e42 := f 102 42 (by unfold mSw; omega) (by omega)
    refine ⟨uInv_k hu (fun j h => f _ _ (by unfold mSw; omega) (by omega)) (mPl_lt hu.1.1.2.2.1 (fun j a b => f _ _ (by unfold mSw; omega) (by omega))) g (fun i hi => by rw [f 111 i (by unfold mSw; omega) (by omega), f 112 i (by unfold mSw; omega) (by omega)]; exact hI.2.2.2.2.2.2 i hi) (fun j => f _ _ (by unfold mSw; omega) (by omega)) (f _ _ (by unfold mSw; omega) (by omega)) (fun j => f _ _ (by unfold mSw; omega) (by omega)) (fun j => f _ _ (by unfold mSw; omega) (by omega)) (by omega) (by rw [e42]; exact hu.2.2.2.2.1) q.2 (fun j hj => by rw [f 122 j (by unfold mSw; omega) (by omega)]; exact hu.2.2.2.2.2.2 j hj), fun k j h => f k j (by unfold mSw; omega) (by omega), q.1, fun i _ => f _ _ (by unfold mSw; omega) (by omega), fun j _ => f _ _ (by unfold mSw; omega) (by omega), fun j => f _ _ (by unfold mSw; omega) (by omega), fun j => ⟨f _ _ (by unfold mSw; omega) (by omega), f _ _ (by unfold mSw; omega) (by omega)⟩⟩
theorem v_156 (hT : yLT T) (hR : yLR R) (hN : 126 ≤ N) (hu : uInv I) (hk : ∀ (r : Int) (I' : Nat → Nat → Int) (L : Int), uPo I I' L → L = 0 → K (some (yi r)) (N, T, R, I')) :
    yW l zSS D cy zFk z 60 156 bc bs K 0 0 0 [(0, yr (some 102))] [] (N, T, R, I) := by
  have hI := hu.1.1.1
  have hm := hu.1.1.2.1
  refine r_alleys (d := _) hT hR hN ⟨hu.2.2.2.1.1, hu.2.2.2.1.2, hu.2.2.2.2.2.1.1, hu.2.2.2.2.2.1.2⟩ hI.2.2.2.2.2.2 (fun r I' q c => hk r I' 0 ?_ rfl)
  rcases c with f | ⟨f, i, e35, H, hH, hA⟩
  · have e42 := f 102 42 (by unfold mAw; omega)
    exact uPo_e hu (fun j => f _ _ (by unfold mAw; omega)) (fun i hi => by rw [f 111 i (by unfold mAw; omega), f 112 i (by unfold mAw; omega)]; exact hI.2.2.2.2.2.2 i hi) (fun j => f _ _ (by unfold mAw; omega)) (f _ _ (by unfold mAw; omega)) (fun j => f _ _ (by unfold mAw; omega)) (fun j => f _ _ (by unfold mAw; omega)) q.1 (by omega) (by rw [e42]; exact hu.2.2.2.2.1) q.2 (fun j hj => by rw [f 122 j (by unfold mAw; omega)]; exact hu.2.2.2.2.2.2 j hj) (fun j _ => f 103 j (by unfold mAw; omega)) (fun k j h => f k j (by unfold mAw; omega))
  · have e42 := f 102 42 (by unfold mAw; omega) (by omega) (by omega)
    obtain ⟨ro, nb⟩ := mAl_ro hH i.2.2.2.2.2.2 hA
    have z458 : I' 104 458 = 0 := by rw [hA 458 (by omega)]; unfold mAl mBg; rw [if_pos (by omega)]
    have z926 : I' 104 926 = 0 := by
      rw [hA 926 (by omega)]; unfold mAl mBg
      rw [if_neg (by omega), if_neg (by omega), if_neg (by omega), if_neg (by omega), if_neg (by omega), if_neg (by omega), if_neg (by omega), if_neg (by omega)]
      show (if (926 : Nat) < 458 then H 105 926 else if 462 ≤ (926 : Nat) ∧ (926 : Nat) < 470 then H 105 (350 + (926 - 462)) else if 526 ≤ (926 : Nat) ∧ (926 : Nat) < 626 then H 105 (358 + (926 - 526)) else 0) = 0
      rw [if_neg (by omega), if_neg (by omega), if_neg (by omega)]
    have z1007 : I' 104 1007 = 0 := by
      rw [hA 1007 (by omega)]; unfold mAl mBg
      rw [if_neg (by omega), if_neg (by omega), if_neg (by omega), if_neg (by omega), if_neg (by omega), if_neg (by omega), if_neg (by omega), if_neg (by omega)]
      show (if (1007 : Nat) < 458 then H 105 1007 else if 462 ≤ (1007 : Nat) ∧ (1007 : Nat) < 470 then H 105 (350 + (1007 - 462)) else if 526 ≤ (1007 : Nat) ∧ (1007 : Nat) < 626 then H 105 (358 + (1007 - 526)) else 0) = 0
      rw [if_neg (by omega), if_neg (by omega), if_neg (by omega)]
    refine ⟨⟨⟨⟨i, by omega, ⟨by omega, by omega, fun k hk => by omega⟩, ⟨0, 0, by rw [z1007]; rfl, by omega, fun i hi => by omega, rfl⟩⟩, ro, nb⟩, ⟨i.1.2.2.2.2.2, ro, nb, by omega, by omega, fun u hu => by omega⟩, fun k hk => ?_, by omega, by rw [e42]; exact hu.2.2.2.2.1, q.2, fun j hj => ?_⟩, fun k j h => f k j (by unfold mAw; omega) (by omega) (by omega), q.1, fun i _ => f _ _ (by unfold mAw; omega) (by omega) (by omega), fun j _ => f _ _ (by unfold mAw; omega) (by omega) (by omega), fun j => f _ _ (by unfold mAw; omega) (by omega) (by omega), fun j => ⟨f _ _ (by unfold mAw; omega) (by omega) (by omega), f _ _ (by unfold mAw; omega) (by omega) (by omega)⟩⟩
    · exact (hu.2.2.1 k hk).imp (fun e => by rw [f 125 k (by unfold mAw; omega) (by omega) (by omega)]; exact e) (fun e => mKeR_cg e (fun j _ => f 123 _ (by unfold mAw; omega) (by omega) (by omega)))
    · rw [f 122 j (by unfold mAw; omega) (by omega) (by omega)]; exact hu.2.2.2.2.2.2 j hj
theorem v_231 (hT : yLT T) (hR : yLR R) (hN : 126 ≤ N) (hu : uInv I) {x1 : Int} (hk : ∀ (r : Int) (I' : Nat → Nat → Int) (L : Int), uPo I I' L → L = I 102 2 → ((r = 0 ∧ ¬ (0 ≤ x1 ∧ x1 ≤ 1 ∧ I 125 x1.toNat ≠ 0)) ∨ (r = 1 ∧ (0 ≤ x1 ∧ x1 ≤ 1 ∧ I 125 x1.toNat ≠ 0))) → K (some (yi r)) (N, T, R, I')) :
    yW l zSS D cy zFk z 60 231 bc bs K 0 0 0 [(0, yr (some 102)), (1, yi x1)] [] (N, T, R, I) := by
  have hI := hu.1.1.1
  have hm := hu.1.1.2.1
  refine r_restoreR (d := _) hT hR hN hu.2.2.1 hI.2.2.2.2.2.2 (fun r I' c => ?_)
  rcases c with ⟨c1, c2, f⟩ | ⟨c1, c2, a, e35, f⟩
  · exact hk r I' _ (uPo_x hu (fun i hi => by rw [f 111 i (by omega), f 112 i (by omega)]; exact hI.2.2.2.2.2.2 i hi) (fun k j h => f k j (by omega))) rfl (.inl ⟨c1, c2⟩)
  · have e2 := f 102 2 (by omega) (by omega) (by omega)
    have e42 := f 102 42 (by omega) (by omega) (by omega)
    have e14 := f 102 14 (by omega) (by omega) (by omega)
    refine hk r I' (I 102 2) ⟨⟨a, ⟨a.1.1.1.2.2.2.2.2, a.2.1, a.2.2, by omega, by omega, fun u hu => by omega⟩, fun k hk => ?_, by rw [e2]; exact hu.2.2.2.1, by rw [e42]; exact hu.2.2.2.2.1, by rw [e14]; exact hu.2.2.2.2.2.1, fun j hj => ?_⟩, fun k j h => f k j (by omega) (by omega) (by omega), e2, fun i _ => f _ _ (by omega) (by omega) (by omega), fun j _ => f _ _ (by omega) (by omega) (by omega), fun j => f _ _ (by omega) (by omega) (by omega), fun j => ⟨f _ _ (by omega) (by omega) (by omega), f _ _ (by omega) (by omega) (by omega)⟩⟩ rfl (.inr ⟨c1, c2⟩)
    · exact (hu.2.2.1 k hk).imp (fun e => by rw [f 125 k (by omega) (by omega) (by omega)]; exact e) (fun e => mKeR_cg e (fun j _ => f 123 _ (by omega) (by omega) (by omega)))
    · rw [f 122 j (by omega) (by omega) (by omega)]; exact hu.2.2.2.2.2.2 j hj
theorem v_184 (hT : yLT T) (hR : yLR R) (hN : 126 ≤ N) (hu : uInv I) {x1 : Int} (hk : ∀ (r : Int) (I' : Nat → Nat → Int), uInv I' → (∀ k j, (k < 102 ∨ 126 ≤ k) → I' k j = I k j) → I' 102 2 = I 102 2 → (∀ j, I' 103 j = I 103 j ∧ I' 108 j = I 108 j) → ((r = 1 ∧ 0 ≤ x1 ∧ x1 ≤ 1 ∧ ∀ j, I' 125 j = if j = x1.toNat then 1 else I 125 j) ∨ (r = 0 ∧ ¬ (0 ≤ x1 ∧ x1 ≤ 1) ∧ ∀ j, I' 125 j = I 125 j)) → K (some (yi r)) (N, T, R, I')) :
    yW l zSS D cy zFk z 60 184 bc bs K 0 0 0 [(0, yr (some 102)), (1, yi x1)] [] (N, T, R, I) := by
  have hI := hu.1.1.1
  refine r_imageR (d := _) hT hR hN hu.1 hu.2.2.1 (fun r I' k f q => hk r I' ?_ (fun k j h => f k j (by omega) (by omega) (by omega) (by omega)) (f _ _ (by omega) (by omega) (by omega) (by omega)) (fun j => ⟨f _ _ (by omega) (by omega) (by omega) (by omega), f _ _ (by omega) (by omega) (by omega) (by omega)⟩) q)
  have e2 := f 102 2 (by omega) (by omega) (by omega) (by omega)
  have e42 := f 102 42 (by omega) (by omega) (by omega) (by omega)
  have e14 := f 102 14 (by omega) (by omega) (by omega) (by omega)
  have e104 : ∀ j, I' 104 j = I 104 j := fun j => f _ _ (by omega) (by omega) (by omega) (by omega)
  have ho : mOr I' := fun i hi => by rw [f 111 i (by omega) (by omega) (by omega) (by omega), f 112 i (by omega) (by omega) (by omega) (by omega)]; exact hI.2.2.2.2.2.2 i hi
  have al := mAllR_lt hu.1 (fun j _ => e104 j) ho
  exact ⟨al, mUnR_sl (fun j _ => e104 j) (f _ _ (by omega) (by omega) (by omega) (by omega)) (fun j => f _ _ (by omega) (by omega) (by omega) (by omega)) hu.2.1 al.2.1 al.2.2, k, by rw [e2]; exact hu.2.2.2.1, by rw [e42]; exact hu.2.2.2.2.1, by rw [e14]; exact hu.2.2.2.2.2.1, fun j hj => by rw [f 122 j (by omega) (by omega) (by omega) (by omega)]; exact hu.2.2.2.2.2.2 j hj⟩
/-- a new model -/
theorem uInv_0 {I : Nat → Nat → Int} (h : ∀ k j, 102 ≤ k → k < 126 → k ≠ 108 → I k j = 0) : uInv I := by
  have z := fun j => h 104 j (by decide) (by decide) (by decide)
  have or_ : mOr I := fun i _ => by rw [h 111 i (by decide) (by decide) (by decide), h 112 i (by decide) (by decide) (by decide)]; omega
  have inv : mInv I := by
    refine ⟨?_, by rw [z]; omega, fun c _ => by rw [z]; omega, fun k _ hlt => ?_, by rw [z]; omega, fun k _ => ?_, or_⟩
    · unfold mDim; rw [z, z, z]; omega
    · rw [z] at hlt; omega
    · unfold mAt; rw [z, z, z, z]; exact ⟨.inr (.inr ⟨rfl, rfl⟩), .inr (.inr ⟨rfl, rfl⟩)⟩
  have ro : mRo I := fun c _ _ => by
    rw [z, z]
    show (0 : Int) ≤ 1 + 0
    omega
  have nb : mNb I := fun k _ hlt => by rw [z] at hlt; omega
  refine ⟨⟨⟨inv, by rw [z]; omega, ⟨by rw [z]; omega, by rw [z]; omega, fun i hi => by rw [z] at hi; omega⟩, ⟨0, 0, by rw [z]; rfl, by omega, fun i hi => by omega, rfl⟩⟩, ro, nb⟩, ⟨by rw [z]; omega, ro, nb, by rw [h 102 35 (by decide) (by decide) (by decide)]; omega, by rw [h 102 35 (by decide) (by decide) (by decide)]; omega, fun u hu => by rw [h 102 35 (by decide) (by decide) (by decide)] at hu; omega⟩, fun k _ => .inl (h 125 k (by decide) (by decide) (by decide)), by rw [h 102 2 (by decide) (by decide) (by decide)]; omega, by rw [h 102 42 (by decide) (by decide) (by decide)]; omega, by rw [h 102 14 (by decide) (by decide) (by decide)]; omega, fun j _ => .inl (h 122 j (by decide) (by decide) (by decide))⟩
end Sr
