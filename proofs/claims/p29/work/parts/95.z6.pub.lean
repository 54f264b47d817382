/-! THE CLASS's ONE INVARIANT, and its public methods under it (printed by wip/whole/y/gen98.py) -/
/-- what is so of the class's cells between calls; ns: how long the UNTIER's marks are -/
def cInv (N : Nat) (T : Nat → Nat × Nat) (R : Nat → Nat → Option Nat) (I : Nat → Nat → Int) (ns : Nat) : Prop :=
  126 ≤ N ∧ yLT T ∧ yLR R ∧ cUi N T R ns ∧ cHs N T R ∧ cHk R I ∧ cIm N T R ∧ cIl R I ∧ (0 ≤ I 1 1 ∧ I 1 1 ≤ 940) ∧ cLd I 4
/-- what is so behind a call; L: how much of the tape is fed -/
def cPo (N : Nat) (T : Nat → Nat × Nat) (R : Nat → Nat → Option Nat) (I : Nat → Nat → Int) (N' : Nat) (T' : Nat → Nat × Nat) (R' : Nat → Nat → Option Nat) (I' : Nat → Nat → Int) (ns' : Nat) (L : Int) : Prop :=
  cInv N' T' R' I' ns' ∧ (N ≤ N' ∧ ∀ k, k < N → T' k = T k) ∧ (∀ k j, 102 ≤ k → k < 126 → I' k j = I k j) ∧ I' 1 1 = L ∧ (∀ i, i < 2 → (R' 101 i = none ↔ R 101 i = none)) ∧ (∀ j : Nat, (j : Int) < I 1 1 → I' 2 j = I 2 j) ∧ (∀ i, i < 2 → R' 101 i = R 101 i) ∧ ∀ k j, 126 ≤ k → k < N → ((T k).1 = 11 ∨ (T k).1 = 2) → I' k j = I k j
/-- the land's NAMES stay -/
def cLm (I I' : Nat → Nat → Int) : Prop := I' 4 5 = I 4 5 ∧ ∀ j, I' 8 j = I 8 j
/-- so does the FAULT -/
def cLn (I I' : Nat → Nat → Int) : Prop := cLm I I' ∧ I' 1 10 = I 1 10
section Cj
variable {l : Launch} {D : va_G} {cy : Nat → ClassId} {z d bc bs N ns : Nat} {T : Nat → Nat × Nat} {R : Nat → Nat → Option Nat} {I : Nat → Nat → Int} {K : yKo}
theorem cHp_land {p : Nat} (h : cHp N T R p) : ∀ q, (T q).1 = 11 → ¬ (p ≤ q ∧ q < p + 13) := fun q hq =>
  cNs_no h (.inr ⟨by rw [hq]; decide, by rw [hq]; decide⟩)
/-- images' lands stay where the lands' cells do -/
theorem cIl_cg {R' : Nat → Nat → Option Nat} {I' : Nat → Nat → Int} (hi : cIm N T R) (h : cIl R I) (eR : ∀ i, i < 2 → R' 101 i = R 101 i) (e : ∀ k j, 126 ≤ k → k < N → (T k).1 = 11 → I' k j = I k j) : cIl R' I' := fun i p hi2 ep => by
  rw [eR i hi2] at ep
  have g := h i p hi2 ep
  rcases hi i hi2 with q | ⟨p', q1, q2, q3, q4⟩
  · rw [q] at ep; cases ep
  · rw [ep] at q1
    cases q1
    have t : (T (p + 1)).1 = 11 := by rw [show T (p + 1) = (11, 15) from q4.2.1.1 0 rfl]
    unfold cLd
    rw [e (p + 1) 0 (by omega) (by omega) t, e (p + 1) 1 (by omega) (by omega) t]
    exact g
/-- numbers alone changed -/
theorem cPo_I {I' : Nat → Nat → Int} {L : Int} (h : cInv N T R I ns) (h1 : I' 1 1 = L) (hL : 0 ≤ L ∧ L ≤ 940) (h4 : cLd I' 4) (h89 : I' 89 1 = I 89 1 ∨ I' 89 1 ≤ 0) (f2 : ∀ j : Nat, (j : Int) < I 1 1 → I' 2 j = I 2 j) (f : ∀ k j, 102 ≤ k → I' k j = I k j) : cPo N T R I N T R I' ns L := by
  obtain ⟨a, b, c, e, g, i, m, n, _, _⟩ := h
  refine ⟨⟨a, b, c, e, g, ?_, m, cIl_cg m n (fun _ _ => rfl) (fun k j hk _ _ => f k j (by omega)), by rw [h1]; exact hL, h4⟩, ⟨Nat.le_refl _, fun _ _ => rfl⟩, fun k j hk _ => f k j hk, h1, fun _ _ => Iff.rfl, f2, fun _ _ => rfl, fun k j h1 _ _ => f k j (by omega)⟩
  rcases h89 with q | q
  · exact cHk_cg i q
  · exact fun i hi hl => absurd hl (by omega)
/-- nothing of that changed -/
theorem cPo_s {I' : Nat → Nat → Int} (h : cInv N T R I ns) (f : ∀ k j, ¬ (67 ≤ k ∧ k < 89) → I' k j = I k j) : cPo N T R I N T R I' ns (I 1 1) := by
  refine cPo_I h (f _ _ (by omega)) h.2.2.2.2.2.2.2.2.1 ?_ (.inl (f _ _ (by omega))) (fun j _ => f 2 j (by omega)) (fun k j hk => f k j (by omega))
  unfold cLd
  rw [f 4 0 (by omega), f 4 1 (by omega)]
  exact h.2.2.2.2.2.2.2.2.2
theorem cLn_s {I' : Nat → Nat → Int} (f : ∀ k j, ¬ (67 ≤ k ∧ k < 89) → I' k j = I k j) : cLn I I' := ⟨⟨f _ _ (by omega), fun j => f _ _ (by omega)⟩, f _ _ (by omega)⟩
theorem cLn_kp {N' : Nat} {T' : Nat → Nat × Nat} {R' : Nat → Nat → Option Nat} {I' : Nat → Nat → Int} (h : cInv N T R I ns) (k : cKp N T R I N' T' R' I') : cLn I I' := by
  have a := h.1
  exact ⟨⟨k.2.2.2.2.2 4 5 (by omega) (by unfold cFk; omega) (.inl (by decide)), fun j => k.2.2.2.2.2 8 j (by omega) (by unfold cFk; omega) (.inl (by decide))⟩, k.2.2.2.2.2 1 10 (by omega) (by unfold cFk; omega) (.inl (by decide))⟩
theorem cUi_gr {Ok : Nat → Nat → Prop} {N' : Nat} {T' : Nat → Nat × Nat} {R' : Nat → Nat → Option Nat} (h126 : 126 ≤ N) (h : cUi N T R ns) (g : cGr Ok N T R N' T' R') (ho : ∀ j, ¬ Ok 91 j) : cUi N' T' R' ns := by
  obtain ⟨vs, vq, vt, nt, ⟨u1, u2, u3, u4, u5, u6, u7, u8, u9⟩, a, b, c, e, f, m, n, o⟩ := h
  have r : ∀ j, R' 91 j = R 91 j := fun j => g.2.2 91 j (by omega) (ho j)
  have l := g.1
  exact ⟨vs, vq, vt, nt, ⟨by rw [r]; exact u1, by rw [g.2.1 _ a]; exact u2, u3, by rw [r]; exact u4, by rw [g.2.1 _ b]; exact u5, u6, by rw [r]; exact u7, by rw [g.2.1 _ c]; exact u8, u9⟩, by omega, by omega, by omega, e, f, m, n, o⟩
theorem cIm_gr {Ok : Nat → Nat → Prop} {N' : Nat} {T' : Nat → Nat × Nat} {R' : Nat → Nat → Option Nat} (h126 : 126 ≤ N) (h : cIm N T R) (g : cGr Ok N T R N' T' R') (ho : ∀ k j, 101 ≤ k → ¬ Ok k j) : cIm N' T' R' := fun i hi => by
  rw [g.2.2 101 i (by omega) (ho 101 i (Nat.le_refl _))]
  rcases h i hi with q | ⟨p, q1, q2, q3, q4⟩
  · exact .inl q
  · exact .inr ⟨p, q1, q2, by have := g.1; omega, cWd_cg q4 (fun k _ _ => g.2.1 k (by omega)) (fun k j _ _ => g.2.2 k j (by omega) (ho k j (by omega)))⟩
theorem cHs_gr {Ok : Nat → Nat → Prop} {N' : Nat} {T' : Nat → Nat × Nat} {R' : Nat → Nat → Option Nat} (h126 : 126 ≤ N) (h : cHs N T R) (g : cGr Ok N T R N' T' R') (ho : ∀ k j, (k = 90 ∨ 126 ≤ k) → ¬ Ok k j) : cHs N' T' R' := fun i hi => by
  rw [g.2.2 90 i (by omega) (ho 90 i (.inl rfl))]
  rcases h i hi with q | ⟨p, q1, q2⟩
  · exact .inl q
  · exact .inr ⟨p, q1, cHp_cg q2 g.1 g.2.1 (fun k j a b => g.2.2 k j b (ho k j (.inr a)))⟩
/-- behind an act that is kept -/
theorem cPo_kp {N' : Nat} {T' : Nat → Nat × Nat} {R' : Nat → Nat → Option Nat} {I' : Nat → Nat → Int} (h : cInv N T R I ns) (k : cKp N T R I N' T' R' I') : cPo N T R I N' T' R' I' ns (I 1 1) := by
  obtain ⟨a, b, c, e, g, i, m, n, o, p⟩ := h
  obtain ⟨k1, k2, k3, k4, k5, k6⟩ := k
  have low : ∀ k j, k < 126 → cFk k j → I' k j = I k j := fun k j h1 h2 => k6 k j (by omega) h2 (.inl h1)
  have e11 : I' 1 1 = I 1 1 := low 1 1 (by decide) (by unfold cFk; omega)
  refine ⟨⟨by have := k3.1; omega, k1, k2, cUi_gr a e k3 (fun j q => by cases q), k4, k5, cIm_gr a m k3 (fun k j q r => by have r : k = 90 := r; omega), cIl_cg m n (fun i _ => k3.2.2 101 i (by omega) (fun q => by cases q)) (fun k j h1 h2 h3 => k6 k j h2 (by unfold cFk; omega) (.inr ⟨by rw [h3]; decide, by rw [h3]; decide⟩)), by rw [e11]; exact o, ?_⟩, ⟨k3.1, k3.2.1⟩, fun k j h1 h2 => low k j h2 (by unfold cFk; omega), e11, fun i _ => by rw [k3.2.2 101 i (by omega) (fun q => by cases q)], fun j _ => low 2 j (by decide) (by unfold cFk; omega), fun i _ => k3.2.2 101 i (by omega) (fun q => by cases q), fun k j h1 h2 h3 => k6 k j h2 (by unfold cFk; omega) (.inr (by rcases h3 with h3 | h3 <;> rw [h3] <;> exact ⟨by decide, by decide⟩))⟩
  unfold cLd
  rw [low 4 0 (by decide) (by unfold cFk; omega), low 4 1 (by decide) (by unfold cFk; omega)]
  exact p
/-- rows were made that nothing refers to any longer -/
theorem cPo_nw {N' : Nat} {T' : Nat → Nat × Nat} {R' : Nat → Nat → Option Nat} {I' : Nat → Nat → Int} (h : cInv N T R I ns) (hT : yLT T') (hR : yLR R') (hN : N ≤ N') (oT : ∀ k, k < N → T' k = T k) (oR : ∀ k j, k < N → R' k j = R k j) (f : ∀ k j, k < N → ¬ (67 ≤ k ∧ k < 89) → I' k j = I k j) : cPo N T R I N' T' R' I' ns (I 1 1) := by
  obtain ⟨a, b, c, e, g, i, m, n, o, p⟩ := h
  have gr : cGr (fun _ _ => False) N T R N' T' R' := ⟨hN, oT, fun k j h _ => oR k j h⟩
  have e11 : I' 1 1 = I 1 1 := f 1 1 (by omega) (by omega)
  refine ⟨⟨by omega, hT, hR, cUi_gr a e gr (fun _ q => q), cHs_gr a g gr (fun _ _ _ q => q), fun i' h1 h2 => ?_, cIm_gr a m gr (fun _ _ _ q => q), cIl_cg m n (fun i _ => oR 101 i (by omega)) (fun k j h1 h2 _ => f k j h2 (by omega)), by rw [e11]; exact o, ?_⟩, ⟨hN, oT⟩, fun k j h1 h2 => f k j (by omega) (by omega), e11, fun i _ => by rw [oR 101 i (by omega)], fun j _ => f 2 j (by omega) (by omega), fun i _ => oR 101 i (by omega), fun k j h1 h2 _ => f k j h2 (by omega)⟩
  · rw [oR 90 i' (by omega)]
    exact i i' h1 (by rw [← f 89 1 (by omega) (by omega)]; exact h2)
  · unfold cLd
    rw [f 4 0 (by omega) (by omega), f 4 1 (by omega) (by omega)]
    exact p
theorem v_115 (hc : cInv N T R I ns) (hk : ∀ (r : Int) (N' : Nat) (T' : Nat → Nat × Nat) (R' : Nat → Nat → Option Nat) (I' : Nat → Nat → Int) (ns' : Nat) (L : Int), cPo N T R I N' T' R' I' ns' L → L = I 1 1 → ns' = ns → cLn I I' → K (some (yi r)) (N', T', R', I')) :
    yW l zSS D cy zFk z 60 115 bc bs K 0 0 0 [(0, yr (some 0))] [] (N, T, R, I) := by
  have hT := hc.2.1
  have hR := hc.2.2.1
  exact w_115 (d := _) hT hR (fun r I' f _ => hk _ _ _ _ _ _ _ (cPo_s hc f) rfl rfl (cLn_s f))
theorem v_124 (hc : cInv N T R I ns) {x1 : Int} (hk : ∀ (r : Int) (N' : Nat) (T' : Nat → Nat × Nat) (R' : Nat → Nat → Option Nat) (I' : Nat → Nat → Int) (ns' : Nat) (L : Int), cPo N T R I N' T' R' I' ns' L → L = I 1 1 → ns' = ns → cLn I I' → K (some (yi r)) (N', T', R', I')) :
    yW l zSS D cy zFk z 60 124 bc bs K 0 0 0 [(0, yr (some 0)), (1, yi x1)] [] (N, T, R, I) := by
  have hT := hc.2.1
  have hR := hc.2.2.1
  exact w_124 (d := _) hT hR (fun r I' f _ => hk _ _ _ _ _ _ _ (cPo_s hc f) rfl rfl (cLn_s f))
theorem v_131 (hc : cInv N T R I ns) (hk : ∀ (r : Int) (N' : Nat) (T' : Nat → Nat × Nat) (R' : Nat → Nat → Option Nat) (I' : Nat → Nat → Int) (ns' : Nat) (L : Int), cPo N T R I N' T' R' I' ns' L → L = I 1 1 → ns' = ns → cLn I I' → K (some (yi r)) (N', T', R', I')) :
    yW l zSS D cy zFk z 60 131 bc bs K 0 0 0 [(0, yr (some 0))] [] (N, T, R, I) := by
  have hT := hc.2.1
  have hR := hc.2.2.1
  exact w_131 (d := _) hT hR (fun r I' f _ => hk _ _ _ _ _ _ _ (cPo_s hc f) rfl rfl (cLn_s f))
theorem v_132 (hc : cInv N T R I ns) (hk : ∀ (r : Int) (N' : Nat) (T' : Nat → Nat × Nat) (R' : Nat → Nat → Option Nat) (I' : Nat → Nat → Int) (ns' : Nat) (L : Int), cPo N T R I N' T' R' I' ns' L → L = I 1 1 → ns' = ns → cLn I I' → K (some (yi r)) (N', T', R', I')) :
    yW l zSS D cy zFk z 60 132 bc bs K 0 0 0 [(0, yr (some 0))] [] (N, T, R, I) := by
  have hT := hc.2.1
  have hR := hc.2.2.1
  exact w_132 (d := _) hT hR (fun r I' f _ => hk _ _ _ _ _ _ _ (cPo_s hc f) rfl rfl (cLn_s f))
theorem v_133 (hc : cInv N T R I ns) {x1 x2 : Int} (hk : ∀ (r : Int) (N' : Nat) (T' : Nat → Nat × Nat) (R' : Nat → Nat → Option Nat) (I' : Nat → Nat → Int) (ns' : Nat) (L : Int), cPo N T R I N' T' R' I' ns' L → L = I 1 1 → ns' = ns → cLn I I' → K (some (yi r)) (N', T', R', I')) :
    yW l zSS D cy zFk z 60 133 bc bs K 0 0 0 [(0, yr (some 0)), (1, yi x1), (2, yi x2)] [] (N, T, R, I) := by
  have hT := hc.2.1
  have hR := hc.2.2.1
  exact w_133 (d := _) hT hR (fun r I' f _ => hk _ _ _ _ _ _ _ (cPo_s hc f) rfl rfl (cLn_s f))
theorem v_139 (hc : cInv N T R I ns) {x1 x2 : Int} (hk : ∀ (r : Int) (N' : Nat) (T' : Nat → Nat × Nat) (R' : Nat → Nat → Option Nat) (I' : Nat → Nat → Int) (ns' : Nat) (L : Int), cPo N T R I N' T' R' I' ns' L → L = I 1 1 → ns' = ns → cLn I I' → K (some (yi r)) (N', T', R', I')) :
    yW l zSS D cy zFk z 60 139 bc bs K 0 0 0 [(0, yr (some 0)), (1, yi x1), (2, yi x2)] [] (N, T, R, I) := by
  have hT := hc.2.1
  have hR := hc.2.2.1
  exact w_139 (d := _) hT hR (fun r I' f _ => hk _ _ _ _ _ _ _ (cPo_s hc f) rfl rfl (cLn_s f))
theorem v_141 (hc : cInv N T R I ns) (hk : ∀ (r : Int) (N' : Nat) (T' : Nat → Nat × Nat) (R' : Nat → Nat → Option Nat) (I' : Nat → Nat → Int) (ns' : Nat) (L : Int), cPo N T R I N' T' R' I' ns' L → L = I 1 1 → ns' = ns → cLn I I' → K (some (yi r)) (N', T', R', I')) :
    yW l zSS D cy zFk z 60 141 bc bs K 0 0 0 [(0, yr (some 0))] [] (N, T, R, I) := by
  have hT := hc.2.1
  have hR := hc.2.2.1
  exact w_141 (d := _) hT hR (fun r I' f _ => hk _ _ _ _ _ _ _ (cPo_s hc f) rfl rfl (cLn_s f))
theorem v_142 (hc : cInv N T R I ns) {x1 : Int} (hk : ∀ (r : Int) (N' : Nat) (T' : Nat → Nat × Nat) (R' : Nat → Nat → Option Nat) (I' : Nat → Nat → Int) (ns' : Nat) (L : Int), cPo N T R I N' T' R' I' ns' L → L = I 1 1 → ns' = ns → cLn I I' → K (some (yi r)) (N', T', R', I')) :
    yW l zSS D cy zFk z 60 142 bc bs K 0 0 0 [(0, yr (some 0)), (1, yi x1)] [] (N, T, R, I) := by
  have hT := hc.2.1
  have hR := hc.2.2.1
  exact w_142 (d := _) hT hR (fun r I' f _ => hk _ _ _ _ _ _ _ (cPo_s hc f) rfl rfl (cLn_s f))
theorem v_153 (hc : cInv N T R I ns) {x1 : Int} (hk : ∀ (r : Int) (N' : Nat) (T' : Nat → Nat × Nat) (R' : Nat → Nat → Option Nat) (I' : Nat → Nat → Int) (ns' : Nat) (L : Int), cPo N T R I N' T' R' I' ns' L → L = I 1 1 → ns' = ns → cLn I I' → K (some (yi r)) (N', T', R', I')) :
    yW l zSS D cy zFk z 60 153 bc bs K 0 0 0 [(0, yr (some 0)), (1, yi x1)] [] (N, T, R, I) := by
  have hT := hc.2.1
  have hR := hc.2.2.1
  exact w_153 (d := _) hT hR (fun r I' f _ => hk _ _ _ _ _ _ _ (cPo_s hc f) rfl rfl (cLn_s f))
theorem v_137 (hc : cInv N T R I ns) {x1 : Int} (hk : ∀ (r : Int) (N' : Nat) (T' : Nat → Nat × Nat) (R' : Nat → Nat → Option Nat) (I' : Nat → Nat → Int) (ns' : Nat) (L : Int), cPo N T R I N' T' R' I' ns' L → L = I 1 1 → ns' = ns → cLn I I' → K (some (yi r)) (N', T', R', I')) :
    yW l zSS D cy zFk z 60 137 bc bs K 0 0 0 [(0, yr (some 0)), (1, yi x1)] [] (N, T, R, I) := by
  have hT := hc.2.1
  have hR := hc.2.2.1
  exact w_137 (d := _) hT hR (fun r I' f _ => hk _ _ _ _ _ _ _ (cPo_s hc (fun k j g => f k j (by omega))) rfl rfl (cLn_s (fun k j g => f k j (by omega))))
theorem v_152 (hc : cInv N T R I ns) {x1 x2 : Int} (hk : ∀ (r : Int) (N' : Nat) (T' : Nat → Nat × Nat) (R' : Nat → Nat → Option Nat) (I' : Nat → Nat → Int) (ns' : Nat) (L : Int), cPo N T R I N' T' R' I' ns' L → L = I 1 1 → ns' = ns → cLn I I' → K (some (yi r)) (N', T', R', I')) :
    yW l zSS D cy zFk z 60 152 bc bs K 0 0 0 [(0, yr (some 0)), (1, yi x1), (2, yi x2)] [] (N, T, R, I) := by
  have hT := hc.2.1
  have hR := hc.2.2.1
  exact w_152 (d := _) hT hR (fun r I' f _ => hk _ _ _ _ _ _ _ (cPo_s hc (fun k j g => f k j (by omega))) rfl rfl (cLn_s (fun k j g => f k j (by omega))))
theorem v_118 (hc : cInv N T R I ns) {x1 : Int} (hk : ∀ (r : Int) (N' : Nat) (T' : Nat → Nat × Nat) (R' : Nat → Nat → Option Nat) (I' : Nat → Nat → Int) (ns' : Nat) (L : Int), cPo N T R I N' T' R' I' ns' L → L = I 1 1 → ns' = ns → cLn I I' → K (some (yi r)) (N', T', R', I')) :
    yW l zSS D cy zFk z 60 118 bc bs K 0 0 0 [(0, yr (some 0)), (1, yi x1)] [] (N, T, R, I) := by
  have hT := hc.2.1
  have hR := hc.2.2.1
  exact w_118 (d := _) hT hR (fun r _ => hk _ _ _ _ _ _ _ (cPo_s hc (fun _ _ _ => rfl)) rfl rfl (cLn_s (fun _ _ _ => rfl)))
theorem v_121 (hc : cInv N T R I ns) (hk : ∀ (r : Int) (N' : Nat) (T' : Nat → Nat × Nat) (R' : Nat → Nat → Option Nat) (I' : Nat → Nat → Int) (ns' : Nat) (L : Int), cPo N T R I N' T' R' I' ns' L → L = I 1 1 → ns' = ns → cLn I I' → K (some (yi r)) (N', T', R', I')) :
    yW l zSS D cy zFk z 60 121 bc bs K 0 0 0 [(0, yr (some 0))] [] (N, T, R, I) := by
  have hT := hc.2.1
  have hR := hc.2.2.1
  exact w_121 (d := _) hT hR (fun r _ => hk _ _ _ _ _ _ _ (cPo_s hc (fun _ _ _ => rfl)) rfl rfl (cLn_s (fun _ _ _ => rfl)))
theorem v_129 (hc : cInv N T R I ns) {x1 : Int} (hk : ∀ (r : Int) (N' : Nat) (T' : Nat → Nat × Nat) (R' : Nat → Nat → Option Nat) (I' : Nat → Nat → Int) (ns' : Nat) (L : Int), cPo N T R I N' T' R' I' ns' L → L = I 1 1 → ns' = ns → cLn I I' → K (some (yi r)) (N', T', R', I')) :
    yW l zSS D cy zFk z 60 129 bc bs K 0 0 0 [(0, yr (some 0)), (1, yi x1)] [] (N, T, R, I) := by
  have hT := hc.2.1
  have hR := hc.2.2.1
  exact w_129 (d := _) hT hR (fun r _ => hk _ _ _ _ _ _ _ (cPo_s hc (fun _ _ _ => rfl)) rfl rfl (cLn_s (fun _ _ _ => rfl)))
theorem v_136 (hc : cInv N T R I ns) {x1 x2 : Int} (hk : ∀ (r : Int) (N' : Nat) (T' : Nat → Nat × Nat) (R' : Nat → Nat → Option Nat) (I' : Nat → Nat → Int) (ns' : Nat) (L : Int), cPo N T R I N' T' R' I' ns' L → L = I 1 1 → ns' = ns → cLn I I' → K (some (yi r)) (N', T', R', I')) :
    yW l zSS D cy zFk z 60 136 bc bs K 0 0 0 [(0, yr (some 0)), (1, yi x1), (2, yi x2)] [] (N, T, R, I) := by
  have hT := hc.2.1
  have hR := hc.2.2.1
  exact w_136 (d := _) hT hR (fun r _ => hk _ _ _ _ _ _ _ (cPo_s hc (fun _ _ _ => rfl)) rfl rfl (cLn_s (fun _ _ _ => rfl)))
theorem v_138 (hc : cInv N T R I ns) {x1 : Int} (hk : ∀ (r : Int) (N' : Nat) (T' : Nat → Nat × Nat) (R' : Nat → Nat → Option Nat) (I' : Nat → Nat → Int) (ns' : Nat) (L : Int), cPo N T R I N' T' R' I' ns' L → L = I 1 1 → ns' = ns → cLn I I' → K (some (yi r)) (N', T', R', I')) :
    yW l zSS D cy zFk z 60 138 bc bs K 0 0 0 [(0, yr (some 0)), (1, yi x1)] [] (N, T, R, I) := by
  have hT := hc.2.1
  have hR := hc.2.2.1
  exact w_138 (d := _) hT hR (fun r _ => hk _ _ _ _ _ _ _ (cPo_s hc (fun _ _ _ => rfl)) rfl rfl (cLn_s (fun _ _ _ => rfl)))
theorem v_119 (hc : cInv N T R I ns) (hb1 : 13 ≤ bc) (hb2 : 494 ≤ bs) {x1 : Int} (hk : ∀ (r : Int) (N' : Nat) (T' : Nat → Nat × Nat) (R' : Nat → Nat → Option Nat) (I' : Nat → Nat → Int) (ns' : Nat) (L : Int), cPo N T R I N' T' R' I' ns' L → L = I 1 1 → ns' = ns → cLn I I' → K (some (yi r)) (N', T', R', I')) :
    yW l zSS D cy zFk z 60 119 bc bs K 0 0 0 [(0, yr (some 0)), (1, yi x1)] [] (N, T, R, I) := by
  have hT := hc.2.1
  have hR := hc.2.2.1
  exact w_119 (d := _) hT hR hc.1 hc.2.2.2.2.1 hc.2.2.2.2.2.1 hb1 hb2 (fun r N' T' R' I' h => hk _ _ _ _ _ _ _ (cPo_kp hc h) rfl rfl (cLn_kp hc h))
theorem v_128 (hc : cInv N T R I ns) (hb1 : 13 ≤ bc) (hb2 : 494 ≤ bs) {x1 : Int} (hk : ∀ (r : Int) (N' : Nat) (T' : Nat → Nat × Nat) (R' : Nat → Nat → Option Nat) (I' : Nat → Nat → Int) (ns' : Nat) (L : Int), cPo N T R I N' T' R' I' ns' L → L = I 1 1 → ns' = ns → cLn I I' → K (some (yi r)) (N', T', R', I')) :
    yW l zSS D cy zFk z 60 128 bc bs K 0 0 0 [(0, yr (some 0)), (1, yi x1)] [] (N, T, R, I) := by
  have hT := hc.2.1
  have hR := hc.2.2.1
  exact w_128 (d := _) hT hR hc.1 hc.2.2.2.2.1 hc.2.2.2.2.2.1 hb1 hb2 (fun r N' T' R' I' h => hk _ _ _ _ _ _ _ (cPo_kp hc h) rfl rfl (cLn_kp hc h))
theorem v_130 (hc : cInv N T R I ns) (hb1 : 13 ≤ bc) (hb2 : 494 ≤ bs) {x1 x2 : Int} (hk : ∀ (r : Int) (N' : Nat) (T' : Nat → Nat × Nat) (R' : Nat → Nat → Option Nat) (I' : Nat → Nat → Int) (ns' : Nat) (L : Int), cPo N T R I N' T' R' I' ns' L → L = I 1 1 → ns' = ns → cLn I I' → K (some (yi r)) (N', T', R', I')) :
    yW l zSS D cy zFk z 60 130 bc bs K 0 0 0 [(0, yr (some 0)), (1, yi x1), (2, yi x2)] [] (N, T, R, I) := by
  have hT := hc.2.1
  have hR := hc.2.2.1
  exact w_130 (d := _) hT hR hc.1 hc.2.2.2.2.1 hc.2.2.2.2.2.1 hb1 hb2 (fun r N' T' R' I' h => hk _ _ _ _ _ _ _ (cPo_kp hc h) rfl rfl (cLn_kp hc h))
theorem v_140 (hc : cInv N T R I ns) (hb1 : 13 ≤ bc) (hb2 : 494 ≤ bs) {x1 : Int} (hk : ∀ (r : Int) (N' : Nat) (T' : Nat → Nat × Nat) (R' : Nat → Nat → Option Nat) (I' : Nat → Nat → Int) (ns' : Nat) (L : Int), cPo N T R I N' T' R' I' ns' L → L = I 1 1 → ns' = ns → cLn I I' → K (some (yi r)) (N', T', R', I')) :
    yW l zSS D cy zFk z 60 140 bc bs K 0 0 0 [(0, yr (some 0)), (1, yi x1)] [] (N, T, R, I) := by
  have hT := hc.2.1
  have hR := hc.2.2.1
  exact w_140 (d := _) hT hR hc.1 hc.2.2.2.2.1 hc.2.2.2.2.2.1 hb1 hb2 (fun r N' T' R' I' h => hk _ _ _ _ _ _ _ (cPo_kp hc h) rfl rfl (cLn_kp hc h))
theorem v_148 (hc : cInv N T R I ns) (hb1 : 2 ≤ bc) (hb2 : 8 ≤ bs) {x1 x2 x3 x4 : Int} (hk : ∀ (r : Int) (N' : Nat) (T' : Nat → Nat × Nat) (R' : Nat → Nat → Option Nat) (I' : Nat → Nat → Int) (ns' : Nat) (L : Int), cPo N T R I N' T' R' I' ns' L → L = I 1 1 → ns' = ns → cLn I I' → K (some (yi r)) (N', T', R', I')) :
    yW l zSS D cy zFk z 60 148 bc bs K 0 0 0 [(0, yr (some 0)), (1, yi x1), (2, yi x2), (3, yi x3), (4, yi x4)] [] (N, T, R, I) := by
  have hT := hc.2.1
  have hR := hc.2.2.1
  exact w_148 (d := _) hT hR hc.1 hb1 hb2 (fun r N' T' R' I' a b c e f g => hk _ _ _ _ _ _ _ (cPo_nw hc a b c e f g) rfl rfl ⟨⟨g 4 5 (by have := hc.1; omega) (by omega), fun j => g 8 j (by have := hc.1; omega) (by omega)⟩, g 1 10 (by have := hc.1; omega) (by omega)⟩)
theorem v_151 (hc : cInv N T R I ns) (hb1 : 1 ≤ bc) (hb2 : 8 ≤ bs) {x1 : Int} (hk : ∀ (r : Int) (N' : Nat) (T' : Nat → Nat × Nat) (R' : Nat → Nat → Option Nat) (I' : Nat → Nat → Int) (ns' : Nat) (L : Int), cPo N T R I N' T' R' I' ns' L → L = I 1 1 → ns' = ns → cLn I I' → K (some (yi r)) (N', T', R', I')) :
    yW l zSS D cy zFk z 60 151 bc bs K 0 0 0 [(0, yr (some 0)), (1, yi x1)] [] (N, T, R, I) := by
  have hT := hc.2.1
  have hR := hc.2.2.1
  exact w_151 (d := _) hT hR hc.1 hb1 hb2 (fun r N' T' R' I' a b c e f g => hk _ _ _ _ _ _ _ (cPo_nw hc a b c e f g) rfl rfl ⟨⟨g 4 5 (by have := hc.1; omega) (by omega), fun j => g 8 j (by have := hc.1; omega) (by omega)⟩, g 1 10 (by have := hc.1; omega) (by omega)⟩)
theorem v_147 (hc : cInv N T R I ns) {x1 : Int} (hk : ∀ (r : Int) (N' : Nat) (T' : Nat → Nat × Nat) (R' : Nat → Nat → Option Nat) (I' : Nat → Nat → Int) (ns' : Nat) (L : Int), cPo N T R I N' T' R' I' ns' L → L = I 1 1 → ns' = ns → cLn I I' → K (some (yi r)) (N', T', R', I')) :
    yW l zSS D cy zFk z 60 147 bc bs K 0 0 0 [(0, yr (some 0)), (1, yi x1)] [] (N, T, R, I) := by
  have hT := hc.2.1
  have hR := hc.2.2.1
  exact w_147 (d := _) hT hR hc.2.2.2.1 (fun r => hk _ _ _ _ _ _ _ (cPo_s hc (fun _ _ _ => rfl)) rfl rfl (cLn_s (fun _ _ _ => rfl)))
theorem v_145 (hc : cInv N T R I ns) {x1 : Int} (hk : ∀ (r : Int) (N' : Nat) (T' : Nat → Nat × Nat) (R' : Nat → Nat → Option Nat) (I' : Nat → Nat → Int) (ns' : Nat) (L : Int), cPo N T R I N' T' R' I' ns' L → L = I 1 1 → ns' = ns → cLn I I' → K (some (yi r)) (N', T', R', I')) :
    yW l zSS D cy zFk z 60 145 bc bs K 0 0 0 [(0, yr (some 0)), (1, yi x1)] [] (N, T, R, I) := by
  have hT := hc.2.1
  have hR := hc.2.2.1
  have h126 := hc.1
  refine ys_bl (fun hb => ?_)
  exact w_145 (d := _) hT hR (fun j hj => hb 14 8 j (by show 14 < N; omega) (hT 14 rfl) hj) (fun r _ => hk _ _ _ _ _ _ _ (cPo_s hc (fun _ _ _ => rfl)) rfl rfl (cLn_s (fun _ _ _ => rfl)))
theorem v_120 (hc : cInv N T R I ns) {x1 : Int} (hk : ∀ (r : Int) (N' : Nat) (T' : Nat → Nat × Nat) (R' : Nat → Nat → Option Nat) (I' : Nat → Nat → Int) (ns' : Nat) (L : Int), cPo N T R I N' T' R' I' ns' L → ((r = 1 ∧ 0 ≤ x1 ∧ x1 ≤ I 1 1 ∧ L = x1) ∨ (r = 0 ∧ ¬ (0 ≤ x1 ∧ x1 ≤ I 1 1) ∧ L = I 1 1)) → ns' = ns → cLn I I' → K (some (yi r)) (N', T', R', I')) :
    yW l zSS D cy zFk z 60 120 bc bs K 0 0 0 [(0, yr (some 0)), (1, yi x1)] [] (N, T, R, I) := by
  have hT := hc.2.1
  have hR := hc.2.2.1
  have h1 := hc.2.2.2.2.2.2.2.2.1
  refine w_120 (d := _) hT hR (fun r I' f q => hk r N T R I' ns (I' 1 1) (cPo_I hc rfl (by omega) ?_ (.inl (f _ _ (by omega))) (fun j _ => f 2 j (by omega)) (fun k j hk => f k j (by omega))) q rfl ⟨⟨f _ _ (by omega), fun j => f _ _ (by omega)⟩, f _ _ (by omega)⟩)
  unfold cLd
  rw [f 4 0 (by omega), f 4 1 (by omega)]
  exact hc.2.2.2.2.2.2.2.2.2
theorem v_122 (hc : cInv N T R I ns) {x1 x2 x3 x4 x5 : Int} (hk : ∀ (r : Int) (N' : Nat) (T' : Nat → Nat × Nat) (R' : Nat → Nat → Option Nat) (I' : Nat → Nat → Int) (ns' : Nat) (L : Int), cPo N T R I N' T' R' I' ns' L → ((r = -1 ∧ 940 < I 1 1 + 20 ∧ L = I 1 1) ∨ (r = I 1 1 + 20 ∧ I 1 1 + 20 ≤ 940 ∧ L = I 1 1 + 20)) → ns' = ns → (L = I 1 1 + 20 → ∀ q, q < 20 → I' 2 ((I 1 1).toNat + q) = yFbs x1 x2 x3 x4 x5 q) → cLn I I' → K (some (yi r)) (N', T', R', I')) :
    yW l zSS D cy zFk z 60 122 bc bs K 0 0 0 [(0, yr (some 0)), (1, yi x1), (2, yi x2), (3, yi x3), (4, yi x4), (5, yi x5)] [] (N, T, R, I) := by
  have hT := hc.2.1
  have hR := hc.2.2.1
  have h1 := hc.2.2.2.2.2.2.2.2.1
  refine x_122 (d := _) hT hR (n := (I 1 1).toNat) (by omega) (by omega) (fun r I' f q v => hk r N T R I' ns (I' 1 1) (cPo_I hc rfl (by omega) ?_ (.inl (f _ _ (by omega))) (fun j hj => f 2 j (by omega)) (fun k j hk => f k j (by omega))) q rfl v ⟨⟨f _ _ (by omega), fun j => f _ _ (by omega)⟩, f _ _ (by omega)⟩)
  unfold cLd
  rw [f 4 0 (by omega), f 4 1 (by omega)]
  exact hc.2.2.2.2.2.2.2.2.2
theorem v_114 (hc : cInv N T R I ns) (hk : ∀ (r : Int) (N' : Nat) (T' : Nat → Nat × Nat) (R' : Nat → Nat → Option Nat) (I' : Nat → Nat → Int) (ns' : Nat) (L : Int), cPo N T R I N' T' R' I' ns' L → L = 0 → ns' = ns → K (some (yi r)) (N', T', R', I')) :
    yW l zSS D cy zFk z 60 114 bc bs K 0 0 0 [(0, yr (some 0))] [] (N, T, R, I) := by
  have hT := hc.2.1
  have hR := hc.2.2.1
  have h1 := hc.2.2.2.2.2.2.2.2.1
  have h4 := hc.2.2.2.2.2.2.2.2.2
  unfold cLd at h4
  refine w_114 (d := _) hT hR h1 h4 (fun r I' f q => hk r N T R I' ns 0 (cPo_I hc q.1 (by omega) ?_ (by omega) (fun j _ => f 2 j (by omega)) (fun k j hk => f k j (by omega))) rfl rfl)
  exact ⟨q.2.1, q.2.2.1, q.2.2.2.1, q.2.2.2.2.1⟩
theorem v_143 (hc : cInv N T R I ns) (hk : ∀ (r : Int) (N' : Nat) (T' : Nat → Nat × Nat) (R' : Nat → Nat → Option Nat) (I' : Nat → Nat → Int) (ns' : Nat) (L : Int), cPo N T R I N' T' R' I' ns' L → L = 0 → ns' = ns → cLm I I' → K (some (yi r)) (N', T', R', I')) :
    yW l zSS D cy zFk z 60 143 bc bs K 0 0 0 [(0, yr (some 0))] [] (N, T, R, I) := by
  have hT := hc.2.1
  have hR := hc.2.2.1
  have h1 := hc.2.2.2.2.2.2.2.2.1
  refine w_143 (d := _) hT hR h1 (fun r I' f q => hk r N T R I' ns 0 (cPo_I hc q (by omega) ?_ (.inl (f _ _ (by omega))) (fun j _ => f 2 j (by omega)) (fun k j hk => f k j (by omega))) rfl rfl ⟨f _ _ (by omega), fun j => f _ _ (by omega)⟩)
  unfold cLd
  rw [f 4 0 (by omega), f 4 1 (by omega)]
  exact hc.2.2.2.2.2.2.2.2.2
theorem v_146 (hc : cInv N T R I ns) (hk : ∀ (r : Int) (N' : Nat) (T' : Nat → Nat × Nat) (R' : Nat → Nat → Option Nat) (I' : Nat → Nat → Int) (ns' : Nat) (L : Int), cPo N T R I N' T' R' I' ns' L → L = 0 → ns' = ns → cLm I I' → K (some (yi r)) (N', T', R', I')) :
    yW l zSS D cy zFk z 60 146 bc bs K 0 0 0 [(0, yr (some 0))] [] (N, T, R, I) := by
  have hT := hc.2.1
  have hR := hc.2.2.1
  have h1 := hc.2.2.2.2.2.2.2.2.1
  refine w_146 (d := _) hT hR h1 (fun r I' f q => hk r N T R I' ns 0 (cPo_I hc q (by omega) ?_ (.inl (f _ _ (by omega))) (fun j _ => f 2 j (by omega)) (fun k j hk => f k j (by omega))) rfl rfl ⟨f _ _ (by omega), fun j => f _ _ (by omega)⟩)
  unfold cLd
  rw [f 4 0 (by omega), f 4 1 (by omega)]
  exact hc.2.2.2.2.2.2.2.2.2
theorem v_149 (hc : cInv N T R I ns) (hk : ∀ (r : Int) (N' : Nat) (T' : Nat → Nat × Nat) (R' : Nat → Nat → Option Nat) (I' : Nat → Nat → Int) (ns' : Nat) (L : Int), cPo N T R I N' T' R' I' ns' L → L = I 1 1 → ns' = ns → cLn I I' → K (some (yi r)) (N', T', R', I')) :
    yW l zSS D cy zFk z 60 149 bc bs K 0 0 0 [(0, yr (some 0))] [] (N, T, R, I) := by
  have hT := hc.2.1
  have hR := hc.2.2.1
  refine w_149 (d := _) hT hR hc.2.2.2.2.1 hc.2.2.2.2.2.1 (fun r I' h1 f => hk r N T R I' ns (I 1 1) ?_ rfl rfl ⟨⟨f _ _ (by omega) (by omega), fun j => f _ _ (by omega) (by omega)⟩, f _ _ (by omega) (by omega)⟩)
  obtain ⟨a, b, c, e, g, i, m, n, o, p⟩ := hc
  have e11 : I' 1 1 = I 1 1 := f 1 1 (by omega) (by omega)
  refine ⟨⟨a, b, c, e, g, h1, m, cIl_cg m n (fun _ _ => rfl) (fun k j h1 h2 _ => f k j (by omega) (by omega)), by rw [e11]; exact o, ?_⟩, ⟨Nat.le_refl _, fun _ _ => rfl⟩, fun k j h1 h2 => f k j (by omega) (by omega), e11, fun _ _ => Iff.rfl, fun j _ => f 2 j (by omega) (by omega), fun _ _ => rfl, fun k j h1 _ _ => f k j (by omega) (by omega)⟩
  unfold cLd
  rw [f 4 0 (by omega) (by omega), f 4 1 (by omega) (by omega)]
  exact p
theorem v_144 (hc : cInv N T R I ns) {x1 : Int} (hk : ∀ (r : Int) (N' : Nat) (T' : Nat → Nat × Nat) (R' : Nat → Nat → Option Nat) (I' : Nat → Nat → Int) (ns' : Nat) (L : Int), cPo N T R I N' T' R' I' ns' L → L = I 1 1 → ns' = ns → ((r = 0 ∧ ¬ (0 ≤ x1 ∧ x1 < 2 ∧ R 101 x1.toNat ≠ none)) ∨ (r = 1 ∧ (0 ≤ x1 ∧ x1 < 2 ∧ R 101 x1.toNat ≠ none))) → K (some (yi r)) (N', T', R', I')) :
    yW l zSS D cy zFk z 60 144 bc bs K 0 0 0 [(0, yr (some 0)), (1, yi x1)] [] (N, T, R, I) := by
  have hT := hc.2.1
  have hR := hc.2.2.1
  refine w_144 (d := _) hT hR hc.2.2.2.2.2.2.1 hc.2.2.2.2.2.2.2.1 (fun r I' q => ?_)
  rcases q with ⟨q1, q2, q3⟩ | ⟨q1, q2, q3, q4, q5⟩
  · exact hk r N T R I' ns (I 1 1) (cPo_s hc (fun k j _ => q3 k j)) rfl rfl (.inl ⟨q1, q2⟩)
  · exact hk r N T R I' ns (I 1 1) (cPo_I hc (q3 _ _ (by omega) (by omega)) hc.2.2.2.2.2.2.2.2.1 q4 (.inr (by omega)) (fun j _ => q3 2 j (by omega) (by omega)) (fun k j hk => q3 k j (by omega) (by omega))) rfl rfl (.inr ⟨q1, q2⟩)
theorem v_150 (hc : cInv N T R I ns) (hb1 : 3 ≤ bc) (hb2 : (if ns < cKt I then 2 * cKt I else 0) + 4431 ≤ bs) (hk : ∀ (r : Int) (N' : Nat) (T' : Nat → Nat × Nat) (R' : Nat → Nat → Option Nat) (I' : Nat → Nat → Int) (ns' : Nat) (L : Int), cPo N T R I N' T' R' I' ns' L → L = I 1 1 → ((ns' = ns ∧ cKt I ≤ ns) ∨ (ns < cKt I ∧ ns' = cKt I)) → cLn I I' → K (some (yi r)) (N', T', R', I')) :
    yW l zSS D cy zFk z 60 150 bc bs K 0 0 0 [(0, yr (some 0))] [] (N, T, R, I) := by
  have hT := hc.2.1
  have hR := hc.2.2.1
  have hc0 := hc
  obtain ⟨a, b, c, e, g, i, m, n, o, p⟩ := hc
  refine w_150 (d := _) hT hR a e p hb1 hb2 (fun r N' T' R' I' ns' a1 b1 c1 gr f q => hk r N' T' R' I' ns' (I 1 1) ?_ rfl q ⟨⟨f 4 5 (by omega) (by omega), fun j => f 8 j (by omega) (by omega)⟩, f 1 10 (by omega) (by omega)⟩)
  have low : ∀ k j, (k < 91 ∨ (101 ≤ k ∧ k < 126)) → I' k j = I k j := fun k j h => f k j (by omega) (by omega)
  have e11 : I' 1 1 = I 1 1 := low 1 1 (by omega)
  refine ⟨⟨by have := gr.1; omega, a1, b1, c1, cHs_gr a g gr (fun k j h q => by have := q.1; omega), fun i' h1 h2 => ?_, cIm_gr a m gr (fun k j h q => by have := q.1; omega), cIl_cg m n (fun i _ => gr.2.2 101 i (by omega) (fun q => by have := q.1; omega)) (fun k j h1 h2 h3 => f k j h2 (.inr (.inr ⟨h1, by rw [h3]; decide⟩))), by rw [e11]; exact o, ?_⟩, ⟨gr.1, gr.2.1⟩, fun k j h1 h2 => low k j (by omega), e11, fun i _ => by rw [gr.2.2 101 i (by omega) (fun q => by have := q.1; omega)], fun j _ => low 2 j (by omega), fun i _ => gr.2.2 101 i (by omega) (fun q => by have := q.1; omega), fun k j h1 h2 h3 => f k j h2 (.inr (.inr ⟨h1, by rcases h3 with h3 | h3 <;> rw [h3] <;> decide⟩))⟩
  · rw [gr.2.2 90 i' (by omega) (fun q => by have := q.1; omega)]
    exact i i' h1 (by rw [← low 89 1 (by omega)]; exact h2)
  · unfold cLd
    rw [low 4 0 (by omega), low 4 1 (by omega)]
    exact p
theorem v_123 (hc : cInv N T R I ns) (hb1 : 32 ≤ bc) (hb2 : 944 ≤ bs) {x1 : Int} (hk : ∀ (r : Int) (N' : Nat) (T' : Nat → Nat × Nat) (R' : Nat → Nat → Option Nat) (I' : Nat → Nat → Int), cInv N' T' R' I' ns → (N ≤ N' ∧ ∀ k, k < N → T' k = T k) → (∀ k j, 102 ≤ k → k < 126 → I' k j = I k j) → I' 1 1 = I 1 1 → (∀ j, I' 2 j = I 2 j) → ((r = 1 ∧ 0 ≤ x1 ∧ x1 < 2 ∧ R' 101 x1.toNat ≠ none ∧ ∀ i, i < 2 → i ≠ x1.toNat → R' 101 i = R 101 i) ∨ (r = 0 ∧ ¬ (0 ≤ x1 ∧ x1 < 2) ∧ ∀ i, R' 101 i = R 101 i)) → K (some (yi r)) (N', T', R', I')) :
    yW l zSS D cy zFk z 60 123 bc bs K 0 0 0 [(0, yr (some 0)), (1, yi x1)] [] (N, T, R, I) := by
  have hT := hc.2.1
  have hR := hc.2.2.1
  obtain ⟨a, b, c, e, g, i, m, n, o, p⟩ := hc
  refine w_123 (d := _) hT hR a m n p hb1 hb2 (fun r N' T' R' I' a1 b1 gr m1 n1 f q => hk r N' T' R' I' ?_ ⟨gr.1, gr.2.1⟩ (fun k j _ h => f k j h) (f 1 1 (by omega)) (fun j => f 2 j (by omega)) q)
  refine ⟨by have := gr.1; omega, a1, b1, cUi_gr a e gr (fun j q => by cases q), cHs_gr a g gr (fun k j h q => by have q : k = 101 := q; omega), fun i' h1 h2 => ?_, m1, n1, by rw [f 1 1 (by omega)]; exact o, ?_⟩
  · rw [gr.2.2 90 i' (by omega) (fun q => by cases q)]
    exact i i' h1 (by rw [← f 89 1 (by omega)]; exact h2)
  · unfold cLd
    rw [f 4 0 (by omega), f 4 1 (by omega)]
    exact p
theorem v_116 (hc : cInv N T R I ns) (htr : l.stackTraces = false) (hb1 : 1 ≤ bc) (hb6 : 6 ≤ bs) {x1 x2 : Int} (hk : ∀ r, K (some (yi r)) (N, T, R, I)) (hkt : K (some (yr none)) (N, T, R, I)) :
    yW l zSS D cy zFk z 60 116 bc bs K 0 0 0 [(0, yr (some 0)), (1, yi x1), (2, yi x2)] [] (N, T, R, I) :=
  w_116 (d := 53) hc.2.1 hc.2.2.1 htr hb1 hb6 hk hkt
theorem v_117 (hc : cInv N T R I ns) (htr : l.stackTraces = false) (hb1 : 1 ≤ bc) (hb6 : 6 ≤ bs) {x1 x2 : Int} (hk : ∀ r, K (some (yi r)) (N, T, R, I)) (hkt : K (some (yr none)) (N, T, R, I)) :
    yW l zSS D cy zFk z 60 117 bc bs K 0 0 0 [(0, yr (some 0)), (1, yi x1), (2, yi x2)] [] (N, T, R, I) :=
  w_117 (d := 53) hc.2.1 hc.2.2.1 htr hb1 hb6 hk hkt
end Cj
