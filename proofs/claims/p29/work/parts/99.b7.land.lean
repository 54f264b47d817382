/-! THE CLASS reads the ALLEYS, to the letter: the land's small methods, CELLS -/
/-- a CELL's marks in one number -/
def mV (S : Ld) (a : Nat) : Int := (if S.mk 1 a then 2 else 0) + (if S.mk 2 a then 4 else 0) + (if S.mk 3 a then 8 else 0)
theorem mV_bit (S : Ld) (a : Nat) {s : Nat} (hs : s = 1 ∨ s = 2 ∨ s = 3) : yand (yshr (mV S a) (s : Int)) 1 = if S.mk s a then 1 else 0 := by
  unfold mV
  rcases hs with rfl | rfl | rfl <;> (cases S.mk 1 a <;> cases S.mk 2 a <;> cases S.mk 3 a <;> decide)
theorem mV_set (S S' : Ld) (a : Nat) {s : Nat} (hs : s = 1 ∨ s = 2 ∨ s = 3) (h1 : S'.mk s a = true) (h2 : ∀ q, q ≠ s → S'.mk q a = S.mk q a) : ynar 1 (yor (mV S a) (yshl 1 (s : Int))) = mV S' a := by
  unfold mV
  rcases hs with rfl | rfl | rfl
  · rw [h1, h2 2 (by decide), h2 3 (by decide)]
    cases S.mk 1 a <;> cases S.mk 2 a <;> cases S.mk 3 a <;> decide
  · rw [h1, h2 1 (by decide), h2 3 (by decide)]
    cases S.mk 1 a <;> cases S.mk 2 a <;> cases S.mk 3 a <;> decide
  · rw [h1, h2 1 (by decide), h2 2 (by decide)]
    cases S.mk 1 a <;> cases S.mk 2 a <;> cases S.mk 3 a <;> decide
theorem cv_rng {v : Int} (h : isW v) : 0 ≤ cv 7 v ∧ cv 7 v < 34359738368 := by
  obtain ⟨t, q, k, k0, k7, al, rfl⟩ := h
  rw [cv_tF k 7 k7 al]
  have l1 := tF_nn (b := 32) (by omega) (g := fun j => t j - 96) (q := q) k (fun i hi => by have := al i hi; show 0 ≤ t (q + i) - 96; omega)
  have l2 := tF_lt (b := 32) (by omega) (g := fun j => t j - 96) (q := q) k (fun i hi => by have := al i hi; show 0 ≤ t (q + i) - 96 ∧ t (q + i) - 96 < 32; omega)
  have l3 : (32 : Int) ^ k ≤ 34359738368 := by
    rcases (show k = 0 ∨ k = 1 ∨ k = 2 ∨ k = 3 ∨ k = 4 ∨ k = 5 ∨ k = 6 ∨ k = 7 by omega) with rfl | rfl | rfl | rfl | rfl | rfl | rfl | rfl <;> decide
  exact ⟨l1, Int.lt_of_lt_of_le l2 l3⟩
theorem rfind_none {f : Nat → Bool} {n : Nat} (h : ∀ j, j < n → f j = false) : (List.range n).find? f = none :=
  List.find?_eq_none.mpr (fun x hx => by rw [h x (List.mem_range.mp hx)]; decide)
theorem rfind_some {f : Nat → Bool} {c : Nat} (hc : f c = true) (h : ∀ j, j < c → f j = false) : ∀ n, c < n → (List.range n).find? f = some c := by
  intro n
  induction n with
  | zero => intro g; exact absurd g (Nat.not_lt_zero _)
  | succ n ih =>
    intro g
    rw [List.range_succ, List.find?_append]
    by_cases e : c < n
    · rw [ih e]; rfl
    · have e : c = n := by omega
      subst e
      rw [rfind_none h]
      simp [hc]
theorem kFind_some {S : Ld} {v : Int} {c : Nat} (hc : c < S.ch) (e : S.nm c = v) (h : ∀ j, j < c → S.nm j ≠ v) : kFind S v = (c : Int) := by
  unfold kFind
  rw [rfind_some (decide_eq_true e) (fun j hj => decide_eq_false (h j hj)) S.ch hc]
  rfl
theorem kFind_none {S : Ld} {v : Int} (h : ∀ j, j < S.ch → S.nm j ≠ v) : kFind S v = -1 := by
  unfold kFind
  rw [rfind_none (fun j hj => decide_eq_false (h j hj))]
  rfl
/-- the class's land says S -/
def cLr (I : Nat → Nat → Int) (p : Nat) (S : Ld) : Prop :=
  (I p 0 = S.w ∧ 0 ≤ S.w ∧ S.w ≤ 10 ∧ I p 1 = S.h ∧ 0 ≤ S.h ∧ S.h ≤ 10) ∧
  (∀ a, a < 100 → I (p + 1) a = mV S a) ∧ (∀ a, a < 100 → I (p + 2) a = S.lane a ∧ -1 ≤ S.lane a ∧ S.lane a ≤ 3) ∧
  (∀ s, 1 ≤ s → s ≤ 4 → I (p + 3) s = (S.told s : Int) ∧ S.told s ≤ 40) ∧
  (I p 5 = (S.ch : Int) ∧ S.ch ≤ 8) ∧
  (∀ i, i < S.ch → I (p + 4) i = cv 7 (S.nm i) ∧ isW (S.nm i) ∧ I (p + 5) i = S.fr i ∧ I (p + 6) i = S.bd i ∧ I (p + 7) i = S.rk i ∧ I (p + 8) i = S.ld i) ∧
  (∀ i, i < 8 → I (p + 9) i = S.st i ∧ I (p + 10) i = if S.sk i then 1 else 0) ∧
  (I p 14 = (S.laws : Int) ∧ S.laws ≤ 3 ∧ ∀ i, i < S.laws → I (p + 11) i = S.law i)
theorem cLr_cg {I I' : Nat → Nat → Int} {p : Nat} {S : Ld} (h : cLr I p S) (f : ∀ a b, p ≤ a → a < p + 12 → I' a b = I a b) : cLr I' p S := by
  obtain ⟨a, b, c, d, e, g, i, j⟩ := h
  refine ⟨?_, fun x hx => by rw [f _ _ (by omega) (by omega)]; exact b x hx, fun x hx => by rw [f _ _ (by omega) (by omega)]; exact c x hx, fun s h1 h2 => by rw [f _ _ (by omega) (by omega)]; exact d s h1 h2, by rw [f _ _ (by omega) (by omega)]; exact e, fun x hx => ?_, fun x hx => ?_, ?_⟩
  · rw [f p 0 (by omega) (by omega), f p 1 (by omega) (by omega)]; exact a
  · rw [f (p + 4) _ (by omega) (by omega), f (p + 5) _ (by omega) (by omega), f (p + 6) _ (by omega) (by omega), f (p + 7) _ (by omega) (by omega), f (p + 8) _ (by omega) (by omega)]; exact g x hx
  · rw [f (p + 9) _ (by omega) (by omega), f (p + 10) _ (by omega) (by omega)]; exact i x hx
  · rw [f p 14 (by omega) (by omega)]
    exact ⟨j.1, j.2.1, fun x hx => by rw [f (p + 11) _ (by omega) (by omega)]; exact j.2.2 x hx⟩
section Xl
variable {l : Launch} {D : va_G} {cy : Nat → ClassId} {z d bc bs N : Nat} {T : Nat → Nat × Nat} {R : Nat → Nat → Option Nat} {I : Nat → Nat → Int} {K : yKo} {t : Nat → Int} {n lim p p0 : Nat} {S : Ld}
theorem x_12 (hT : yLT T) (hR : yLR R) (hp : yAtLand T R p0) (L : cLr I p0 S) {c : Int} {s : Nat} (hs : s = 1 ∨ s = 2 ∨ s = 3) (hc : 0 ≤ c ∧ c < 100) (hk : ∀ r, r = (if S.mk s c.toNat then 1 else 0) → K (some (yi r)) (N, T, R, I)) :
    yW l zSS D cy zFk z d 12 bc bs K 0 0 0 [(0, yr (some p0)), (1, yi c), (2, yi (s : Int))] [] (N, T, R, I) := by
  have e := L.2.1 c.toNat (by omega)
  have b := mV_bit S c.toNat hs
  refine B_12_0 hT hR hp ⟨fun c1 => absurd c1 (by omega), fun _ => ⟨fun c1 => absurd c1 (by omega), fun _ => ⟨hc.1, hc.2, fun c3 => hk 0 ?_, fun c3 => hk 1 ?_⟩⟩⟩
  · rw [e, b] at c3
    by_cases g : S.mk s c.toNat = true
    · rw [if_pos g] at c3; exact absurd c3 (by decide)
    · rw [if_neg g]
  · rw [e, b] at c3
    by_cases g : S.mk s c.toNat = true
    · rw [if_pos g]
    · rw [if_neg g] at c3; exact absurd rfl c3
theorem x_6 (hT : yLT T) (hR : yLR R) (hp : yAtLand T R p0) (L : cLr I p0 S) {v : Int} (hv : isW v) (hk : K (some (yi (kFind S v))) (N, T, R, I)) :
    yW l zSS D cy zFk z d 6 bc bs K 0 0 0 [(0, yr (some p0)), (1, yj (cv 7 v))] [] (N, T, R, I) := by
  obtain ⟨_, _, _, _, ⟨e5, c8⟩, nm, _, _⟩ := L
  have loop : ∀ (m c : Nat), c + m = S.ch → (∀ j, j < c → S.nm j ≠ v) → yW l zSS D cy zFk z d 6 bc bs K 0 0 2 [(0, yr (some p0)), (1, yj (cv 7 v)), (3, yi (c : Int))] [] (N, T, R, I) := by
    intro m
    induction m with
    | zero =>
      intro c hm no
      rw [kFind_none (fun j hj => no j (by omega))] at hk
      exact B_6_2 hT hR hp ⟨fun _ => hk, fun c1 => absurd (by omega) c1⟩
    | succ m ih =>
      intro c hm no
      have g := nm c (by omega)
      have r1 := cv_rng g.2.1
      have r2 := cv_rng hv
      have cmp := ylcmp_eq (x := cv 7 (S.nm c)) (y := cv 7 v) ⟨by omega, by omega⟩ ⟨by omega, by omega⟩
      refine B_6_2 hT hR hp ⟨fun c1 => absurd c1 (by omega), fun _ => ⟨fun c1 => absurd c1 (by omega), fun _ => ⟨by omega, by omega, fun c2 => ?_, fun c2 => ?_⟩⟩⟩
      · rw [show ((c : Int)).toNat = c by omega, g.1] at c2
        have := ih (c + 1) (by omega) (fun j hj => by
          by_cases e : j = c
          · subst e; exact fun q => c2 (cmp.mpr ((cv_inj g.2.1 hv).mpr q))
          · exact no j (by omega))
        rw [yadd_eq (by omega) (by omega)]
        exact this
      · rw [show ((c : Int)).toNat = c by omega, g.1] at c2
        have e : S.nm c = v := (cv_inj g.2.1 hv).mp (cmp.mp (by omega))
        rw [kFind_some (by omega) e no] at hk
        exact hk
  exact B_6_0 hT hR hp (loop S.ch 0 (by omega) (fun j hj => absurd hj (Nat.not_lt_zero _)))
/-- Land.readCell -/
theorem x_15 (hT : yLT T) (hR : yLR R) (hp : yAtLand T R p0) (g3 : 3 ≤ p0) (h : cRd I t n lim p) (hn : n ≤ 940) (hl : lim ≤ 940) (ht : I 2 = t) (L : cLr I p0 S)
    (hf : ∀ f I', kCell (tk t n lim) S p = .inl f → cFr I I' → cFl I' f → K (some (yi (-1))) (N, T, R, I'))
    (ho : ∀ c p1 I', kCell (tk t n lim) S p = .inr (c, p1) → cFr I I' → cRd I' t n lim p1 → 0 ≤ c → c < 100 → c % 10 < S.w → c / 10 < S.h → K (some (yi c)) (N, T, R, I')) :
    yW l zSS D cy zFk z (d + 7) 15 bc bs K 0 0 0 [(0, yr (some p0)), (1, yr (some 1))] [] (N, T, R, I) := by
  obtain ⟨⟨e0, w0, w1, e1, h0, h1⟩, -⟩ := id L
  refine B_15_0 hT hR hp ?_
  rw [e0, ysub_eq (by omega) (by omega)]
  refine x_42 hT hR h hn hl ht (fun f I' e fr fl => ⟨_, _, rfl, rfl, fun _ => hf f I' (by unfold kCell; rw [e]) fr fl, fun q => absurd rfl q⟩) (fun x p1 I1 e fr r v0 v1 v2 v3 => ⟨_, _, rfl, rfl, fun q => by omega, fun _ => ?_⟩)
  have e1' : I1 p0 1 = S.h := by rw [fr p0 1 (by omega)]; exact e1
  rw [e1', ysub_eq (by omega) (by omega)]
  refine x_37 hT hR r (fun f I' e2 fr2 fl => ⟨_, _, rfl, rfl, fun q => absurd rfl q, fun _ => hf f I' (by unfold kCell; rw [e]; dsimp only; rw [e2]) (cFr_tr fr fr2) fl⟩) (fun y p2 e2 ep e8 y0 y1 y2 y3 => ⟨_, _, rfl, rfl, fun _ => ?_, fun q => absurd (by decide : (1 : Int) ≠ 0) q⟩)
  have em : yadd (ymul 10 (I1 1 8)) x = 10 * y + x := by rw [e8, ymul_eq (by omega) (by omega), yadd_eq (by omega) (by omega)]
  rw [em]
  have L1 : cLr I1 p0 S := cLr_cg L (fun a b g1 g2 => fr a b (by omega))
  refine w_10 hT hR hp (fun r8 h8 => ⟨_, _, rfl, rfl, fun c => ?_, fun _ => ho _ p1 I1 (by unfold kCell; rw [e]; dsimp only; rw [e2]) fr r (by omega) (by omega) (by omega) (by omega)⟩)
  rw [L1.1.1, L1.1.2.2.2.1] at h8
  omega
/-- Land.passOpen, behind readCell -/
theorem x_13 (hT : yLT T) (hR : yLR R) (hp : yAtLand T R p0) (h : cRd I t n lim p) (hn : n ≤ 940) (hl : lim ≤ 940) (ht : I 2 = t) (L : cLr I p0 S) {c : Int} (hc : 0 ≤ c ∧ c < 100)
    (hf : ∀ I', S.mk 1 c.toNat = true → cFr I I' → cFl I' (5, (tk t n lim p).2.1) → K (some (yi 0)) (N, T, R, I'))
    (ho : ∀ I', S.mk 1 c.toNat = false → cFr I I' → cRd I' t n lim (tk t n lim p).2.2.2 → K (some (yi 1)) (N, T, R, I')) :
    yW l zSS D cy zFk z (d + 6) 13 bc bs K 0 0 0 [(0, yr (some p0)), (1, yr (some 1)), (2, yi c)] [] (N, T, R, I) := by
  refine B_13_0 hT hR hp ⟨fun _ => x_12 hT hR hp L (s := 1) (.inl rfl) hc (fun r hr => ⟨_, _, rfl, rfl, fun c0 => ?_, fun c0 => ?_⟩), fun c0 => absurd (by omega) c0⟩
  · have g : S.mk 1 c.toNat = false := by
      cases e : S.mk 1 c.toNat with
      | false => rfl
      | true => rw [e, if_pos rfl] at hr; omega
    exact x_adv hT hR h hn hl ht (fun I' fr r => ⟨_, rfl, rfl, ho I' g fr r⟩)
  · have g : S.mk 1 c.toNat = true := by
      cases e : S.mk 1 c.toNat with
      | true => rfl
      | false => rw [e, if_neg (by decide)] at hr; omega
    exact x_34 hT hR h (fun I' fr fl => ⟨_, _, rfl, rfl, .inl rfl, hf I' g fr fl⟩)
theorem x_13n (hT : yLT T) (hR : yLR R) (hp : yAtLand T R p0) (hk : K (some (yi 0)) (N, T, R, I)) :
    yW l zSS D cy zFk z (d + 1) 13 bc bs K 0 0 0 [(0, yr (some p0)), (1, yr (some 1)), (2, yi (-1))] [] (N, T, R, I) :=
  B_13_0 hT hR hp ⟨fun c => absurd rfl c, fun _ => hk⟩
/-- Land.readName -/
theorem x_21 (hT : yLT T) (hR : yLR R) (hp : yAtLand T R p0) (h : cRd I t n lim p) (L : cLr I p0 S) (g3 : 3 ≤ p0)
    (hf : ∀ f I', kName (tk t n lim) S p = .inl f → cFr I I' → cFl I' f → K (some (yi (-1))) (N, T, R, I'))
    (ho : ∀ c : Nat, kName (tk t n lim) S p = .inr c → c < S.ch → K (some (yi (c : Int))) (N, T, R, I)) :
    yW l zSS D cy zFk z (d + 2) 21 bc bs K 0 0 0 [(0, yr (some p0)), (1, yr (some 1))] [] (N, T, R, I) := by
  refine B_21_0 hT hR hp (x_36 hT hR h (fun I' e fr fl => ⟨_, _, rfl, rfl, fun q => absurd rfl q, fun _ => hf _ I' (by unfold kName; rw [if_pos e]) fr fl⟩) (fun e e7 w => ⟨_, _, rfl, rfl, fun _ => ?_, fun q => absurd (by decide : (1 : Int) ≠ 0) q⟩))
  rw [e7]
  refine x_6 hT hR hp L w ⟨_, _, rfl, rfl, fun c => ?_, fun c => ?_⟩
  · have g : ∃ q : Nat, q < S.ch ∧ kFind S (tk t n lim p).2.2.1 = (q : Int) := by
      unfold kFind at c ⊢
      cases hq : (List.range S.ch).find? (fun i => decide (S.nm i = (tk t n lim p).2.2.1)) with
      | none => rw [hq] at c; exact absurd rfl c
      | some q => exact ⟨q, List.mem_range.mp (List.mem_of_find?_eq_some hq), rfl⟩
    obtain ⟨q, q1, q2⟩ := g
    have := ho q (by unfold kName; rw [if_neg (fun k => k e), if_neg (by rw [q2]; omega), q2]; rfl) q1
    rw [q2]
    exact this
  · have e1 : kFind S (tk t n lim p).2.2.1 = -1 := by omega
    rw [e1]
    exact x_34 hT hR h (fun I' fr fl => ⟨_, _, rfl, rfl, hf _ I' (by unfold kName; rw [if_neg (fun k => k e), if_pos e1]) fr fl⟩)
end Xl
