/-! THE CLASS reads a LINE, to the letter -/
theorem kHas_t {S : Ld} {v : Int} {c : Nat} (hc : c < S.laws) (e : S.law c = v) : kHas S v = true :=
  List.any_eq_true.mpr ⟨c, List.mem_range.mpr hc, decide_eq_true e⟩
theorem kHas_f {S : Ld} {v : Int} (h : ∀ j, j < S.laws → S.law j ≠ v) : kHas S v = false := by
  cases e : kHas S v with
  | false => rfl
  | true =>
    obtain ⟨c, hc, g⟩ := List.any_eq_true.mp e
    exact absurd (of_decide_eq_true g) (h c (List.mem_range.mp hc))
/-- what a LINE may change -/
def cFl2 (p0 : Nat) (I I' : Nat → Nat → Int) : Prop := ∀ a b, ¬ (a = 1 ∧ 3 ≤ b ∧ b ≤ 11) → ¬ (p0 ≤ a ∧ a < p0 + 12) → I' a b = I a b
theorem cFl2_of {p0 : Nat} {I I' : Nat → Nat → Int} (h : cFr I I') : cFl2 p0 I I' := fun a b c _ => h a b c
theorem cFl2_tr {p0 : Nat} {I J L : Nat → Nat → Int} (h : cFl2 p0 I J) (g : cFl2 p0 J L) : cFl2 p0 I L := fun a b c e => (g a b c e).trans (h a b c e)
theorem cRd_cg {I I' : Nat → Nat → Int} {t : Nat → Int} {n lim p : Nat} (h : cRd I t n lim p) (e : ∀ b, I' 1 b = I 1 b) : cRd I' t n lim p := by
  refine ⟨by rw [e]; exact h.1, by rw [e, e]; exact h.2.1, ?_⟩
  unfold cTk
  rw [e 3, e 4, e 5, e 6, e 7, e 8, e 9]
  exact h.2.2
theorem cLr_fr {I I' : Nat → Nat → Int} {p0 : Nat} {S : Ld} (L : cLr I p0 S) (g3 : 3 ≤ p0) (f : cFr I I') : cLr I' p0 S := cLr_cg L (fun a b g1 g2 => f a b (by omega))
theorem cLr_mark {I I' : Nat → Nat → Int} {p0 : Nat} {S : Ld} (L : cLr I p0 S) {s a : Nat} (hs : s = 1 ∨ s = 2 ∨ s = 3) (h40 : S.told s < 40)
    (f : ∀ x y, p0 ≤ x → x < p0 + 12 → ¬ (x = p0 + 1 ∧ y = a) → ¬ (x = p0 + 3 ∧ y = s) → I' x y = I x y)
    (e1 : I' (p0 + 1) a = ynar 1 (yor (mV S a) (yshl 1 (s : Int)))) (e2 : I' (p0 + 3) s = ((S.told s + 1 : Nat) : Int)) : cLr I' p0 (uMark S s a) := by
  obtain ⟨A, B, C, D, E, F, G, H⟩ := L
  refine ⟨?_, fun b hb => ?_, fun b hb => ?_, fun k k1 k2 => ?_, ?_, fun i hi => ?_, fun i hi => ?_, ?_⟩
  · rw [f p0 0 (by omega) (by omega) (by omega) (by omega), f p0 1 (by omega) (by omega) (by omega) (by omega)]; exact A
  · by_cases g : b = a
    · subst g
      rw [e1]
      exact mV_set S (uMark S s b) b hs (if_pos ⟨rfl, rfl⟩) (fun q hq => if_neg (fun z => hq z.1))
    · rw [f (p0 + 1) b (by omega) (by omega) (by omega) (by omega), B b hb]
      have k : ∀ q, (uMark S s a).mk q b = S.mk q b := fun q => if_neg (fun z => g z.2)
      unfold mV
      rw [k 1, k 2, k 3]
  · rw [f (p0 + 2) b (by omega) (by omega) (by omega) (by omega)]; exact C b hb
  · by_cases g : k = s
    · subst g
      rw [e2]
      have k : (uMark S k a).told k = S.told k + 1 := if_pos rfl
      rw [k]
      exact ⟨rfl, by omega⟩
    · rw [f (p0 + 3) k (by omega) (by omega) (by omega) (by omega)]
      have e : (uMark S s a).told k = S.told k := if_neg g
      rw [e]
      exact D k k1 k2
  · rw [f p0 5 (by omega) (by omega) (by omega) (by omega)]; exact E
  · rw [f (p0 + 4) i (by omega) (by omega) (by omega) (by omega), f (p0 + 5) i (by omega) (by omega) (by omega) (by omega), f (p0 + 6) i (by omega) (by omega) (by omega) (by omega), f (p0 + 7) i (by omega) (by omega) (by omega) (by omega), f (p0 + 8) i (by omega) (by omega) (by omega) (by omega)]; exact F i hi
  · rw [f (p0 + 9) i (by omega) (by omega) (by omega) (by omega), f (p0 + 10) i (by omega) (by omega) (by omega) (by omega)]; exact G i hi
  · rw [f p0 14 (by omega) (by omega) (by omega) (by omega)]
    exact ⟨H.1, H.2.1, fun x hx => by rw [f (p0 + 11) x (by omega) (by omega) (by omega) (by omega)]; exact H.2.2 x hx⟩
theorem cLr_lane {I I' : Nat → Nat → Int} {p0 : Nat} {S : Ld} (L : cLr I p0 S) {a : Nat} {d : Int} (hd : 0 ≤ d ∧ d ≤ 3) (h40 : S.told 4 < 40)
    (f : ∀ x y, p0 ≤ x → x < p0 + 12 → ¬ (x = p0 + 2 ∧ y = a) → ¬ (x = p0 + 3 ∧ y = 4) → I' x y = I x y)
    (e1 : I' (p0 + 2) a = d) (e2 : I' (p0 + 3) 4 = ((S.told 4 + 1 : Nat) : Int)) : cLr I' p0 (uLane S a d) := by
  obtain ⟨A, B, C, D, E, F, G, H⟩ := L
  refine ⟨?_, fun b hb => ?_, fun b hb => ?_, fun k k1 k2 => ?_, ?_, fun i hi => ?_, fun i hi => ?_, ?_⟩
  · rw [f p0 0 (by omega) (by omega) (by omega) (by omega), f p0 1 (by omega) (by omega) (by omega) (by omega)]; exact A
  · rw [f (p0 + 1) b (by omega) (by omega) (by omega) (by omega)]; exact B b hb
  · by_cases g : b = a
    · subst g
      have k : (uLane S b d).lane b = d := if_pos rfl
      rw [e1, k]
      exact ⟨rfl, by omega, by omega⟩
    · rw [f (p0 + 2) b (by omega) (by omega) (by omega) (by omega)]
      have k : (uLane S a d).lane b = S.lane b := if_neg g
      rw [k]
      exact C b hb
  · by_cases g : k = 4
    · subst g
      rw [e2]
      have k : (uLane S a d).told 4 = S.told 4 + 1 := rfl
      rw [k]
      exact ⟨rfl, by omega⟩
    · rw [f (p0 + 3) k (by omega) (by omega) (by omega) (by omega)]
      have e : (uLane S a d).told k = S.told k := if_neg g
      rw [e]
      exact D k k1 k2
  · rw [f p0 5 (by omega) (by omega) (by omega) (by omega)]; exact E
  · rw [f (p0 + 4) i (by omega) (by omega) (by omega) (by omega), f (p0 + 5) i (by omega) (by omega) (by omega) (by omega), f (p0 + 6) i (by omega) (by omega) (by omega) (by omega), f (p0 + 7) i (by omega) (by omega) (by omega) (by omega), f (p0 + 8) i (by omega) (by omega) (by omega) (by omega)]; exact F i hi
  · rw [f (p0 + 9) i (by omega) (by omega) (by omega) (by omega), f (p0 + 10) i (by omega) (by omega) (by omega) (by omega)]; exact G i hi
  · rw [f p0 14 (by omega) (by omega) (by omega) (by omega)]
    exact ⟨H.1, H.2.1, fun x hx => by rw [f (p0 + 11) x (by omega) (by omega) (by omega) (by omega)]; exact H.2.2 x hx⟩
theorem cLr_chair {I I' : Nat → Nat → Int} {p0 : Nat} {S : Ld} (L : cLr I p0 S) (h8 : S.ch < 8) {v f0 r d b0 : Int} (hv : isW v)
    (f : ∀ x y, p0 ≤ x → x < p0 + 12 → ¬ (p0 + 4 ≤ x ∧ x ≤ p0 + 8 ∧ y = S.ch) → ¬ (x = p0 ∧ y = 5) → I' x y = I x y)
    (e : I' p0 5 = ((S.ch + 1 : Nat) : Int) ∧ I' (p0 + 4) S.ch = cv 7 v ∧ I' (p0 + 5) S.ch = f0 ∧ I' (p0 + 6) S.ch = b0 ∧ I' (p0 + 7) S.ch = r ∧ I' (p0 + 8) S.ch = d) : cLr I' p0 (uChair S v f0 r d b0) := by
  obtain ⟨A, B, C, D, E, F, G, H⟩ := L
  obtain ⟨q5, q0, q1, q2, q3, q4⟩ := e
  refine ⟨?_, fun b hb => ?_, fun b hb => ?_, fun k k1 k2 => ?_, ⟨q5, by show S.ch + 1 ≤ 8; omega⟩, fun i hi => ?_, fun i hi => ?_, ?_⟩
  · rw [f p0 0 (by omega) (by omega) (by omega) (by omega), f p0 1 (by omega) (by omega) (by omega) (by omega)]; exact A
  · rw [f (p0 + 1) b (by omega) (by omega) (by omega) (by omega)]; exact B b hb
  · rw [f (p0 + 2) b (by omega) (by omega) (by omega) (by omega)]; exact C b hb
  · rw [f (p0 + 3) k (by omega) (by omega) (by omega) (by omega)]; exact D k k1 k2
  · have hi : i < S.ch + 1 := hi
    by_cases g : i = S.ch
    · have k0 : (uChair S v f0 r d b0).nm i = v := if_pos g
      have k1 : (uChair S v f0 r d b0).fr i = f0 := if_pos g
      have k2 : (uChair S v f0 r d b0).bd i = b0 := if_pos g
      have k3 : (uChair S v f0 r d b0).rk i = r := if_pos g
      have k4 : (uChair S v f0 r d b0).ld i = d := if_pos g
      rw [k0, k1, k2, k3, k4, g]
      exact ⟨q0, hv, q1, q2, q3, q4⟩
    · have k0 : (uChair S v f0 r d b0).nm i = S.nm i := if_neg g
      have k1 : (uChair S v f0 r d b0).fr i = S.fr i := if_neg g
      have k2 : (uChair S v f0 r d b0).bd i = S.bd i := if_neg g
      have k3 : (uChair S v f0 r d b0).rk i = S.rk i := if_neg g
      have k4 : (uChair S v f0 r d b0).ld i = S.ld i := if_neg g
      rw [k0, k1, k2, k3, k4, f (p0 + 4) i (by omega) (by omega) (by omega) (by omega), f (p0 + 5) i (by omega) (by omega) (by omega) (by omega), f (p0 + 6) i (by omega) (by omega) (by omega) (by omega), f (p0 + 7) i (by omega) (by omega) (by omega) (by omega), f (p0 + 8) i (by omega) (by omega) (by omega) (by omega)]
      exact F i (by omega)
  · rw [f (p0 + 9) i (by omega) (by omega) (by omega) (by omega), f (p0 + 10) i (by omega) (by omega) (by omega) (by omega)]; exact G i hi
  · rw [f p0 14 (by omega) (by omega) (by omega) (by omega)]
    exact ⟨H.1, H.2.1, fun x hx => by rw [f (p0 + 11) x (by omega) (by omega) (by omega) (by omega)]; exact H.2.2 x hx⟩
theorem cLr_start {I I' : Nat → Nat → Int} {p0 : Nat} {S : Ld} (L : cLr I p0 S) {c : Nat} {v : Int}
    (f : ∀ x y, p0 ≤ x → x < p0 + 12 → ¬ (x = p0 + 9 ∧ y = c) → I' x y = I x y) (e : I' (p0 + 9) c = v) : cLr I' p0 (uStart S c v) := by
  obtain ⟨A, B, C, D, E, F, G, H⟩ := L
  refine ⟨?_, fun b hb => ?_, fun b hb => ?_, fun k k1 k2 => ?_, ?_, fun i hi => ?_, fun i hi => ?_, ?_⟩
  · rw [f p0 0 (by omega) (by omega) (by omega), f p0 1 (by omega) (by omega) (by omega)]; exact A
  · rw [f (p0 + 1) b (by omega) (by omega) (by omega)]; exact B b hb
  · rw [f (p0 + 2) b (by omega) (by omega) (by omega)]; exact C b hb
  · rw [f (p0 + 3) k (by omega) (by omega) (by omega)]; exact D k k1 k2
  · rw [f p0 5 (by omega) (by omega) (by omega)]; exact E
  · rw [f (p0 + 4) i (by omega) (by omega) (by omega), f (p0 + 5) i (by omega) (by omega) (by omega), f (p0 + 6) i (by omega) (by omega) (by omega), f (p0 + 7) i (by omega) (by omega) (by omega), f (p0 + 8) i (by omega) (by omega) (by omega)]; exact F i hi
  · rw [f (p0 + 10) i (by omega) (by omega) (by omega)]
    refine ⟨?_, (G i hi).2⟩
    by_cases g : i = c
    · have k : (uStart S c v).st i = v := if_pos g
      rw [k, g, e]
    · have k : (uStart S c v).st i = S.st i := if_neg g
      rw [k, f (p0 + 9) i (by omega) (by omega) (by omega)]
      exact (G i hi).1
  · rw [f p0 14 (by omega) (by omega) (by omega)]
    exact ⟨H.1, H.2.1, fun x hx => by rw [f (p0 + 11) x (by omega) (by omega) (by omega)]; exact H.2.2 x hx⟩
theorem cLr_sick {I I' : Nat → Nat → Int} {p0 : Nat} {S : Ld} (L : cLr I p0 S) {c : Nat}
    (f : ∀ x y, p0 ≤ x → x < p0 + 12 → ¬ (x = p0 + 10 ∧ y = c) → I' x y = I x y) (e : I' (p0 + 10) c = 1) : cLr I' p0 (uSick S c) := by
  obtain ⟨A, B, C, D, E, F, G, H⟩ := L
  refine ⟨?_, fun b hb => ?_, fun b hb => ?_, fun k k1 k2 => ?_, ?_, fun i hi => ?_, fun i hi => ?_, ?_⟩
  · rw [f p0 0 (by omega) (by omega) (by omega), f p0 1 (by omega) (by omega) (by omega)]; exact A
  · rw [f (p0 + 1) b (by omega) (by omega) (by omega)]; exact B b hb
  · rw [f (p0 + 2) b (by omega) (by omega) (by omega)]; exact C b hb
  · rw [f (p0 + 3) k (by omega) (by omega) (by omega)]; exact D k k1 k2
  · rw [f p0 5 (by omega) (by omega) (by omega)]; exact E
  · rw [f (p0 + 4) i (by omega) (by omega) (by omega), f (p0 + 5) i (by omega) (by omega) (by omega), f (p0 + 6) i (by omega) (by omega) (by omega), f (p0 + 7) i (by omega) (by omega) (by omega), f (p0 + 8) i (by omega) (by omega) (by omega)]; exact F i hi
  · rw [f (p0 + 9) i (by omega) (by omega) (by omega)]
    refine ⟨(G i hi).1, ?_⟩
    by_cases g : i = c
    · have k : (uSick S c).sk i = true := if_pos g
      rw [k, g, e, if_pos rfl]
    · have k : (uSick S c).sk i = S.sk i := if_neg g
      rw [k, f (p0 + 10) i (by omega) (by omega) (by omega)]
      exact (G i hi).2
  · rw [f p0 14 (by omega) (by omega) (by omega)]
    exact ⟨H.1, H.2.1, fun x hx => by rw [f (p0 + 11) x (by omega) (by omega) (by omega)]; exact H.2.2 x hx⟩
theorem cLr_way {I I' : Nat → Nat → Int} {p0 : Nat} {S : Ld} (L : cLr I p0 S) {v : Int} (h3 : S.laws < 3)
    (f : ∀ x y, p0 ≤ x → x < p0 + 12 → ¬ (x = p0 + 11 ∧ y = S.laws) → ¬ (x = p0 ∧ y = 14) → I' x y = I x y) (e : I' (p0 + 11) S.laws = v) (e2 : I' p0 14 = ((S.laws + 1 : Nat) : Int)) : cLr I' p0 (uWay S v) := by
  obtain ⟨A, B, C, D, E, F, G, H⟩ := L
  refine ⟨?_, fun b hb => ?_, fun b hb => ?_, fun k k1 k2 => ?_, ?_, fun i hi => ?_, fun i hi => ?_, e2, by show S.laws + 1 ≤ 3; omega, fun x hx => ?_⟩
  · rw [f p0 0 (by omega) (by omega) (by omega) (by omega), f p0 1 (by omega) (by omega) (by omega) (by omega)]; exact A
  · rw [f (p0 + 1) b (by omega) (by omega) (by omega) (by omega)]; exact B b hb
  · rw [f (p0 + 2) b (by omega) (by omega) (by omega) (by omega)]; exact C b hb
  · rw [f (p0 + 3) k (by omega) (by omega) (by omega) (by omega)]; exact D k k1 k2
  · rw [f p0 5 (by omega) (by omega) (by omega) (by omega)]; exact E
  · rw [f (p0 + 4) i (by omega) (by omega) (by omega) (by omega), f (p0 + 5) i (by omega) (by omega) (by omega) (by omega), f (p0 + 6) i (by omega) (by omega) (by omega) (by omega), f (p0 + 7) i (by omega) (by omega) (by omega) (by omega), f (p0 + 8) i (by omega) (by omega) (by omega) (by omega)]; exact F i hi
  · rw [f (p0 + 9) i (by omega) (by omega) (by omega) (by omega), f (p0 + 10) i (by omega) (by omega) (by omega) (by omega)]; exact G i hi
  · have hx : x < S.laws + 1 := hx
    by_cases g : x = S.laws
    · have k : (uWay S v).law x = v := if_pos g
      rw [k, g, e]
    · have k : (uWay S v).law x = S.law x := if_neg g
      rw [k, f (p0 + 11) x (by omega) (by omega) (by omega) (by omega)]
      exact H.2.2 x (by omega)
theorem cLr_size {I I' : Nat → Nat → Int} {p0 : Nat} {S : Ld} (L : cLr I p0 S) {w h : Int} (hw : 0 ≤ w ∧ w ≤ 10) (hh : 0 ≤ h ∧ h ≤ 10)
    (f : ∀ x y, p0 ≤ x → x < p0 + 12 → ¬ (x = p0 ∧ y < 2) → I' x y = I x y) (e0 : I' p0 0 = w) (e1 : I' p0 1 = h) : cLr I' p0 (uSize S w h) := by
  obtain ⟨A, B, C, D, E, F, G, H⟩ := L
  refine ⟨⟨e0, hw.1, hw.2, e1, hh.1, hh.2⟩, fun b hb => ?_, fun b hb => ?_, fun k k1 k2 => ?_, ?_, fun i hi => ?_, fun i hi => ?_, ?_⟩
  · rw [f (p0 + 1) b (by omega) (by omega) (by omega)]; exact B b hb
  · rw [f (p0 + 2) b (by omega) (by omega) (by omega)]; exact C b hb
  · rw [f (p0 + 3) k (by omega) (by omega) (by omega)]; exact D k k1 k2
  · rw [f p0 5 (by omega) (by omega) (by omega)]; exact E
  · rw [f (p0 + 4) i (by omega) (by omega) (by omega), f (p0 + 5) i (by omega) (by omega) (by omega), f (p0 + 6) i (by omega) (by omega) (by omega), f (p0 + 7) i (by omega) (by omega) (by omega), f (p0 + 8) i (by omega) (by omega) (by omega)]; exact F i hi
  · rw [f (p0 + 9) i (by omega) (by omega) (by omega), f (p0 + 10) i (by omega) (by omega) (by omega)]; exact G i hi
  · rw [f p0 14 (by omega) (by omega) (by omega)]
    exact ⟨H.1, H.2.1, fun x hx => by rw [f (p0 + 11) x (by omega) (by omega) (by omega)]; exact H.2.2 x hx⟩
section Xk
variable {l : Launch} {D : va_G} {cy : Nat → ClassId} {z d bc bs N : Nat} {T : Nat → Nat × Nat} {R : Nat → Nat → Option Nat} {I : Nat → Nat → Int} {K : yKo} {t : Nat → Int} {n lim p p0 : Nat} {S : Ld}
/-- what a LINE's method owes: K0 behind a FAULT, K1 when it is read -/
def cLo (T : Nat → Nat × Nat) (R : Nat → Nat → Option Nat) (N : Nat) (K : yKo) (I : Nat → Nat → Int) (t : Nat → Int) (n lim p0 : Nat) (k : Rs (Ld × Nat)) : Prop :=
  (∀ f I', k = .inl f → cFl2 p0 I I' → cFl I' f → K (some (yi 0)) (N, T, R, I')) ∧
  (∀ S' p' I', k = .inr (S', p') → cFl2 p0 I I' → cRd I' t n lim p' → cLr I' p0 S' → K (some (yi 1)) (N, T, R, I'))
/-- Land.readMark -/
theorem x_20 (hT : yLT T) (hR : yLR R) (hp : yAtLand T R p0) (g3 : 3 ≤ p0) (h : cRd I t n lim p) (hn : n ≤ 940) (hl : lim ≤ 940) (ht : I 2 = t) (L : cLr I p0 S) {s most : Nat} (hs : s = 1 ∨ s = 2 ∨ s = 3) (hm : most ≤ 40)
    (hk : cLo T R N K I t n lim p0 (kMark (tk t n lim) S s most p)) :
    yW l zSS D cy zFk z (d + 8) 20 bc bs K 0 0 0 [(0, yr (some p0)), (1, yr (some 1)), (2, yi (s : Int)), (3, yi (most : Int))] [] (N, T, R, I) := by
  obtain ⟨hf, ho⟩ := hk
  have tl := L.2.2.2.1 s (by omega) (by omega)
  have sn : ((s : Int)).toNat = s := by omega
  refine B_20_0 hT hR hp ⟨fun c => absurd c (by omega), fun _ => ⟨fun c => absurd c (by omega), fun _ => ⟨by omega, by omega, fun c => ?_, fun c => ?_⟩⟩⟩
  · rw [sn, tl.1] at c
    refine x_adv hT hR h hn hl ht (fun I1 f1 r1 => ⟨_, rfl, rfl, ?_⟩)
    have L1 := cLr_fr L g3 f1
    refine x_15 hT hR hp g3 r1 hn hl (cRd_2 f1 ht) L1 (fun f I2 e f2 fl => ⟨_, _, rfl, rfl, w_10 hT hR hp (fun r hr => ⟨_, _, rfl, rfl, fun c2 => absurd c2 (by omega), fun _ => ?_⟩)⟩) (fun a p1 I2 e f2 r2 a0 a1 a2 a3 => ⟨_, _, rfl, rfl, w_10 hT hR hp (fun r hr => ⟨_, _, rfl, rfl, fun _ => ?_, fun c2 => ?_⟩)⟩)
    · exact hf f I2 (by unfold kMark; rw [if_neg (by omega), e]) (cFl2_of (cFr_tr f1 f2)) fl
    · have L2 := cLr_fr L1 g3 f2
      refine x_12 hT hR hp L2 hs ⟨a0, a1⟩ (fun b hb => ⟨_, _, rfl, rfl, fun c3 => ?_, fun c3 => ?_⟩)
      · have g : S.mk s a.toNat = false := by
          cases e : S.mk s a.toNat with
          | false => rfl
          | true => rw [e, if_pos rfl] at hb; omega
        refine x_adv hT hR r2 hn hl (cRd_2 f2 (cRd_2 f1 ht)) (fun I3 f3 r3 => ⟨_, rfl, rfl, a0, a1, a0, a1, fun I4 e4 => ⟨by omega, by omega, by omega, by omega, fun I5 e5 => ?_⟩⟩)
        have L3 := cLr_fr L2 g3 f3
        have fr : ∀ x y, ¬ (x = p0 + 1 ∧ y = a.toNat) → ¬ (x = p0 + 3 ∧ y = s) → I5 x y = I3 x y := fun x y q1 q2 => by
          rw [e5, sn, yU_ne _ _ (by omega), e4, yU_ne _ _ (by omega)]
        refine ho (uMark S s a.toNat) _ I5 (by unfold kMark; rw [if_neg (by omega), e]; dsimp only; rw [if_neg (by rw [g]; decide)]) (fun x y q1 q2 => (fr x y (by omega) (by omega)).trans (cFr_tr f1 (cFr_tr f2 f3) x y q1)) (cRd_cg r3 (fun b => fr 1 b (by omega) (by omega))) ?_
        refine cLr_mark L3 hs (by omega) (fun x y _ _ q1 q2 => fr x y q1 q2) ?_ ?_
        · rw [e5, yU_ne _ _ (by omega), e4, yU_eq, L3.2.1 a.toNat (by omega)]
        · rw [e5, sn, yU_eq, e4, yU_ne _ _ (by omega), (L3.2.2.2.1 s (by omega) (by omega)).1, yadd_eq (by omega) (by omega), ynar1_eq (by omega) (by omega)]
          omega
      · have g : S.mk s a.toNat = true := by
          cases e : S.mk s a.toNat with
          | true => rfl
          | false => rw [e, if_neg (by decide)] at hb; omega
        exact x_34 hT hR r2 (fun I3 f3 fl => ⟨_, _, rfl, rfl, .inl rfl, hf _ I3 (by unfold kMark; rw [if_neg (by omega), e]; dsimp only; rw [if_pos g]) (cFl2_of (cFr_tr f1 (cFr_tr f2 f3))) fl⟩)
    · have L2 := cLr_fr L1 g3 f2
      have w := L2.1
      exact absurd (by omega) c2
  · rw [sn, tl.1] at c
    exact x_34 hT hR h (fun I1 f1 fl => ⟨_, _, rfl, rfl, .inl rfl, hf _ I1 (by unfold kMark; rw [if_pos (by omega)]) (cFl2_of f1) fl⟩)
/-- Land.readSize -/
theorem x_23 (hT : yLT T) (hR : yLR R) (hp : yAtLand T R p0) (g3 : 3 ≤ p0) (h : cRd I t n lim p) (hn : n ≤ 940) (hl : lim ≤ 940) (ht : I 2 = t) (L : cLr I p0 S)
    (hk : cLo T R N K I t n lim p0 (kSize (tk t n lim) S p)) :
    yW l zSS D cy zFk z (d + 7) 23 bc bs K 0 0 0 [(0, yr (some p0)), (1, yr (some 1))] [] (N, T, R, I) := by
  obtain ⟨hf, ho⟩ := hk
  have w0 := L.1.1
  refine B_23_0 hT hR hp ⟨fun c => ?_, fun c => ?_⟩
  · rw [w0] at c
    refine x_adv hT hR h hn hl ht (fun I1 f1 r1 => ⟨_, rfl, rfl, ?_⟩)
    refine x_42 hT hR r1 hn hl (cRd_2 f1 ht) (fun f I2 e f2 fl => ⟨_, _, rfl, rfl, fun q => absurd rfl q, fun _ => hf f I2 (by unfold kSize; rw [if_neg (fun q => q c), e]) (cFl2_of (cFr_tr f1 f2)) fl⟩) (fun w p1 I2 e f2 r2 v0 v1 v2 v3 => ⟨_, _, rfl, rfl, fun _ => ?_, fun q => absurd (show ¬ (w = -1) by omega) q⟩)
    refine x_42 hT hR r2 hn hl (cRd_2 f2 (cRd_2 f1 ht)) (fun f I3 e3 f3 fl => ⟨_, _, rfl, rfl, fun q => absurd rfl q, fun _ => hf f I3 (by unfold kSize; rw [if_neg (fun q => q c), e]; dsimp only; rw [e3]) (cFl2_of (cFr_tr f1 (cFr_tr f2 f3))) fl⟩) (fun hh p2 I3 e3 f3 r3 u0 u1 u2 u3 => ⟨_, _, rfl, rfl, fun _ I4 e4 I5 e5 => ?_, fun q => absurd (show ¬ (hh = -1) by omega) q⟩)
    have fr : ∀ x y, ¬ (x = p0 ∧ y < 2) → I5 x y = I3 x y := fun x y q => by rw [e5, yU_ne _ _ (by omega), e4, yU_ne _ _ (by omega)]
    exact ho (uSize S w hh) p2 I5 (by unfold kSize; rw [if_neg (fun q => q c), e]; dsimp only; rw [e3]) (fun x y q1 q2 => (fr x y (by omega)).trans (cFr_tr f1 (cFr_tr f2 f3) x y q1)) (cRd_cg r3 (fun b => fr 1 b (by omega))) (cLr_size (cLr_fr (cLr_fr (cLr_fr L g3 f1) g3 f2) g3 f3) (by omega) (by omega) (fun x y _ _ q => fr x y q) (by rw [e5, yU_ne _ _ (by omega), e4, yU_eq]) (by rw [e5, yU_eq]))
  · rw [w0] at c
    exact x_34 hT hR h (fun I1 f1 fl => ⟨_, _, rfl, rfl, .inl rfl, hf _ I1 (by unfold kSize; rw [if_pos c]) (cFl2_of f1) fl⟩)
/-- Land.readLane -/
theorem x_17 (hT : yLT T) (hR : yLR R) (hp : yAtLand T R p0) (g3 : 3 ≤ p0) (h : cRd I t n lim p) (hn : n ≤ 940) (hl : lim ≤ 940) (ht : I 2 = t) (L : cLr I p0 S)
    (hk : cLo T R N K I t n lim p0 (kLane (tk t n lim) S p)) :
    yW l zSS D cy zFk z (d + 8) 17 bc bs K 0 0 0 [(0, yr (some p0)), (1, yr (some 1))] [] (N, T, R, I) := by
  obtain ⟨hf, ho⟩ := hk
  have tl := L.2.2.2.1 4 (by omega) (by omega)
  refine B_17_0 hT hR hp ⟨fun c => ?_, fun c => ?_⟩
  · rw [tl.1] at c
    refine x_adv hT hR h hn hl ht (fun I1 f1 r1 => ⟨_, rfl, rfl, ?_⟩)
    have L1 := cLr_fr L g3 f1
    refine x_15 hT hR hp g3 r1 hn hl (cRd_2 f1 ht) L1 (fun f I2 e f2 fl => ⟨_, _, rfl, rfl, w_10 hT hR hp (fun r hr => ⟨_, _, rfl, rfl, fun c2 => absurd c2 (by omega), fun _ => ?_⟩)⟩) (fun a p1 I2 e f2 r2 a0 a1 a2 a3 => ⟨_, _, rfl, rfl, w_10 hT hR hp (fun r hr => ⟨_, _, rfl, rfl, fun _ => ?_, fun c2 => ?_⟩)⟩)
    · exact hf f I2 (by unfold kLane; rw [if_neg (by omega), e]) (cFl2_of (cFr_tr f1 f2)) fl
    · have L2 := cLr_fr L1 g3 f2
      have la := (L2.2.2.1 a.toNat (by omega)).1
      refine ⟨a0, a1, fun c3 => ?_, fun c3 => ?_⟩
      · rw [la] at c3
        refine x_adv hT hR r2 hn hl (cRd_2 f2 (cRd_2 f1 ht)) (fun I3 f3 r3 => ⟨_, rfl, rfl, ?_⟩)
        have L3 := cLr_fr L2 g3 f3
        refine x_41 hT hR r3 hn hl (cRd_2 f3 (cRd_2 f2 (cRd_2 f1 ht))) (fun f I4 e4 f4 fl => ⟨_, _, rfl, rfl, a0, a1, fun I5 e5 I6 e6 => ⟨a0, a1, fun _ => ?_, fun c4 => ?_⟩⟩) (fun v p2 I4 e4 f4 r4 v0 v1 => ⟨_, _, rfl, rfl, a0, a1, fun I5 e5 I6 e6 => ⟨a0, a1, fun c4 => ?_, fun _ => ?_⟩⟩)
        · have fr : ∀ x y, ¬ (p0 ≤ x ∧ x < p0 + 12) → I6 x y = I4 x y := fun x y q => by rw [e6, yU_ne _ _ (by omega), e5, yU_ne _ _ (by omega)]
          exact hf f I6 (by unfold kLane; rw [if_neg (by omega), e]; dsimp only; rw [if_neg (by omega), e4]) (fun x y q1 q2 => (fr x y q2).trans (cFr_tr f1 (cFr_tr f2 (cFr_tr f3 f4)) x y q1)) ⟨by rw [fr 1 10 (by omega)]; exact fl.1, by rw [fr 1 11 (by omega)]; exact fl.2⟩
        · exact absurd (by rw [e6, yU_ne _ _ (by omega), e5, yU_eq]; exact ynar1_eq (by omega) (by omega)) c4
        · rw [e6, yU_ne _ _ (by omega), e5, yU_eq, ynar1_eq (by omega) (by omega)] at c4
          omega
        · have L4 := cLr_fr L3 g3 f4
          have fr : ∀ x y, ¬ (x = p0 + 2 ∧ y = a.toNat) → ¬ (x = p0 + 3 ∧ y = 4) → I6 x y = I4 x y := fun x y q1 q2 => by rw [e6, yU_ne _ _ (by omega), e5, yU_ne _ _ (by omega)]
          refine ho (uLane S a.toNat v) p2 I6 (by unfold kLane; rw [if_neg (by omega), e]; dsimp only; rw [if_neg (by omega), e4]) (fun x y q1 q2 => (fr x y (by omega) (by omega)).trans (cFr_tr f1 (cFr_tr f2 (cFr_tr f3 f4)) x y q1)) (cRd_cg r4 (fun b => fr 1 b (by omega) (by omega))) ?_
          refine cLr_lane L4 ⟨v0, v1⟩ (by omega) (fun x y _ _ q1 q2 => fr x y q1 q2) ?_ ?_
          · rw [e6, yU_ne _ _ (by omega), e5, yU_eq, ynar1_eq (by omega) (by omega)]
          · rw [e6, yU_eq, e5, yU_ne _ _ (by omega), (L4.2.2.2.1 4 (by omega) (by omega)).1, yadd_eq (by omega) (by omega), ynar1_eq (by omega) (by omega)]
            omega
      · rw [la] at c3
        exact x_34 hT hR r2 (fun I3 f3 fl => ⟨_, _, rfl, rfl, .inl rfl, hf _ I3 (by unfold kLane; rw [if_neg (by omega), e]; dsimp only; rw [if_pos c3]) (cFl2_of (cFr_tr f1 (cFr_tr f2 f3))) fl⟩)
    · have L2 := cLr_fr L1 g3 f2
      have w := L2.1
      exact absurd (by omega) c2
  · rw [tl.1] at c
    exact x_34 hT hR h (fun I1 f1 fl => ⟨_, _, rfl, rfl, .inl rfl, hf _ I1 (by unfold kLane; rw [if_pos (by omega)]) (cFl2_of f1) fl⟩)
/-- Land.readStart -/
theorem x_24 (hT : yLT T) (hR : yLR R) (hp : yAtLand T R p0) (g3 : 3 ≤ p0) (h : cRd I t n lim p) (hn : n ≤ 940) (hl : lim ≤ 940) (ht : I 2 = t) (L : cLr I p0 S)
    (hk : cLo T R N K I t n lim p0 (kStart (tk t n lim) S p)) :
    yW l zSS D cy zFk z (d + 7) 24 bc bs K 0 0 0 [(0, yr (some p0)), (1, yr (some 1))] [] (N, T, R, I) := by
  obtain ⟨hf, ho⟩ := hk
  refine B_24_0 hT hR hp (x_adv hT hR h hn hl ht (fun I1 f1 r1 => ⟨_, rfl, rfl, ?_⟩))
  have L1 := cLr_fr L g3 f1
  refine x_21 hT hR hp r1 L1 g3 (fun f I2 e f2 fl => ⟨_, _, rfl, rfl, w_11 hT hR hp (fun r hr => ⟨_, _, rfl, rfl, fun c2 => absurd c2 (by omega), fun _ => ?_⟩)⟩) (fun c e c8 => ⟨_, _, rfl, rfl, w_11 hT hR hp (fun r hr => ⟨_, _, rfl, rfl, fun _ => ?_, fun c2 => ?_⟩)⟩)
  · exact hf f I2 (by unfold kStart; rw [e]) (cFl2_of (cFr_tr f1 f2)) fl
  · have ch := L1.2.2.2.2.1
    have st := (L1.2.2.2.2.2.2.1 c (by omega)).1
    have cn : ((c : Int)).toNat = c := by omega
    refine ⟨by omega, by omega, fun c3 => ?_, fun c3 => ?_⟩
    · rw [cn, st] at c3
      refine x_adv hT hR r1 hn hl (cRd_2 f1 ht) (fun I2 f2 r2 => ⟨_, rfl, rfl, ?_⟩)
      have L2 := cLr_fr L1 g3 f2
      refine x_42 hT hR r2 hn hl (cRd_2 f2 (cRd_2 f1 ht)) (fun f I3 e3 f3 fl => ⟨_, _, rfl, rfl, by omega, by omega, fun I4 e4 => ⟨by omega, by omega, fun _ => ?_, fun c4 => ?_⟩⟩) (fun v p1 I3 e3 f3 r3 v0 v1 v2 v3 => ⟨_, _, rfl, rfl, by omega, by omega, fun I4 e4 => ⟨by omega, by omega, fun c4 => ?_, fun _ => ?_⟩⟩)
      · have fr : ∀ x y, ¬ (p0 ≤ x ∧ x < p0 + 12) → I4 x y = I3 x y := fun x y q => by rw [e4, yU_ne _ _ (by omega)]
        exact hf f I4 (by unfold kStart; rw [e]; dsimp only; rw [if_neg (fun q => q c3), e3]) (fun x y q1 q2 => (fr x y q2).trans (cFr_tr f1 (cFr_tr f2 f3) x y q1)) ⟨by rw [fr 1 10 (by omega)]; exact fl.1, by rw [fr 1 11 (by omega)]; exact fl.2⟩
      · exact absurd (by rw [e4, yU_eq]; exact ynar1_eq (by omega) (by omega)) c4
      · rw [e4, yU_eq, ynar1_eq (by omega) (by omega)] at c4
        omega
      · have L3 := cLr_fr L2 g3 f3
        rw [cn] at e4
        have fr : ∀ x y, ¬ (x = p0 + 9 ∧ y = c) → I4 x y = I3 x y := fun x y q => by rw [e4, yU_ne _ _ (by omega)]
        exact ho (uStart S c v) p1 I4 (by unfold kStart; rw [e]; dsimp only; rw [if_neg (fun q => q c3), e3]) (fun x y q1 q2 => (fr x y (by omega)).trans (cFr_tr f1 (cFr_tr f2 f3) x y q1)) (cRd_cg r3 (fun b => fr 1 b (by omega))) (cLr_start L3 (fun x y _ _ q => fr x y q) (by rw [e4, yU_eq, ynar1_eq (by omega) (by omega)]))
    · rw [cn, st] at c3
      exact x_34 hT hR r1 (fun I2 f2 fl => ⟨_, _, rfl, rfl, .inl rfl, hf _ I2 (by unfold kStart; rw [e]; dsimp only; rw [if_pos c3]) (cFl2_of (cFr_tr f1 f2)) fl⟩)
  · have ch := L1.2.2.2.2.1
    exact absurd (by omega) c2
/-- Land.readSick -/
theorem x_22 (hT : yLT T) (hR : yLR R) (hp : yAtLand T R p0) (g3 : 3 ≤ p0) (h : cRd I t n lim p) (hn : n ≤ 940) (hl : lim ≤ 940) (ht : I 2 = t) (L : cLr I p0 S)
    (hk : cLo T R N K I t n lim p0 (kSick (tk t n lim) S p)) :
    yW l zSS D cy zFk z (d + 7) 22 bc bs K 0 0 0 [(0, yr (some p0)), (1, yr (some 1))] [] (N, T, R, I) := by
  obtain ⟨hf, ho⟩ := hk
  refine B_22_0 hT hR hp (x_adv hT hR h hn hl ht (fun I1 f1 r1 => ⟨_, rfl, rfl, ?_⟩))
  have L1 := cLr_fr L g3 f1
  refine x_21 hT hR hp r1 L1 g3 (fun f I2 e f2 fl => ⟨_, _, rfl, rfl, w_11 hT hR hp (fun r hr => ⟨_, _, rfl, rfl, fun c2 => absurd c2 (by omega), fun _ => ?_⟩)⟩) (fun c e c8 => ⟨_, _, rfl, rfl, w_11 hT hR hp (fun r hr => ⟨_, _, rfl, rfl, fun _ => ?_, fun c2 => ?_⟩)⟩)
  · exact hf f I2 (by unfold kSick; rw [e]) (cFl2_of (cFr_tr f1 f2)) fl
  · have ch := L1.2.2.2.2.1
    have st := (L1.2.2.2.2.2.2.1 c (by omega)).2
    have cn : ((c : Int)).toNat = c := by omega
    refine ⟨by omega, by omega, fun c3 => ?_, fun c3 => ?_⟩
    · rw [cn, st] at c3
      have g : S.sk c = false := by
        cases e : S.sk c with
        | false => rfl
        | true => rw [e, if_pos rfl] at c3; omega
      refine x_adv hT hR r1 hn hl (cRd_2 f1 ht) (fun I2 f2 r2 => ⟨_, rfl, rfl, by omega, by omega, fun I3 e3 => ?_⟩)
      have L2 := cLr_fr L1 g3 f2
      rw [cn] at e3
      have fr : ∀ x y, ¬ (x = p0 + 10 ∧ y = c) → I3 x y = I2 x y := fun x y q => by rw [e3, yU_ne _ _ (by omega)]
      exact ho (uSick S c) _ I3 (by unfold kSick; rw [e]; dsimp only; rw [if_neg (by rw [g]; decide)]) (fun x y q1 q2 => (fr x y (by omega)).trans (cFr_tr f1 f2 x y q1)) (cRd_cg r2 (fun b => fr 1 b (by omega))) (cLr_sick L2 (fun x y _ _ q => fr x y q) (by rw [e3, yU_eq]; rfl))
    · rw [cn, st] at c3
      have g : S.sk c = true := by
        cases e : S.sk c with
        | true => rfl
        | false => rw [e, if_neg (by decide)] at c3; omega
      exact x_34 hT hR r1 (fun I2 f2 fl => ⟨_, _, rfl, rfl, .inl rfl, hf _ I2 (by unfold kSick; rw [e]; dsimp only; rw [if_pos g]) (cFl2_of (cFr_tr f1 f2)) fl⟩)
  · have ch := L1.2.2.2.2.1
    exact absurd (by omega) c2
end Xk
/-- what a CHAIR's LINE may change before it is told -/
def cCf (p0 c : Nat) (I I' : Nat → Nat → Int) : Prop := ∀ x y, ¬ (x = 1 ∧ 3 ≤ y ∧ y ≤ 11) → ¬ (p0 + 4 ≤ x ∧ x ≤ p0 + 8 ∧ y = c) → I' x y = I x y
theorem cCf_fr {p0 c : Nat} {I J L : Nat → Nat → Int} (h : cCf p0 c I J) (f : cFr J L) : cCf p0 c I L := fun x y a b => (f x y a).trans (h x y a b)
theorem cCf_up {p0 c k : Nat} {v : Int} {I J L : Nat → Nat → Int} (h : cCf p0 c I J) (e : L = yU J k c v) (hk : p0 + 4 ≤ k ∧ k ≤ p0 + 8) : cCf p0 c I L := fun x y a b => by
  rw [e, yU_ne _ _ (by omega)]
  exact h x y a b
theorem cCf_l2 {p0 c : Nat} {I J : Nat → Nat → Int} (h : cCf p0 c I J) : cFl2 p0 I J := fun x y a b => h x y a (by omega)
theorem cRd_up {I J : Nat → Nat → Int} {t : Nat → Int} {n lim p k c : Nat} {v : Int} (h : cRd I t n lim p) (e : J = yU I k c v) (hk : 3 ≤ k) : cRd J t n lim p := cRd_cg h (fun b => by rw [e, yU_ne _ _ (by omega)])
theorem cLr_cf {I J : Nat → Nat → Int} {p0 : Nat} {S : Ld} (L : cLr I p0 S) (g3 : 3 ≤ p0) (h : cCf p0 S.ch I J) : cLr J p0 S := by
  obtain ⟨A, B, C, D, E, F, G, H⟩ := L
  have f : ∀ x y, p0 ≤ x → ¬ (p0 + 4 ≤ x ∧ x ≤ p0 + 8 ∧ y = S.ch) → J x y = I x y := fun x y a b => h x y (by omega) b
  refine ⟨?_, fun b hb => ?_, fun b hb => ?_, fun k k1 k2 => ?_, ?_, fun i hi => ?_, fun i hi => ?_, ?_⟩
  · rw [f p0 0 (by omega) (by omega), f p0 1 (by omega) (by omega)]; exact A
  · rw [f (p0 + 1) b (by omega) (by omega)]; exact B b hb
  · rw [f (p0 + 2) b (by omega) (by omega)]; exact C b hb
  · rw [f (p0 + 3) k (by omega) (by omega)]; exact D k k1 k2
  · rw [f p0 5 (by omega) (by omega)]; exact E
  · rw [f (p0 + 4) i (by omega) (by omega), f (p0 + 5) i (by omega) (by omega), f (p0 + 6) i (by omega) (by omega), f (p0 + 7) i (by omega) (by omega), f (p0 + 8) i (by omega) (by omega)]; exact F i hi
  · rw [f (p0 + 9) i (by omega) (by omega), f (p0 + 10) i (by omega) (by omega)]; exact G i hi
  · rw [f p0 14 (by omega) (by omega)]
    exact ⟨H.1, H.2.1, fun x hx => by rw [f (p0 + 11) x (by omega) (by omega)]; exact H.2.2 x hx⟩
section Xk2
variable {l : Launch} {D : va_G} {cy : Nat → ClassId} {z d bc bs N : Nat} {T : Nat → Nat × Nat} {R : Nat → Nat → Option Nat} {I : Nat → Nat → Int} {K : yKo} {t : Nat → Int} {n lim p p0 : Nat} {S : Ld}
/-- Land.readChair, behind what is wrong -/
theorem x_16b (hT : yLT T) (hR : yLR R) (hp : yAtLand T R p0) {c : Nat} (c8 : c < 8) (hk : ∀ I', (∀ x y, ¬ (p0 ≤ x ∧ x < p0 + 12) → I' x y = I x y) → K (some (yi 0)) (N, T, R, I')) :
    yW l zSS D cy zFk z (d + 8) 16 bc bs K 0 0 157 [(0, yr (some p0)), (1, yr (some 1)), (2, yi (c : Int))] [yi (-1), yi (c : Int), yr (some (p0 + 6))] (N, T, R, I) := by
  have cn : ((c : Int)).toNat = c := by omega
  refine B_16_157 hT hR hp ⟨by omega, by omega, fun I3 e3 I4 e4 => ⟨by omega, by omega, ?_⟩⟩
  have v : I4 (p0 + 6) ((c : Int)).toNat = -1 := by rw [e4, yU_ne _ _ (by omega), e3, cn, yU_eq]; exact ynar1_eq (by omega) (by omega)
  rw [v]
  exact x_13n hT hR hp ⟨_, _, rfl, rfl, .inl rfl, hk I4 (fun x y q => by rw [e4, yU_ne _ _ (by omega), e3, yU_ne _ _ (by omega)])⟩
theorem x_16a (hT : yLT T) (hR : yLR R) (hp : yAtLand T R p0) {c : Nat} (c8 : c < 8) (hk : ∀ I', (∀ x y, ¬ (p0 ≤ x ∧ x < p0 + 12) → I' x y = I x y) → K (some (yi 0)) (N, T, R, I')) :
    yW l zSS D cy zFk z (d + 8) 16 bc bs K 0 0 132 [(0, yr (some p0)), (1, yr (some 1)), (2, yi (c : Int))] [yi (-1), yi (c : Int), yr (some (p0 + 8))] (N, T, R, I) := by
  have cn : ((c : Int)).toNat = c := by omega
  refine B_16_132 hT hR hp ⟨by omega, by omega, fun I3 e3 => ⟨by omega, by omega, fun q => ?_, fun _ => x_16b hT hR hp c8 (fun I' f => hk I' (fun x y q => by rw [f x y q, e3, yU_ne _ _ (by omega)]))⟩⟩
  exact absurd (by rw [e3, yU_eq]; exact ynar1_eq (by omega) (by omega)) q
set_option maxHeartbeats 1000000 in
/-- Land.readChair -/
theorem x_16 (hT : yLT T) (hR : yLR R) (hp : yAtLand T R p0) (g3 : 3 ≤ p0) (h : cRd I t n lim p) (hn : n ≤ 940) (hl : lim ≤ 940) (ht : I 2 = t) (L : cLr I p0 S)
    (hk : cLo T R N K I t n lim p0 (kChair (tk t n lim) S p)) :
    yW l zSS D cy zFk z (d + 8) 16 bc bs K 0 0 0 [(0, yr (some p0)), (1, yr (some 1))] [] (N, T, R, I) := by
  obtain ⟨hf, ho⟩ := hk
  have e5 := L.2.2.2.2.1.1
  have cn : ((S.ch : Int)).toNat = S.ch := by omega
  refine B_16_0 hT hR hp ?_
  rw [e5, cn]
  refine ⟨fun c => absurd c (by omega), fun _ => ⟨fun c => ?_, fun c => B_16_15 hT hR hp (x_34 hT hR h (fun I1 f1 fl => ⟨_, _, rfl, rfl, .inl rfl, hf _ I1 (by unfold kChair; rw [if_pos (by omega)]) (cFl2_of f1) fl⟩))⟩⟩
  have c8 : S.ch < 8 := by omega
  have k0 : ¬ 8 ≤ S.ch := by omega
  refine x_adv hT hR h hn hl ht (fun I1 f1 r1 => ⟨_, rfl, rfl, ?_⟩)
  have t1 := cRd_2 f1 ht
  have L1 := cLr_fr L g3 f1
  have F1 : cCf p0 S.ch I I1 := fun x y a _ => f1 x y a
  obtain ⟨p1, hp1⟩ : ∃ q, (tk t n lim p).2.2.2 = q := ⟨_, rfl⟩
  rw [hp1] at r1
  refine x_36 hT hR r1 (fun I2 e f2 fl => ⟨_, _, rfl, rfl, fun q => absurd rfl q, fun _ => hf _ I2 (by unfold kChair; rw [if_neg k0, hp1, if_pos e]) (cFl2_of (cFr_tr f1 f2)) fl⟩) (fun en e7 w => ⟨_, _, rfl, rfl, fun _ => ?_, fun q => absurd (by decide : (1 : Int) ≠ 0) q⟩)
  rw [e7]
  refine x_6 hT hR hp L1 w ⟨_, _, rfl, rfl, fun cf => ?_, fun cf => x_34 hT hR r1 (fun I2 f2 fl => ⟨_, _, rfl, rfl, .inl rfl, hf _ I2 (by unfold kChair; rw [if_neg k0, hp1, if_neg (fun q => q en), if_pos cf]) (cFl2_of (cFr_tr f1 f2)) fl⟩)⟩
  refine ⟨by omega, by omega, fun I2 e2 => ?_⟩
  rw [e7] at e2
  have F2 := cCf_up F1 e2 (by omega)
  have r2 := cRd_up r1 e2 (by omega)
  have t2 : I2 2 = t := by rw [← t1]; exact funext fun j => by rw [e2, yU_ne _ _ (by omega)]
  have v2 : I2 (p0 + 4) S.ch = cv 7 (tk t n lim p1).2.2.1 := by rw [e2, yU_eq]
  refine x_adv hT hR r2 hn hl t2 (fun I3 f3 r3 => ⟨_, rfl, rfl, ?_⟩)
  have F3 := cCf_fr F2 f3
  have t3 := cRd_2 f3 t2
  have v3 : I3 (p0 + 4) S.ch = cv 7 (tk t n lim p1).2.2.1 := (f3 _ _ (by omega)).trans v2
  obtain ⟨p2, hp2⟩ : ∃ q, (tk t n lim p1).2.2.2 = q := ⟨_, rfl⟩
  rw [hp2] at r3
  have kc : kChair (tk t n lim) S p = kChair2 (tk t n lim) S (tk t n lim p1).2.2.1 p2 := by
    unfold kChair
    rw [if_neg k0, hp1, if_neg (fun q => q en), if_neg (fun q => q cf), hp2]
  refine x_15 hT hR hp g3 r3 hn hl t3 (cLr_cf L g3 F3) (fun f I4 e f4 fl => ⟨_, _, rfl, rfl, by omega, by omega, fun I5 e5 => ⟨by omega, by omega, ?_⟩⟩) (fun a pa I4 ea f4 r4 a0 a1 a2 a3 => ⟨_, _, rfl, rfl, by omega, by omega, fun I5 e5 => ⟨by omega, by omega, ?_⟩⟩)
  · have v : I5 (p0 + 5) S.ch = -1 := by rw [e5, yU_eq]; exact ynar1_eq (by omega) (by omega)
    rw [v]
    have F5 := cCf_up (cCf_fr F3 f4) e5 (by omega)
    exact x_13n hT hR hp ⟨_, _, rfl, rfl, fun q => absurd rfl q, fun _ => hf f I5 (by rw [kc]; unfold kChair2 kOpen; rw [e]) (cCf_l2 F5) ⟨by rw [e5, yU_ne _ _ (by omega)]; exact fl.1, by rw [e5, yU_ne _ _ (by omega)]; exact fl.2⟩⟩
  have F5 := cCf_up (cCf_fr F3 f4) e5 (by omega)
  have r5 := cRd_up r4 e5 (by omega)
  have t5 : I5 2 = t := by rw [← cRd_2 f4 t3]; exact funext fun j => by rw [e5, yU_ne _ _ (by omega)]
  have v5 : I5 (p0 + 4) S.ch = cv 7 (tk t n lim p1).2.2.1 := by rw [e5, yU_ne _ _ (by omega)]; exact (f4 _ _ (by omega)).trans v3
  have w5 : I5 (p0 + 5) S.ch = a := by rw [e5, yU_eq]; exact ynar1_eq (by omega) (by omega)
  rw [w5]
  refine x_13 hT hR hp r5 hn hl t5 (cLr_cf L g3 F5) ⟨a0, a1⟩ (fun I6 g f6 fl => ⟨_, _, rfl, rfl, fun q => absurd rfl q, fun _ => hf _ I6 (by rw [kc]; unfold kChair2 kOpen; rw [ea]; dsimp only; rw [if_pos g]) (cCf_l2 (cCf_fr F5 f6)) fl⟩) (fun I6 g f6 r6 => ⟨_, _, rfl, rfl, fun _ => ?_, fun q => absurd (by decide : (1 : Int) ≠ 0) q⟩)
  have ko : kOpen (tk t n lim) S p2 = .inr (a, (tk t n lim pa).2.2.2) := by unfold kOpen; rw [ea]; dsimp only; rw [if_neg (by rw [g]; decide)]
  obtain ⟨p3, hp3⟩ : ∃ q, (tk t n lim pa).2.2.2 = q := ⟨_, rfl⟩
  rw [hp3] at r6 ko
  have kd : kChair (tk t n lim) S p = kChair3 (tk t n lim) S (tk t n lim p1).2.2.1 a p3 := by
    rw [kc]
    unfold kChair2
    rw [ko]
  have F6 := cCf_fr F5 f6
  have t6 := cRd_2 f6 t5
  refine x_42 hT hR r6 hn hl t6 (fun f I7 e f7 fl => ⟨_, _, rfl, rfl, by omega, by omega, fun I8 e8 => ⟨by omega, by omega, fun q => ?_, fun _ => x_16a hT hR hp c8 (fun I' fr => hf f I' (by rw [kd]; unfold kChair3; rw [e]) ?_ ?_)⟩⟩) (fun r p4 I7 er f7 r7 b0 b1 b2 b3 => ⟨_, _, rfl, rfl, by omega, by omega, fun I8 e8 => ⟨by omega, by omega, fun _ => ?_, fun q => ?_⟩⟩)
  · exact absurd (by rw [e8, yU_eq]; exact ynar1_eq (by omega) (by omega)) q
  · exact cFl2_tr (cCf_l2 (cCf_up (cCf_fr F6 f7) e8 (by omega))) (fun x y _ q2 => fr x y q2)
  · exact ⟨by rw [fr 1 10 (by omega), e8, yU_ne _ _ (by omega)]; exact fl.1, by rw [fr 1 11 (by omega), e8, yU_ne _ _ (by omega)]; exact fl.2⟩
  · have F8 := cCf_up (cCf_fr F6 f7) e8 (by omega)
    have r8 := cRd_up r7 e8 (by omega)
    have t8 : I8 2 = t := by rw [← cRd_2 f7 t6]; exact funext fun j => by rw [e8, yU_ne _ _ (by omega)]
    have v8 : I8 (p0 + 4) S.ch = cv 7 (tk t n lim p1).2.2.1 := by rw [e8, yU_ne _ _ (by omega)]; exact (f7 _ _ (by omega)).trans ((f6 _ _ (by omega)).trans v5)
    have w8 : I8 (p0 + 5) S.ch = a := by rw [e8, yU_ne _ _ (by omega)]; exact (f7 _ _ (by omega)).trans ((f6 _ _ (by omega)).trans w5)
    have u8 : I8 (p0 + 7) S.ch = r := by rw [e8, yU_eq]; exact ynar1_eq (by omega) (by omega)
    refine x_42 hT hR r8 hn hl t8 (fun f I9 e f9 fl => ⟨_, _, rfl, rfl, x_16a hT hR hp c8 (fun I' fr => hf f I' (by rw [kd]; unfold kChair3; rw [er]; dsimp only; rw [e]) (cFl2_tr (cCf_l2 (cCf_fr F8 f9)) (fun x y _ q2 => fr x y q2)) ⟨by rw [fr 1 10 (by omega)]; exact fl.1, by rw [fr 1 11 (by omega)]; exact fl.2⟩)⟩) (fun dd p5 I9 ed f9 r9 d0 d1 d2 d3 => ⟨_, _, rfl, rfl, ?_⟩)
    have F9 := cCf_fr F8 f9
    have t9 := cRd_2 f9 t8
    refine B_16_132 hT hR hp ⟨by omega, by omega, fun I10 e10 => ⟨by omega, by omega, fun _ => ?_, fun q => ?_⟩⟩
    · rw [cn] at e10
      have F10 := cCf_up F9 e10 (by omega)
      have r10 := cRd_up r9 e10 (by omega)
      have t10 : I10 2 = t := by rw [← t9]; exact funext fun j => by rw [e10, yU_ne _ _ (by omega)]
      have x10 : I10 (p0 + 8) S.ch = dd := by rw [e10, yU_eq]; exact ynar1_eq (by omega) (by omega)
      refine x_15 hT hR hp g3 r10 hn hl t10 (cLr_cf L g3 F10) (fun f I11 e f11 fl => ⟨_, _, rfl, rfl, x_16b hT hR hp c8 (fun I' fr => hf f I' (by rw [kd]; unfold kChair3; rw [er]; dsimp only; rw [ed]; dsimp only; unfold kOpen; rw [e]) (cFl2_tr (cCf_l2 (cCf_fr F10 f11)) (fun x y _ q2 => fr x y q2)) ⟨by rw [fr 1 10 (by omega)]; exact fl.1, by rw [fr 1 11 (by omega)]; exact fl.2⟩)⟩) (fun b pb I11 eb f11 r11 b0' b1' b2' b3' => ⟨_, _, rfl, rfl, ?_⟩)
      have F11 := cCf_fr F10 f11
      refine B_16_157 hT hR hp ⟨by omega, by omega, fun I12 e12 I13 e13 => ⟨by omega, by omega, ?_⟩⟩
      rw [cn] at e12
      have F12 := cCf_up F11 e12 (by omega)
      have r12 := cRd_up r11 e12 (by omega)
      have r13 := cRd_up r12 e13 (by omega)
      have g12 : ∀ x y, ¬ (x = p0 ∧ y = 5) → I13 x y = I12 x y := fun x y q => by rw [e13, yU_ne _ _ (by omega)]
      have g11 : ∀ x y, ¬ (x = p0 ∧ y = 5) → ¬ (x = p0 + 6 ∧ y = S.ch) → I13 x y = I11 x y := fun x y q q2 => by rw [g12 x y q, e12, yU_ne _ _ (by omega)]
      have g10 : ∀ x y, ¬ (x = 1 ∧ 3 ≤ y ∧ y ≤ 11) → ¬ (x = p0 ∧ y = 5) → ¬ (x = p0 + 6 ∧ y = S.ch) → I13 x y = I10 x y := fun x y a q q2 => by rw [g11 x y q q2]; exact f11 x y a
      have g8 : ∀ x y, ¬ (x = 1 ∧ 3 ≤ y ∧ y ≤ 11) → ¬ (x = p0 ∧ y = 5) → ¬ (x = p0 + 6 ∧ y = S.ch) → ¬ (x = p0 + 8 ∧ y = S.ch) → I13 x y = I8 x y := fun x y a q q2 q3 => by rw [g10 x y a q q2, e10, yU_ne _ _ (by omega)]; exact f9 x y a
      have w13 : I13 (p0 + 6) S.ch = b := by rw [g12 _ _ (by omega), e12, yU_eq]; exact ynar1_eq (by omega) (by omega)
      have t13 : I13 2 = t := by rw [← cRd_2 f11 t10]; exact funext fun j => g11 2 j (by omega) (by omega)
      have L13 : cLr I13 p0 (uChair S (tk t n lim p1).2.2.1 a r dd b) := cLr_chair L c8 w (fun x y q1 q2 q3 q4 => (g12 x y q4).trans (F12 x y (by omega) q3)) ⟨by rw [e13, yU_eq, yadd_eq (by omega) (by omega)]; rfl, by rw [g8 _ _ (by omega) (by omega) (by omega) (by omega)]; exact v8, by rw [g8 _ _ (by omega) (by omega) (by omega) (by omega)]; exact w8, w13, by rw [g8 _ _ (by omega) (by omega) (by omega) (by omega)]; exact u8, by rw [g10 _ _ (by omega) (by omega) (by omega)]; exact x10⟩
      have F13 : cFl2 p0 I I13 := fun x y q1 q2 => (g12 x y (by omega)).trans (F12 x y q1 (by omega))
      rw [cn, w13]
      refine x_13 hT hR hp r13 hn hl t13 L13 ⟨b0', b1'⟩ (fun I14 gg f14 fl => ⟨_, _, rfl, rfl, .inl rfl, hf _ I14 (by rw [kd]; unfold kChair3; rw [er]; dsimp only; rw [ed]; dsimp only; unfold kOpen; rw [eb]; dsimp only; rw [if_pos (show S.mk 1 b.toNat = true from gg)]) (cFl2_tr F13 (cFl2_of f14)) fl⟩) (fun I14 gg f14 r14 => ⟨_, _, rfl, rfl, .inr rfl, ho _ _ I14 (by rw [kd]; unfold kChair3; rw [er]; dsimp only; rw [ed]; dsimp only; unfold kOpen; rw [eb]; dsimp only; rw [if_neg (show ¬ (S.mk 1 b.toNat = true) from by rw [show S.mk 1 b.toNat = false from gg]; decide)]) (cFl2_tr F13 (cFl2_of f14)) r14 (cLr_fr L13 g3 f14)⟩)
    · rw [e10, yU_eq, ynar1_eq (by omega) (by omega)] at q
      omega
  · rw [e8, yU_eq, ynar1_eq (by omega) (by omega)] at q
    omega
end Xk2
