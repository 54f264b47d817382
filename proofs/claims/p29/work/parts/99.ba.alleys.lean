/-! THE CLASS's ALLEYS, to the letter -/
theorem tSk_ex (t : Nat → Int) (n : Nat) : ∀ (m p : Nat), p + m = n → ∃ q, tSk t n p q := by
  intro m
  induction m with
  | zero => intro p h; exact ⟨p, Nat.le_refl _, by omega, fun j a b => absurd a (by omega), .inl (by omega)⟩
  | succ m ih =>
    intro p h
    by_cases c : t p = 32 ∨ t p = 10
    · obtain ⟨q, a, b, e, f⟩ := ih (p + 1) (by omega)
      exact ⟨q, by omega, b, fun j h1 h2 => by
        by_cases g : j = p
        · subst g; exact c
        · exact e j (by omega) h2, f⟩
    · exact ⟨p, Nat.le_refl _, by omega, fun j a b => absurd a (by omega), .inr c⟩
theorem tRun_ex (t : Nat → Int) (n : Nat) : ∀ (m q : Nat), q + m = n → ∃ k, tRun t n q k := by
  intro m
  induction m with
  | zero => intro q h; exact ⟨0, by omega, fun j a => absurd a (Nat.not_lt_zero _), .inl (by omega)⟩
  | succ m ih =>
    intro q h
    by_cases c : tL (t q) ∨ tD (t q)
    · obtain ⟨k, a, b, e⟩ := ih (q + 1) (by omega)
      refine ⟨k + 1, by omega, fun j hj => ?_, ?_⟩
      · cases j with
        | zero => exact c
        | succ j => have := b j (by omega); rwa [show q + 1 + j = q + (j + 1) by omega] at this
      · rcases e with e | e
        · exact .inl (by omega)
        · rw [show q + 1 + k = q + (k + 1) by omega] at e
          exact .inr e
    · exact ⟨0, by omega, fun j a => absurd a (Nat.not_lt_zero _), .inr c⟩
/-- a TOKEN lies between where it is looked for and the end -/
theorem tk_ok {t : Nat → Int} {n lim p : Nat} (hp : p ≤ n) : kTok t n lim p (tk t n lim p) ∧ p ≤ (tk t n lim p).2.2.2 ∧ (tk t n lim p).2.2.2 ≤ n ∧ ((tk t n lim p).1 = 0 ∨ (n = (tk t n lim p).2.2.2 ∧ (tk t n lim p).1 = 4) ∨ p < (tk t n lim p).2.2.2 ∨ lim ≤ (tk t n lim p).2.2.2) ∧ ((tk t n lim p).1 = 3 → p < (tk t n lim p).2.2.2) ∧ (p = n → (tk t n lim p).1 = 0 ∨ (tk t n lim p).1 = 4) := by
  obtain ⟨q, hq⟩ := tSk_ex t n (n - p) p (by omega)
  have pq := hq.1
  have qn := hq.2.1
  by_cases c : min n lim ≤ q
  · have k : kTok t n lim p (if n ≤ lim then 0 else 4, min n lim, 0, q) := ⟨q, hq, .inl ⟨c, rfl⟩⟩
    rw [tk_eq k]
    refine ⟨k, pq, qn, ?_, fun g => ?_, fun _ => ?_⟩
    · by_cases g : n ≤ lim
      · exact .inl (if_pos g)
      · exact .inr (.inr (.inr (by show lim ≤ q; omega)))
    · exfalso
      have g : (if n ≤ lim then 0 else 4) = 3 := g
      split at g <;> omega
    · show (if n ≤ lim then 0 else 4) = 0 ∨ (if n ≤ lim then 0 else 4) = 4
      split
      · exact .inl rfl
      · exact .inr rfl
  · obtain ⟨k, hk⟩ := tRun_ex t n (n - q) q (by omega)
    have kn := hk.1
    by_cases z : k = 0
    · have kt : kTok t n lim p (if tS (t q) then 3 else 4, q, if tS (t q) then t q else 0, q + 1) := ⟨q, hq, .inr ⟨by omega, k, hk, .inl ⟨z, rfl⟩⟩⟩
      rw [tk_eq kt]
      exact ⟨kt, Nat.le_succ_of_le pq, (by show q + 1 ≤ n; omega), .inr (.inr (.inl (by show p < q + 1; omega))), fun _ => by show p < q + 1; omega, fun g => by omega⟩
    · have kt : kTok t n lim p (if tKd t q k = 2 then 1 else if tKd t q k = 3 then 2 else 4, q, if tKd t q k = 2 then tF 256 t q k else if tKd t q k = 3 then tF 10 (fun j => t j - 48) q k else 0, q + k) := ⟨q, hq, .inr ⟨by omega, k, hk, .inr ⟨by omega, rfl⟩⟩⟩
      rw [tk_eq kt]
      exact ⟨kt, (by show p ≤ q + k; omega), kn, .inr (.inr (.inl (by show p < q + k; omega))), fun _ => by show p < q + k; omega, fun g => by omega⟩
/-- a reader that goes on within the text -/
abbrev tGo (tk : Nat → Tk) (n : Nat) : Prop := ∀ q, q ≤ n → q ≤ (tk q).2.2.2 ∧ (tk q).2.2.2 ≤ n
theorem tk_go (t : Nat → Int) (n lim : Nat) : tGo (tk t n lim) n := fun q h => ⟨(tk_ok h).2.1, (tk_ok h).2.2.1⟩
section Sg
variable {tk : Nat → Tk} {n : Nat} {S : Ld}
theorem kNum_go (H : tGo tk n) {lo hi v : Int} {p p' : Nat} (hp : p ≤ n) (e : kNum tk lo hi p = .inr (v, p')) : p ≤ p' ∧ p' ≤ n := by
  unfold kNum at e
  split at e
  · split at e
    · cases e; exact H p hp
    · cases e
  · cases e
theorem kCell_go (H : tGo tk n) {c : Int} {p p' : Nat} (hp : p ≤ n) (e : kCell tk S p = .inr (c, p')) : p ≤ p' ∧ p' ≤ n := by
  unfold kCell at e
  split at e
  · cases e
  · rename_i x p1 h1
    split at e
    · cases e
    · cases e; exact kNum_go H hp h1
theorem kOpen_go (H : tGo tk n) {c : Int} {p p' : Nat} (hp : p ≤ n) (e : kOpen tk S p = .inr (c, p')) : p ≤ p' ∧ p' ≤ n := by
  unfold kOpen at e
  split at e
  · cases e
  · rename_i x p1 h1
    have a := kCell_go H hp h1
    split at e
    · cases e
    · cases e
      have b := H p1 a.2
      exact ⟨Nat.le_trans a.1 b.1, b.2⟩
theorem kDir_go (H : tGo tk n) {c : Int} {p p' : Nat} (hp : p ≤ n) (e : kDir tk p = .inr (c, p')) : p ≤ p' ∧ p' ≤ n := by
  unfold kDir at e
  split at e
  · cases e; exact H p hp
  · cases e
theorem kMark_go (H : tGo tk n) {S' : Ld} {s most p p' : Nat} (hp : p ≤ n) (e : kMark tk S s most p = .inr (S', p')) : p ≤ p' ∧ p' ≤ n := by
  have a := H p hp
  unfold kMark at e
  split at e
  · cases e
  · split at e
    · cases e
    · rename_i x p1 h1
      have b := kCell_go H a.2 h1
      split at e
      · cases e
      · cases e
        have c := H p1 b.2
        exact ⟨by omega, c.2⟩
theorem kLane_go (H : tGo tk n) {S' : Ld} {p p' : Nat} (hp : p ≤ n) (e : kLane tk S p = .inr (S', p')) : p ≤ p' ∧ p' ≤ n := by
  have a := H p hp
  unfold kLane at e
  split at e
  · cases e
  · split at e
    · cases e
    · rename_i x p1 h1
      have b := kCell_go H a.2 h1
      split at e
      · cases e
      · split at e
        · cases e
        · rename_i y p2 h2
          have c := H p1 b.2
          have d := kDir_go H c.2 h2
          cases e
          exact ⟨by omega, d.2⟩
theorem kChair3_go (H : tGo tk n) {S' : Ld} {v f : Int} {p p' : Nat} (hp : p ≤ n) (e : kChair3 tk S v f p = .inr (S', p')) : p ≤ p' ∧ p' ≤ n := by
  unfold kChair3 at e
  split at e
  · cases e
  · rename_i r p1 h1
    have a := kNum_go H hp h1
    split at e
    · cases e
    · rename_i r2 p2 h2
      have b := kNum_go H a.2 h2
      split at e
      · cases e
      · rename_i r3 p3 h3
        have c := kOpen_go H b.2 h3
        cases e
        exact ⟨by omega, c.2⟩
theorem kChair_go (H : tGo tk n) {S' : Ld} {p p' : Nat} (hp : p ≤ n) (e : kChair tk S p = .inr (S', p')) : p ≤ p' ∧ p' ≤ n := by
  have a := H p hp
  have b := H _ a.2
  unfold kChair at e
  split at e
  · cases e
  · split at e
    · cases e
    · split at e
      · cases e
      · unfold kChair2 at e
        split at e
        · cases e
        · rename_i f p1 h1
          have c := kOpen_go H b.2 h1
          have d := kChair3_go H c.2 e
          exact ⟨by omega, d.2⟩
theorem kStart_go (H : tGo tk n) {S' : Ld} {p p' : Nat} (hp : p ≤ n) (e : kStart tk S p = .inr (S', p')) : p ≤ p' ∧ p' ≤ n := by
  have a := H p hp
  have b := H _ a.2
  unfold kStart at e
  split at e
  · cases e
  · split at e
    · cases e
    · split at e
      · cases e
      · rename_i v p1 h1
        have c := kNum_go H b.2 h1
        cases e
        exact ⟨by omega, c.2⟩
theorem kSick_go (H : tGo tk n) {S' : Ld} {p p' : Nat} (hp : p ≤ n) (e : kSick tk S p = .inr (S', p')) : p ≤ p' ∧ p' ≤ n := by
  have a := H p hp
  have b := H _ a.2
  unfold kSick at e
  split at e
  · cases e
  · split at e
    · cases e
    · cases e
      exact ⟨by omega, b.2⟩
theorem kWays_go (H : tGo tk n) : ∀ (m : Nat) {S S' : Ld} {p p' : Nat}, p ≤ n → kWays tk m S p = .inr (S', p') → p ≤ p' ∧ p' ≤ n := by
  intro m
  induction m with
  | zero =>
    intro S S' p p' hp e
    rw [kWays] at e
    cases e
    exact ⟨Nat.le_refl _, hp⟩
  | succ m ih =>
    intro S S' p p' hp e
    have a := H p hp
    rw [kWays] at e
    split at e
    · cases e; exact ⟨Nat.le_refl _, hp⟩
    · split at e
      · cases e
      · split at e
        · cases e
        · have b := ih a.2 e
          exact ⟨by omega, b.2⟩
theorem kSize_go (H : tGo tk n) {S' : Ld} {p p' : Nat} (hp : p ≤ n) (e : kSize tk S p = .inr (S', p')) : p ≤ p' ∧ p' ≤ n := by
  have a := H p hp
  unfold kSize at e
  split at e
  · cases e
  · split at e
    · cases e
    · rename_i r p1 h1
      have b := kNum_go H a.2 h1
      split at e
      · cases e
      · rename_i r2 p2 h2
        have c := kNum_go H b.2 h2
        cases e
        exact ⟨by omega, c.2⟩
theorem kLine_go (H : tGo tk n) {S' : Ld} {p p' : Nat} (hp : p ≤ n) (e : kLine tk S p = .inr (S', p')) : p ≤ p' ∧ p' ≤ n := by
  unfold kLine at e
  split at e
  · cases e
  · split at e
    · exact kSize_go H hp e
    · split at e
      · exact kMark_go H hp e
      · split at e
        · exact kMark_go H hp e
        · split at e
          · exact kMark_go H hp e
          · split at e
            · exact kLane_go H hp e
            · split at e
              · exact kChair_go H hp e
              · split at e
                · exact kStart_go H hp e
                · split at e
                  · exact kSick_go H hp e
                  · split at e
                    · unfold kLaw at e
                      split at e
                      · cases e
                      · have a := H p hp
                        have b := kWays_go H 4 a.2 e
                        exact ⟨by omega, b.2⟩
                    · cases e
end Sg
section Xj
variable {l : Launch} {D : va_G} {cy : Nat → ClassId} {z d bc bs N : Nat} {T : Nat → Nat × Nat} {R : Nat → Nat → Option Nat} {I : Nat → Nat → Int} {K : yKo} {t : Nat → Int} {n lim p p0 : Nat} {S : Ld}
/-- Land.hasWay -/
theorem x_9 (hT : yLT T) (hR : yLR R) (hp : yAtLand T R p0) (L : cLr I p0 S) {v : Int} (hk : ∀ r, ((r = 1 ∧ kHas S v = true) ∨ (r = 0 ∧ kHas S v = false)) → K (some (yi r)) (N, T, R, I)) :
    yW l zSS D cy zFk z d 9 bc bs K 0 0 0 [(0, yr (some p0)), (1, yi v)] [] (N, T, R, I) := by
  obtain ⟨_, _, _, _, _, _, _, ⟨e14, l3, la⟩⟩ := L
  have loop : ∀ (m c : Nat), c + m = S.laws → (∀ j, j < c → S.law j ≠ v) → yW l zSS D cy zFk z d 9 bc bs K 0 0 2 [(0, yr (some p0)), (1, yi v), (2, yi (c : Int))] [] (N, T, R, I) := by
    intro m
    induction m with
    | zero =>
      intro c hm no
      exact B_9_2 hT hR hp ⟨fun _ => hk 0 (.inr ⟨rfl, kHas_f (fun j hj => no j (by omega))⟩), fun c1 => absurd (by omega) c1⟩
    | succ m ih =>
      intro c hm no
      have g := la c (by omega)
      have cn : ((c : Int)).toNat = c := by omega
      refine B_9_2 hT hR hp ⟨fun c1 => absurd c1 (by omega), fun _ => ⟨fun c1 => absurd c1 (by omega), fun _ => ⟨by omega, by omega, fun c2 => ?_, fun c2 => ?_⟩⟩⟩
      · rw [cn, g] at c2
        have := ih (c + 1) (by omega) (fun j hj => by
          by_cases e : j = c
          · subst e; exact c2
          · exact no j (by omega))
        rw [yadd_eq (by omega) (by omega)]
        exact this
      · rw [cn, g] at c2
        exact hk 1 (.inl ⟨rfl, kHas_t (c := c) (by omega) (by omega)⟩)
  exact B_9_0 hT hR hp (loop S.laws 0 (by omega) (fun j hj => absurd hj (Nat.not_lt_zero _)))
theorem cLo_tr {J : Nat → Nat → Int} {k : Rs (Ld × Nat)} (h : cLo T R N K I t n lim p0 k) (f : cFl2 p0 I J) : cLo T R N K J t n lim p0 k :=
  ⟨fun g I' e a b => h.1 g I' e (cFl2_tr f a) b, fun S' p' I' e a b c => h.2 S' p' I' e (cFl2_tr f a) b c⟩
/-- the WAYS of Land.readLaw -/
theorem x_18w (hT : yLT T) (hR : yLR R) (hp : yAtLand T R p0) (g3 : 3 ≤ p0) (hn : n ≤ 940) (hl : lim ≤ 940) : ∀ (m : Nat) (S : Ld) (p : Nat) (I : Nat → Nat → Int), S.laws + m = 4 → I 2 = t → cRd I t n lim p → cLr I p0 S → cLo T R N K I t n lim p0 (kWays (tk t n lim) m S p) →
    yW l zSS D cy zFk z (d + 6) 18 bc bs K 0 0 19 [(0, yr (some p0)), (1, yr (some 1)), (2, yi (S.laws : Int))] [] (N, T, R, I) := by
  intro m
  induction m with
  | zero =>
    intro S p I hm ht h L hk
    have := L.2.2.2.2.2.2.2.2.1
    omega
  | succ m ih =>
    intro S p I hm ht h L hk
    obtain ⟨hf, ho⟩ := id hk
    have l3 := L.2.2.2.2.2.2.2.2.1
    have cn : ((S.laws : Int)).toNat = S.laws := by omega
    obtain ⟨-, -, -, -, -, -, -, -, g7, -⟩ := cTk_tk h.2.2
    have s72 : kWays (tk t n lim) (m + 1) S p = .inl (3, (tk t n lim p).2.1) → yW l zSS D cy zFk z (d + 6) 18 bc bs K 0 0 72 [(1, yr (some 1))] [] (N, T, R, I) := fun e =>
      B_18_72 hT hR hp (x_34 hT hR h (fun I1 f1 fl => ⟨_, _, rfl, rfl, .inl rfl, hf _ I1 e (cFl2_of f1) fl⟩))
    have s39 : ¬ (0 < S.laws ∧ (tk t n lim p).1 = 3 ∧ (tk t n lim p).2.2.1 = 59) → yW l zSS D cy zFk z (d + 6) 18 bc bs K 0 0 39 [(0, yr (some p0)), (1, yr (some 1)), (2, yi (S.laws : Int))] [] (N, T, R, I) := by
      intro ns
      refine B_18_39 hT hR hp (x_39 hT hR h (by decide) (fun r hr => ⟨_, _, rfl, rfl, fun c => ?_, fun c => ?_⟩))
      · have w : (tk t n lim p).1 = 1 ∧ 9 ≤ rIx (tk t n lim p).2.2.1 ∧ rIx (tk t n lim p).2.2.1 ≤ 11 := by
          rcases hr with ⟨_, a⟩ | ⟨a, _⟩
          · exact a
          · exact absurd a c
        have e6 := (g7 w.1).2.1
        refine ⟨fun c2 => s72 (by rw [kWays, if_neg ns, if_neg (fun q => q w), if_pos (.inl (by omega))]), fun c2 => ?_⟩
        rw [e6]
        refine x_9 hT hR hp L (fun r6 h6 => ⟨_, _, rfl, rfl, fun c3 => ?_, fun c3 => s72 ?_⟩)
        · have nh : kHas S (rIx (tk t n lim p).2.2.1) = false := by
            rcases h6 with ⟨a, _⟩ | ⟨_, a⟩
            · exact absurd (a.symm.trans c3) (by decide)
            · exact a
          have kw : kWays (tk t n lim) (m + 1) S p = kWays (tk t n lim) m (uWay S (rIx (tk t n lim p).2.2.1)) (tk t n lim p).2.2.2 := by
            rw [kWays, if_neg ns, if_neg (fun q => q w), if_neg (fun q => by
              rcases q with q | q
              · omega
              · rw [nh] at q; exact absurd q (by decide))]
          refine ⟨by omega, by omega, fun I1 e1 I2 e2 => ?_⟩
          rw [cn, e6] at e1
          have fr : ∀ x y, ¬ (x = p0 + 11 ∧ y = S.laws) → ¬ (x = p0 ∧ y = 14) → I2 x y = I x y := fun x y a b => by rw [e2, yU_ne _ _ (by omega), e1, yU_ne _ _ (by omega)]
          have r2 : cRd I2 t n lim p := cRd_cg h (fun b => fr 1 b (by omega) (by omega))
          have t2 : I2 2 = t := by rw [← ht]; exact funext fun j => fr 2 j (by omega) (by omega)
          have L2 : cLr I2 p0 (uWay S (rIx (tk t n lim p).2.2.1)) := cLr_way L (by omega) (fun x y _ _ a b => fr x y a b) (by rw [e2, yU_ne _ _ (by omega), e1, yU_eq]; exact ynar1_eq (by omega) (by omega)) (by rw [e2, yU_eq, yadd_eq (by omega) (by omega)]; rfl)
          refine x_adv hT hR r2 hn hl t2 (fun I3 f3 r3 => ⟨_, rfl, rfl, ?_⟩)
          have := ih (uWay S (rIx (tk t n lim p).2.2.1)) _ I3 (by show S.laws + 1 + m = 4; omega) (cRd_2 f3 t2) r3 (cLr_fr L2 g3 f3) (by rw [← kw]; exact cLo_tr hk (fun x y a b => (f3 x y a).trans (fr x y (by omega) (by omega))))
          rw [yadd_eq (by omega) (by omega)]
          exact this
        · have ih1 : kHas S (rIx (tk t n lim p).2.2.1) = true := by
            rcases h6 with ⟨_, a⟩ | ⟨a, _⟩
            · exact a
            · exact absurd a c3
          rw [kWays, if_neg ns, if_neg (fun q => q w), if_pos (.inr ih1)]
      · have w : ¬ ((tk t n lim p).1 = 1 ∧ 9 ≤ rIx (tk t n lim p).2.2.1 ∧ rIx (tk t n lim p).2.2.1 ≤ 11) := by
          rcases hr with ⟨a, _⟩ | ⟨_, a⟩
          · omega
          · exact a
        exact x_34 hT hR h (fun I1 f1 fl => ⟨_, _, rfl, rfl, .inl rfl, hf _ I1 (by rw [kWays, if_neg ns, if_pos w]) (cFl2_of f1) fl⟩)
    refine B_18_19 hT hR hp ⟨fun c => absurd c (by omega), fun _ => ⟨fun c => s39 (by omega), fun c => x_38 hT hR h (fun r hr => ⟨_, _, rfl, rfl, fun c2 => s39 (fun q => ?_), fun c2 => ?_⟩)⟩⟩
    · rcases hr with ⟨a, _⟩ | ⟨_, a⟩
      · omega
      · exact a q.2
    · have w : (tk t n lim p).1 = 3 ∧ (tk t n lim p).2.2.1 = 59 := by
        rcases hr with ⟨_, a⟩ | ⟨a, _⟩
        · exact a
        · exact absurd a c2
      exact ho S p I (by rw [kWays, if_pos ⟨by omega, w⟩]) (fun _ _ _ _ => rfl) h L
/-- Land.readLaw -/
theorem x_18 (hT : yLT T) (hR : yLR R) (hp : yAtLand T R p0) (g3 : 3 ≤ p0) (h : cRd I t n lim p) (hn : n ≤ 940) (hl : lim ≤ 940) (ht : I 2 = t) (L : cLr I p0 S)
    (hk : cLo T R N K I t n lim p0 (kLaw (tk t n lim) S p)) :
    yW l zSS D cy zFk z (d + 6) 18 bc bs K 0 0 0 [(0, yr (some p0)), (1, yr (some 1))] [] (N, T, R, I) := by
  have e14 := L.2.2.2.2.2.2.2.1
  refine B_18_0 hT hR hp ⟨fun c => ?_, fun c => ?_⟩
  · have c0 : S.laws = 0 := by omega
    refine x_adv hT hR h hn hl ht (fun I1 f1 r1 => ⟨_, rfl, rfl, ?_⟩)
    have := x_18w hT hR hp g3 hn hl (K := K) 4 S _ I1 (by omega) (cRd_2 f1 ht) r1 (cLr_fr L g3 f1) (by
      have e : kLaw (tk t n lim) S p = kWays (tk t n lim) 4 S (tk t n lim p).2.2.2 := by unfold kLaw; rw [if_neg (fun q => q c0)]
      rw [← e]
      exact cLo_tr hk (cFl2_of f1)) (l := l) (D := D) (cy := cy) (z := z) (d := d) (bc := bc) (bs := bs)
    rw [c0] at this
    exact this
  · exact x_34 hT hR h (fun I1 f1 fl => ⟨_, _, rfl, rfl, .inl rfl, hk.1 _ I1 (by unfold kLaw; rw [if_pos (by omega)]) (cFl2_of f1) fl⟩)
/-- Land.readLine -/
theorem x_19 (hT : yLT T) (hR : yLR R) (hp : yAtLand T R p0) (g3 : 3 ≤ p0) (h : cRd I t n lim p) (hn : n ≤ 940) (hl : lim ≤ 940) (ht : I 2 = t) (L : cLr I p0 S)
    (hk : cLo T R N K I t n lim p0 (kLine (tk t n lim) S p)) :
    yW l zSS D cy zFk z (d + 9) 19 bc bs K 0 0 0 [(0, yr (some p0)), (1, yr (some 1))] [] (N, T, R, I) := by
  obtain ⟨-, -, -, g2, -, -, -, -, g7, -⟩ := cTk_tk h.2.2
  have q : ∀ k, kLine (tk t n lim) S p = k → cLo T R N (fun r h' => ∃ r3 I2, r = some (yi r3) ∧ h' = (N, T, R, I2) ∧ ((r3 = 0 ∨ r3 = 1) ∧ K (some (yi r3)) (N, T, R, I2))) I t n lim p0 k := fun k e =>
    ⟨fun f I' e2 a b => ⟨_, _, rfl, rfl, .inl rfl, hk.1 f I' (e.trans e2) a b⟩, fun S' p' I' e2 a b c => ⟨_, _, rfl, rfl, .inr rfl, hk.2 S' p' I' (e.trans e2) a b c⟩⟩
  refine B_19_0 hT hR hp ⟨fun c => ?_, fun c => ?_⟩
  · have w := g2.mp c
    have e6 := (g7 w).2.1
    rw [e6]
    refine ⟨fun c0 => x_23 hT hR hp g3 h hn hl ht L (q _ (by unfold kLine; rw [if_neg (fun z => z w), if_pos c0])), fun c0 => ⟨fun c1 => ?_, fun c1 => ⟨fun c2 => ?_, fun c2 => ⟨fun c3 => ?_, fun c3 => ⟨fun c4 => ?_, fun c4 => ⟨fun c5 => ?_, fun c5 => ⟨fun c6 => ?_, fun c6 => ⟨fun c7 => ?_, fun c7 => ⟨fun c8 => ?_, fun c8 => ?_⟩⟩⟩⟩⟩⟩⟩⟩⟩
    · exact x_20 hT hR hp g3 h hn hl ht L (s := 1) (most := 40) (.inl rfl) (by omega) (q _ (by unfold kLine; rw [if_neg (fun z => z w), if_neg c0, if_pos c1]))
    · exact x_20 hT hR hp g3 h hn hl ht L (s := 2) (most := 12) (.inr (.inl rfl)) (by omega) (q _ (by unfold kLine; rw [if_neg (fun z => z w), if_neg c0, if_neg c1, if_pos c2]))
    · exact x_20 hT hR hp g3 h hn hl ht L (s := 3) (most := 12) (.inr (.inr rfl)) (by omega) (q _ (by unfold kLine; rw [if_neg (fun z => z w), if_neg c0, if_neg c1, if_neg c2, if_pos c3]))
    · exact x_17 hT hR hp g3 h hn hl ht L (q _ (by unfold kLine; rw [if_neg (fun z => z w), if_neg c0, if_neg c1, if_neg c2, if_neg c3, if_pos c4]))
    · exact x_16 hT hR hp g3 h hn hl ht L (q _ (by unfold kLine; rw [if_neg (fun z => z w), if_neg c0, if_neg c1, if_neg c2, if_neg c3, if_neg c4, if_pos c5]))
    · exact x_24 hT hR hp g3 h hn hl ht L (q _ (by unfold kLine; rw [if_neg (fun z => z w), if_neg c0, if_neg c1, if_neg c2, if_neg c3, if_neg c4, if_neg c5, if_pos c6]))
    · exact x_22 hT hR hp g3 h hn hl ht L (q _ (by unfold kLine; rw [if_neg (fun z => z w), if_neg c0, if_neg c1, if_neg c2, if_neg c3, if_neg c4, if_neg c5, if_neg c6, if_pos c7]))
    · exact x_18 hT hR hp g3 h hn hl ht L (q _ (by unfold kLine; rw [if_neg (fun z => z w), if_neg c0, if_neg c1, if_neg c2, if_neg c3, if_neg c4, if_neg c5, if_neg c6, if_neg c7, if_pos c8]))
    · exact x_34 hT hR h (fun I1 f1 fl => ⟨_, _, rfl, rfl, .inl rfl, hk.1 _ I1 (by unfold kLine; rw [if_neg (fun z => z w), if_neg c0, if_neg c1, if_neg c2, if_neg c3, if_neg c4, if_neg c5, if_neg c6, if_neg c7, if_neg c8]) (cFl2_of f1) fl⟩)
  · exact x_34 hT hR h (fun I1 f1 fl => ⟨_, _, rfl, rfl, .inl rfl, hk.1 _ I1 (by unfold kLine; rw [if_pos (fun z => c (g2.mpr z))]) (cFl2_of f1) fl⟩)
/-- Land.clear -/
theorem x_7 (hT : yLT T) (hR : yLR R) (hp : yAtLand T R p0) (hk : ∀ I', (∀ x y, ¬ (p0 ≤ x ∧ x < p0 + 12) → I' x y = I x y) → cLr I' p0 Ld0 → K none (N, T, R, I')) :
    yW l zSS D cy zFk z d 7 bc bs K 0 0 0 [(0, yr (some p0))] [] (N, T, R, I) := by
  have l74 : ∀ (m c : Nat) (X : Nat → Nat → Int), c + m = 8 → (∀ x y, ¬ (p0 ≤ x ∧ x < p0 + 12) → X x y = I x y) → (X p0 0 = 0 ∧ X p0 1 = 0 ∧ X p0 5 = 0 ∧ X p0 14 = 0) → (∀ a, a < 100 → X (p0 + 1) a = 0 ∧ X (p0 + 2) a = -1) → (∀ s, s < 5 → X (p0 + 3) s = 0) → (∀ i, i < c → X (p0 + 9) i = -1 ∧ X (p0 + 10) i = 0) → yW l zSS D cy zFk z d 7 bc bs K 0 0 74 [(0, yr (some p0)), (1, yi (c : Int))] [] (N, T, R, X) := by
    intro m
    induction m with
    | zero =>
      intro c X hm fX x0 x1 x2 x3
      refine B_7_74 hT hR hp ⟨fun _ => hk X fX ?_, fun c1 => absurd (by omega) c1⟩
      refine ⟨⟨x0.1, by decide, by decide, x0.2.1, by decide, by decide⟩, fun a ha => (x1 a ha).1.trans rfl, fun a ha => ⟨(x1 a ha).2, (show (-1 : Int) ≤ -1 by decide), (show (-1 : Int) ≤ 3 by decide)⟩, fun s _ h4 => ⟨x2 s (by omega), Nat.zero_le _⟩, ⟨x0.2.2.1, Nat.zero_le _⟩, fun i hi => absurd hi (Nat.not_lt_zero _), fun i hi => ⟨(x3 i (by omega)).1, (x3 i (by omega)).2⟩, ⟨x0.2.2.2, Nat.zero_le _, fun i hi => absurd hi (Nat.not_lt_zero _)⟩⟩
    | succ m ih =>
      intro c X hm fX x0 x1 x2 x3
      have cn : ((c : Int)).toNat = c := by omega
      refine B_7_74 hT hR hp ⟨fun c1 => absurd c1 (by omega), fun _ => ⟨by omega, by omega, fun I4 e4 => ⟨by omega, by omega, fun I7 e7 => ?_⟩⟩⟩
      rw [cn] at e4 e7
      have fr : ∀ x y, ¬ (x = p0 + 9 ∧ y = c) → ¬ (x = p0 + 10 ∧ y = c) → I7 x y = X x y := fun x y a b => by rw [e7, yU_ne _ _ (by omega), e4, yU_ne _ _ (by omega)]
      have := ih (c + 1) I7 (by omega) (fun x y a => by rw [fr x y (by omega) (by omega)]; exact fX x y a) (by rw [fr p0 0 (by omega) (by omega), fr p0 1 (by omega) (by omega), fr p0 5 (by omega) (by omega), fr p0 14 (by omega) (by omega)]; exact x0) (fun a ha => by rw [fr (p0 + 1) a (by omega) (by omega), fr (p0 + 2) a (by omega) (by omega)]; exact x1 a ha) (fun s hs => by rw [fr (p0 + 3) s (by omega) (by omega)]; exact x2 s hs) (fun i hi => by
        by_cases g : i = c
        · subst g
          exact ⟨by rw [e7, yU_ne _ _ (by omega), e4, yU_eq]; exact ynar1_eq (by omega) (by omega), by rw [e7, yU_eq]; rfl⟩
        · rw [fr (p0 + 9) i (by omega) (by omega), fr (p0 + 10) i (by omega) (by omega)]
          exact x3 i (by omega))
      rw [yadd_eq (by omega) (by omega)]
      exact this
  have l50 : ∀ (m c : Nat) (X : Nat → Nat → Int), c + m = 5 → (∀ x y, ¬ (p0 ≤ x ∧ x < p0 + 12) → X x y = I x y) → (X p0 0 = 0 ∧ X p0 1 = 0 ∧ X p0 5 = 0 ∧ X p0 14 = 0) → (∀ a, a < 100 → X (p0 + 1) a = 0 ∧ X (p0 + 2) a = -1) → (∀ s, s < c → X (p0 + 3) s = 0) → yW l zSS D cy zFk z d 7 bc bs K 0 0 50 [(0, yr (some p0)), (1, yi (c : Int))] [] (N, T, R, X) := by
    intro m
    induction m with
    | zero =>
      intro c X hm fX x0 x1 x2
      exact B_7_50 hT hR hp ⟨fun _ => l74 8 0 X rfl fX x0 x1 (fun s hs => x2 s (by omega)) (fun i hi => absurd hi (Nat.not_lt_zero _)), fun c1 => absurd (by omega) c1⟩
    | succ m ih =>
      intro c X hm fX x0 x1 x2
      have cn : ((c : Int)).toNat = c := by omega
      refine B_7_50 hT hR hp ⟨fun c1 => absurd c1 (by omega), fun _ => ⟨by omega, by omega, fun I4 e4 => ?_⟩⟩
      rw [cn] at e4
      have fr : ∀ x y, ¬ (x = p0 + 3 ∧ y = c) → I4 x y = X x y := fun x y a => by rw [e4, yU_ne _ _ (by omega)]
      have := ih (c + 1) I4 (by omega) (fun x y a => by rw [fr x y (by omega)]; exact fX x y a) (by rw [fr p0 0 (by omega), fr p0 1 (by omega), fr p0 5 (by omega), fr p0 14 (by omega)]; exact x0) (fun a ha => by rw [fr (p0 + 1) a (by omega), fr (p0 + 2) a (by omega)]; exact x1 a ha) (fun s hs => by
        by_cases g : s = c
        · subst g
          rw [e4, yU_eq]; exact ynar1_eq (by omega) (by omega)
        · rw [fr (p0 + 3) s (by omega)]
          exact x2 s (by omega))
      rw [yadd_eq (by omega) (by omega)]
      exact this
  have l22 : ∀ (m c : Nat) (X : Nat → Nat → Int), c + m = 100 → (∀ x y, ¬ (p0 ≤ x ∧ x < p0 + 12) → X x y = I x y) → (X p0 0 = 0 ∧ X p0 1 = 0 ∧ X p0 5 = 0 ∧ X p0 14 = 0) → (∀ a, a < c → X (p0 + 1) a = 0 ∧ X (p0 + 2) a = -1) → yW l zSS D cy zFk z d 7 bc bs K 0 0 22 [(0, yr (some p0)), (1, yi (c : Int))] [] (N, T, R, X) := by
    intro m
    induction m with
    | zero =>
      intro c X hm fX x0 x1
      exact B_7_22 hT hR hp ⟨fun _ => l50 5 0 X rfl fX x0 (fun a ha => x1 a (by omega)) (fun i hi => absurd hi (Nat.not_lt_zero _)), fun c1 => absurd (by omega) c1⟩
    | succ m ih =>
      intro c X hm fX x0 x1
      have cn : ((c : Int)).toNat = c := by omega
      refine B_7_22 hT hR hp ⟨fun c1 => absurd c1 (by omega), fun _ => ⟨by omega, by omega, fun I4 e4 => ⟨by omega, by omega, fun I7 e7 => ?_⟩⟩⟩
      rw [cn] at e4 e7
      have fr : ∀ x y, ¬ (x = p0 + 1 ∧ y = c) → ¬ (x = p0 + 2 ∧ y = c) → I7 x y = X x y := fun x y a b => by rw [e7, yU_ne _ _ (by omega), e4, yU_ne _ _ (by omega)]
      have := ih (c + 1) I7 (by omega) (fun x y a => by rw [fr x y (by omega) (by omega)]; exact fX x y a) (by rw [fr p0 0 (by omega) (by omega), fr p0 1 (by omega) (by omega), fr p0 5 (by omega) (by omega), fr p0 14 (by omega) (by omega)]; exact x0) (fun a ha => by
        by_cases g : a = c
        · subst g
          exact ⟨by rw [e7, yU_ne _ _ (by omega), e4, yU_eq]; exact ynar1_eq (by omega) (by omega), by rw [e7, yU_eq]; exact ynar1_eq (by omega) (by omega)⟩
        · rw [fr (p0 + 1) a (by omega) (by omega), fr (p0 + 2) a (by omega) (by omega)]
          exact x1 a (by omega))
      rw [yadd_eq (by omega) (by omega)]
      exact this
  refine B_7_0 hT hR hp (fun I1 e1 I2 e2 I3 e3 I4 e4 => l22 100 0 I4 rfl (fun x y a => by rw [e4, yU_ne _ _ (by omega), e3, yU_ne _ _ (by omega), e2, yU_ne _ _ (by omega), e1, yU_ne _ _ (by omega)]) ⟨by rw [e4, yU_ne _ _ (by omega), e3, yU_ne _ _ (by omega), e2, yU_ne _ _ (by omega), e1, yU_eq], by rw [e4, yU_ne _ _ (by omega), e3, yU_ne _ _ (by omega), e2, yU_eq], by rw [e4, yU_ne _ _ (by omega), e3, yU_eq], by rw [e4, yU_eq]⟩ (fun i hi => absurd hi (Nat.not_lt_zero _)))
/-- Land.read -/
theorem x_14 (hT : yLT T) (hR : yLR R) (hp : yAtLand T R p0) (g3 : 3 ≤ p0) (h : cRd I t n lim 0) (hn : n ≤ 940) (hl : lim ≤ 940) (ht : I 2 = t)
    (hf : ∀ f I', kAll (tk t n lim) 941 Ld0 0 0 = .inl f → cFl2 p0 I I' → cFl I' f → K (some (yi (-1))) (N, T, R, I'))
    (ho : ∀ S' (c : Nat) I', kAll (tk t n lim) 941 Ld0 0 0 = .inr (S', c) → c ≤ 940 → cFl2 p0 I I' → I' 1 10 = 0 → cLr I' p0 S' → K (some (yi (c : Int))) (N, T, R, I')) :
    yW l zSS D cy zFk z (d + 10) 14 bc bs K 0 0 0 [(0, yr (some p0)), (1, yr (some 1))] [] (N, T, R, I) := by
  obtain ⟨G, hG⟩ : ∃ G, kAll (tk t n lim) 941 Ld0 0 0 = G := ⟨_, rfl⟩
  rw [hG] at hf ho
  have loop : ∀ (m c p : Nat) (S : Ld) (X : Nat → Nat → Int), c + m = 941 → c ≤ p → p ≤ n → cFl2 p0 I X → cRd X t n lim p → cLr X p0 S → G = kAll (tk t n lim) m S c p → yW l zSS D cy zFk z (d + 10) 14 bc bs K 0 0 6 [(0, yr (some p0)), (1, yr (some 1)), (2, yi (c : Int))] [] (N, T, R, X) := by
    intro m
    induction m with
    | zero => intro c p S X hm cp pn; omega
    | succ m ih =>
      intro c p S X hm cp pn fX r L ek
      have t0 : X 2 = t := by rw [← ht]; exact funext fun j => fX 2 j (by omega) (by omega)
      obtain ⟨k, -, g1', -, -, -, g5, g0, -⟩ := cTk_tk r.2.2
      obtain ⟨-, o1, o2, -, o3, o4⟩ := tk_ok (t := t) (lim := lim) pn
      rw [kAll] at ek
      -- it ends here
      have stop : (X 1 5 = 0 ∨ 940 ≤ c) → yW l zSS D cy zFk z (d + 9) 33 0 0 (fun r h' => ∃ r3 I2, r = some (yi r3) ∧ h' = (N, T, R, I2) ∧ ((r3 = 0 → K (some (yi (-1))) (N, T, R, I2)) ∧ (¬ (r3 = 0) → K (some (yi (c : Int))) (N, T, R, I2)))) 0 0 0 [(0, yr (some 1))] [] (N, T, R, X) := by
        intro e
        refine x_33 hT hR r (fun I' nz f fl => ⟨_, _, rfl, rfl, fun _ => hf _ I' ?_ (cFl2_tr fX (cFl2_of f)) fl, fun q => absurd rfl q⟩) (fun z => ⟨_, _, rfl, rfl, fun q => absurd q (by decide), fun _ => ho S c X (by rw [ek, if_pos z]) (by omega) fX r.2.1.2 L⟩)
        rw [ek, if_neg nz]
        have n1 : (tk t n lim p).1 ≠ 1 := by
          rcases e with e | e
          · intro q
            have := g1'
            obtain ⟨-, -, -, g2, -⟩ := cTk_tk r.2.2
            have := g2.mpr q
            omega
          · have := o4 (by omega)
            omega
        unfold kLine
        rw [if_pos n1]
      refine B_14_6 hT hR hp ⟨fun c0 => stop (.inl c0), fun c0 => ⟨fun c1 => stop (.inr (by omega)), fun c1 => ?_⟩⟩
      have nz : (tk t n lim p).1 ≠ 0 := fun q => c0 (g0.mp q).1
      rw [if_neg nz] at ek
      refine x_19 hT hR hp g3 r hn hl t0 L ⟨fun f I' e a b => ⟨_, _, rfl, rfl, fun _ => hf f I' (by rw [ek, e]) (cFl2_tr fX a) b, fun q => absurd rfl q⟩, fun S' p' I1 e a r1 L1 => ⟨_, _, rfl, rfl, fun q => absurd q (by decide), fun _ => ?_⟩⟩
      have go := kLine_go (tk_go t n lim) pn e
      rw [e] at ek
      dsimp only at ek
      have f1 := cFl2_tr fX a
      have t1 : I1 2 = t := by rw [← ht]; exact funext fun j => f1 2 j (by omega) (by omega)
      refine x_43 hT hR r1 hn hl t1 (fun f I' e2 f2 fl => ⟨_, _, rfl, rfl, fun q => absurd rfl q, fun _ => hf f I' (by rw [ek, e2]) (cFl2_tr f1 (cFl2_of f2)) fl⟩) (fun p2 I2 e2 f2 r2 => ⟨_, _, rfl, rfl, fun _ => ?_, fun q => absurd (by decide : (1 : Int) ≠ 0) q⟩)
      have lt : p' < p2 ∧ p2 ≤ n := by
        obtain ⟨-, q1, q2, -, q3, -⟩ := tk_ok (t := t) (lim := lim) go.2
        unfold kSign at e2
        split at e2
        · rename_i w
          cases e2
          exact ⟨q3 w.1, q2⟩
        · cases e2
      rw [e2] at ek
      dsimp only at ek
      have := ih (c + 1) p2 S' I2 (by omega) (by omega) lt.2 (cFl2_tr f1 (cFl2_of f2)) r2 (cLr_fr L1 g3 f2) ek
      rw [yadd_eq (by omega) (by omega)]
      exact this
  refine B_14_0 hT hR hp (x_7 hT hR hp (fun I1 f1 L1 => ⟨_, rfl, rfl, ?_⟩))
  exact loop 941 0 0 Ld0 I1 rfl (Nat.zero_le _) (Nat.zero_le _) (fun x y _ b => f1 x y b) (cRd_cg h (fun b => f1 1 b (by omega))) L1 hG.symm
end Xj
