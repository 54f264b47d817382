/-! SENTENCE of the class, to the letter -/
section Xs
variable {l : Launch} {D : va_G} {cy : Nat → ClassId} {z d bc bs N : Nat} {T : Nat → Nat × Nat} {R : Nat → Nat → Option Nat} {I : Nat → Nat → Int} {K : yKo} {t : Nat → Int} {n lim p p0 ch e : Nat} {nm : Nat → Int} {c : Sn}
/-- the class's Sentence holds what is read -/
def cSe (I : Nat → Nat → Int) (p0 : Nat) (c : Sn) : Prop := I p0 0 = (c.2.1 : Int) ∧ I p0 4 = (c.1 : Int) ∧ ∀ i, i < c.2.1 → I (p0 + 1) i = (c.2.2 i).1 ∧ I (p0 + 2) i = (c.2.2 i).2.1 ∧ I (p0 + 3) i = (c.2.2 i).2.2
/-- what reading a SENTENCE may change -/
def cFs (p0 : Nat) (I I' : Nat → Nat → Int) : Prop := ∀ a b, ¬ (a = 1 ∧ 3 ≤ b ∧ b ≤ 11) → ¬ (p0 ≤ a ∧ a < p0 + 4) → I' a b = I a b
theorem cFs_of {I' : Nat → Nat → Int} (h : cFr I I') : cFs p0 I I' := fun a b g _ => h a b g
theorem cFs_tr {J L : Nat → Nat → Int} (h : cFs p0 I J) (g : cFs p0 J L) : cFs p0 I L := fun a b u v => (g a b u v).trans (h a b u v)
theorem cFs_ob {I' : Nat → Nat → Int} (h : ∀ a b, ¬ (p0 ≤ a ∧ a < p0 + 4) → I' a b = I a b) : cFs p0 I I' := fun a b _ g => h a b g
theorem cSe_fr {I' : Nat → Nat → Int} (g : 16 ≤ p0) (h : cFr I I') (L : cSe I p0 c) : cSe I' p0 c :=
  ⟨by rw [h _ _ (by omega)]; exact L.1, by rw [h _ _ (by omega)]; exact L.2.1, fun i hi => by rw [h _ _ (by omega), h _ _ (by omega), h _ _ (by omega)]; exact L.2.2 i hi⟩
theorem cNm_fs {I' : Nat → Nat → Int} (g : 16 ≤ p0) (h : cFs p0 I I') (L : cNm I 4 ch nm) : cNm I' 4 ch nm :=
  ⟨by rw [h 4 5 (by omega) (by omega)]; exact L.1, fun i hi => by rw [h 8 i (by omega) (by omega)]; exact L.2 i hi⟩
theorem cFs_2 {I' : Nat → Nat → Int} (g : 16 ≤ p0) (h : cFs p0 I I') (ht : I 2 = t) : I' 2 = t := by
  rw [← ht]
  exact funext fun j => h 2 j (by omega) (by omega)
theorem cFl_fs {I' : Nat → Nat → Int} {f : Int × Nat} (g : 16 ≤ p0) (h : ∀ a b, ¬ (p0 ≤ a ∧ a < p0 + 4) → I' a b = I a b) (q : cFl I f) : cFl I' f :=
  ⟨by rw [h 1 10 (by omega)]; exact q.1, by rw [h 1 11 (by omega)]; exact q.2⟩
theorem cRd_ob {I' : Nat → Nat → Int} (g : 16 ≤ p0) (h : ∀ a b, ¬ (p0 ≤ a ∧ a < p0 + 4) → I' a b = I a b) (q : cRd I t n lim p) : cRd I' t n lim p := cRd_cg q (fun b => h 1 b (by omega))
/-- Sentence.add -/
theorem x_46 (hT : yLT T) (hR : yLR R) (hp : yAtSentence T R p0) (L : cSe I p0 c) (h40 : c.2.1 < 40) {w s v : Int} (hw : -1 ≤ w ∧ w < 1000) (hs : -1 ≤ s ∧ s < 1000) (hv : -1 ≤ v ∧ v < 1000)
    (hk : ∀ I', (∀ a b, ¬ (p0 ≤ a ∧ a < p0 + 4) → I' a b = I a b) → cSe I' p0 (sAdd c w s v) → K none (N, T, R, I')) :
    yW l zSS D cy zFk z d 46 bc bs K 0 0 0 [(0, yr (some p0)), (1, yi w), (2, yi s), (3, yi v)] [] (N, T, R, I) := by
  have s0 : I p0 0 = ((c.2.1 : Nat) : Int) := L.1
  have tn : ((c.2.1 : Int)).toNat = c.2.1 := by omega
  refine B_46_0 hT hR hp ?_
  rw [s0, tn]
  refine ⟨fun q => absurd q (by omega), fun _ => ⟨fun q => absurd q (by omega), fun _ => ⟨by omega, by omega, fun I5 e5 => ?_⟩⟩⟩
  have s5 : I5 p0 0 = ((c.2.1 : Nat) : Int) := by rw [e5, yU_ne _ _ (by omega)]; exact s0
  rw [s5, tn]
  refine ⟨by omega, by omega, fun I8 e8 => ?_⟩
  have s8 : I8 p0 0 = ((c.2.1 : Nat) : Int) := by rw [e8, yU_ne _ _ (by omega)]; exact s5
  rw [s8, tn]
  refine ⟨by omega, by omega, fun I11 e11 I12 e12 => ?_⟩
  have s11 : I11 p0 0 = ((c.2.1 : Nat) : Int) := by rw [e11, yU_ne _ _ (by omega)]; exact s8
  have fr : ∀ x y, ¬ (x = p0 ∧ y = 0) → ¬ ((x = p0 + 1 ∨ x = p0 + 2 ∨ x = p0 + 3) ∧ y = c.2.1) → I12 x y = I x y := fun x y a b => by rw [e12, yU_ne _ _ a, e11, yU_ne _ _ (by omega), e8, yU_ne _ _ (by omega), e5, yU_ne _ _ (by omega)]
  have q0 : I12 p0 0 = (c.2.1 : Int) + 1 := by rw [e12, yU_eq, s11, yadd_eq (by omega) (by omega)]
  have a1 : I12 (p0 + 1) c.2.1 = w := by rw [e12, yU_ne _ _ (by omega), e11, yU_ne _ _ (by omega), e8, yU_ne _ _ (by omega), e5, yU_eq, ynar1_eq (by omega) (by omega)]
  have a2 : I12 (p0 + 2) c.2.1 = s := by rw [e12, yU_ne _ _ (by omega), e11, yU_ne _ _ (by omega), e8, yU_eq, ynar1_eq (by omega) (by omega)]
  have a3 : I12 (p0 + 3) c.2.1 = v := by rw [e12, yU_ne _ _ (by omega), e11, yU_eq, ynar1_eq (by omega) (by omega)]
  refine hk I12 (fun a b g => fr a b (by omega) (by omega)) ⟨?_, ?_, fun i hi => ?_⟩
  · show I12 p0 0 = ((c.2.1 + 1 : Nat) : Int)
    omega
  · show I12 p0 4 = (c.1 : Int)
    rw [fr p0 4 (by omega) (by omega)]; exact L.2.1
  · have hi : i < c.2.1 + 1 := hi
    show I12 (p0 + 1) i = (if i = c.2.1 then (w, s, v) else c.2.2 i).1 ∧ I12 (p0 + 2) i = (if i = c.2.1 then (w, s, v) else c.2.2 i).2.1 ∧ I12 (p0 + 3) i = (if i = c.2.1 then (w, s, v) else c.2.2 i).2.2
    by_cases q : i = c.2.1
    · rw [if_pos q, q]; exact ⟨a1, a2, a3⟩
    · rw [if_neg q, fr _ i (by omega) (by omega), fr _ i (by omega) (by omega), fr _ i (by omega) (by omega)]
      exact L.2.2 i (by omega)
/-- Sentence.readPlain -/
theorem x_54 (hT : yLT T) (hR : yLR R) (hp : yAtSentence T R p0) (gp : 16 ≤ p0) (h : cRd I t n lim p) (hn : n ≤ 940) (hl : lim ≤ 940) (ht : I 2 = t) (L : cNm I 4 ch nm) (Lc : cSe I p0 c) (h40 : c.2.1 < 40) {w : Int} (hw : w = 7 ∨ (9 ≤ w ∧ w ≤ 11) ∨ (19 ≤ w ∧ w ≤ 23))
    (hf : ∀ f I', kPlain (tk t n lim) (nLd ch nm) c w p = .inl f → cFs p0 I I' → cFl I' f → K (some (yi 0)) (N, T, R, I'))
    (ho : ∀ c' p' I', kPlain (tk t n lim) (nLd ch nm) c w p = .inr (c', p') → cFs p0 I I' → cRd I' t n lim p' → cSe I' p0 c' → K (some (yi 1)) (N, T, R, I')) :
    yW l zSS D cy zFk z (d + 7) 54 bc bs K 0 0 0 [(0, yr (some p0)), (1, yr (some 1)), (2, yr (some 4)), (3, yi w)] [] (N, T, R, I) := by
  obtain ⟨-, -, -, -, -, -, -, -, -, -, g9, -⟩ := cTk_tk h.2.2
  have c8 := L.1.2
  have l12 : (w = 19 ∨ w = 7) → yW l zSS D cy zFk z (d + 7) 54 bc bs K 0 0 12 [(0, yr (some p0)), (3, yi w)] [] (N, T, R, I) := fun cw =>
    B_54_12 hT hR hp (x_46 hT hR hp Lc h40 (by omega) (by omega) (by omega) (fun I1 f1 s1 => ⟨_, rfl, rfl, ho _ p I1 (by unfold kPlain; rw [if_pos cw]) (cFs_ob f1) (cRd_ob gp f1 h) s1⟩))
  have l95 : ¬ (w = 19 ∨ w = 7) → ¬ w = 20 → (kIsS (tk t n lim) 60 p ∨ kIsS (tk t n lim) 61 p ∨ kIsS (tk t n lim) 62 p) → yW l zSS D cy zFk z (d + 7) 54 bc bs K 0 0 95 [(0, yr (some p0)), (1, yr (some 1)), (3, yi w), (4, yi (I 1 9))] [] (N, T, R, I) := by
    intro nw n20 cs
    have w3 : (tk t n lim p).1 = 3 := by rcases cs with q | q | q <;> exact q.1
    have e9 := g9 w3
    have vs : (tk t n lim p).2.2.1 = 60 ∨ (tk t n lim p).2.2.1 = 61 ∨ (tk t n lim p).2.2.1 = 62 := by
      rcases cs with q | q | q
      · exact .inl q.2
      · exact .inr (.inl q.2)
      · exact .inr (.inr q.2)
    have nn : ¬ ¬ (kIsS (tk t n lim) 60 p ∨ kIsS (tk t n lim) 61 p ∨ kIsS (tk t n lim) 62 p) := fun q => q cs
    rw [e9]
    refine B_54_95 hT hR hp (x_adv hT hR h hn hl ht (fun I1 f1 r1 => ⟨_, rfl, rfl, ?_⟩))
    refine x_42 hT hR r1 hn hl (cRd_2 f1 ht) (fun f I2 e2 f2 fl => ⟨_, _, rfl, rfl, ?_⟩) (fun v p2 I2 e2 f2 r2 v0 v1 _ _ => ⟨_, _, rfl, rfl, ?_⟩)
    · refine x_46 hT hR hp (cSe_fr gp (cFr_tr f1 f2) Lc) h40 (by omega) (by omega) (by omega) (fun I4 f4 _ => ⟨_, rfl, rfl, fun _ => hf f I4 (by unfold kPlain; rw [if_neg nw, if_neg n20, if_neg nn, e2]) (cFs_tr (cFs_of (cFr_tr f1 f2)) (cFs_ob f4)) (cFl_fs gp f4 fl), fun q => absurd rfl q⟩)
    · refine x_46 hT hR hp (cSe_fr gp (cFr_tr f1 f2) Lc) h40 (by omega) (by omega) (by omega) (fun I4 f4 s4 => ⟨_, rfl, rfl, fun q => absurd q (by omega), fun _ => ho _ p2 I4 (by unfold kPlain; rw [if_neg nw, if_neg n20, if_neg nn, e2]) (cFs_tr (cFs_of (cFr_tr f1 f2)) (cFs_ob f4)) (cRd_ob gp f4 r2) s4⟩)
  refine B_54_0 hT hR hp ⟨fun q => l12 (.inl q), fun n19 => ⟨fun n7 => ⟨fun n20 => ?_, fun q => ?_⟩, fun q => ?_⟩⟩
  · have nw : ¬ (w = 19 ∨ w = 7) := fun q => q.elim n19 n7
    refine x_38 hT hR h (fun r hr => ⟨_, _, rfl, rfl, fun q => ?_, fun q => ?_⟩)
    · rcases hr with ⟨_, a⟩ | ⟨q0, _⟩
      · exact l95 nw n20 (.inl a)
      · exact absurd q0 q
    · rcases hr with ⟨q1, _⟩ | ⟨_, na⟩
      · exact absurd (show r ≠ 0 by omega) q
      · refine x_38 hT hR h (fun r hr => ⟨_, _, rfl, rfl, fun q => ?_, fun q => ?_⟩)
        · rcases hr with ⟨_, a⟩ | ⟨q0, _⟩
          · exact l95 nw n20 (.inr (.inl a))
          · exact absurd q0 q
        · rcases hr with ⟨q1, _⟩ | ⟨_, nb⟩
          · exact absurd (show r ≠ 0 by omega) q
          · refine x_38 hT hR h (fun r hr => ⟨_, _, rfl, rfl, fun q => ?_, fun q => ?_⟩)
            · rcases hr with ⟨_, a⟩ | ⟨q0, _⟩
              · exact l95 nw n20 (.inr (.inr a))
              · exact absurd q0 q
            · rcases hr with ⟨q1, _⟩ | ⟨_, nc⟩
              · exact absurd (show r ≠ 0 by omega) q
              · have ns : ¬ (kIsS (tk t n lim) 60 p ∨ kIsS (tk t n lim) 61 p ∨ kIsS (tk t n lim) 62 p) := fun q => q.elim na (fun q => q.elim nb nc)
                exact x_34 hT hR h (fun I' f fl => ⟨_, _, rfl, rfl, .inl rfl, hf _ I' (by unfold kPlain; rw [if_neg nw, if_neg n20, if_pos ns]) (cFs_of f) fl⟩)
  · have q20 : w = 20 := by omega
    have nw : ¬ (w = 19 ∨ w = 7) := by omega
    refine x_21n hT hR (a_Land4 hT hR) h L (fun f I1 e1 f1 fl => ⟨_, _, rfl, rfl, fun q => absurd rfl q, fun _ => hf f I1 (by unfold kPlain; rw [if_neg nw, if_pos q20, e1]) (cFs_of f1) fl⟩) (fun c' e1 cc => ⟨_, _, rfl, rfl, fun _ => ?_, fun q => absurd (show (c' : Int) ≠ -1 by omega) q⟩)
    refine x_adv hT hR h hn hl ht (fun I1 f1 r1 => ⟨_, rfl, rfl, ?_⟩)
    exact x_46 hT hR hp (cSe_fr gp f1 Lc) h40 (by omega) (by omega) (by omega) (fun I4 f4 s4 => ⟨_, rfl, rfl, ho _ _ I4 (by unfold kPlain; rw [if_neg nw, if_pos q20, e1]) (cFs_tr (cFs_of f1) (cFs_ob f4)) (cRd_ob gp f4 r1) s4⟩)
  · exact l12 (.inr (by omega))
/-- readOne's contract, so many more within one another -/
def cOne (l : Launch) (D : va_G) (cy : Nat → ClassId) (z N : Nat) (T : Nat → Nat × Nat) (R : Nat → Nat → Option Nat) (t : Nat → Int) (n lim ch : Nat) (nm : Nat → Int) (p0 e : Nat) : Prop := ∀ d : Nat, 3 * e ≤ d → ∀ (K : yKo) (I : Nat → Nat → Int) (c : Sn) (p : Nat) (x3 : Int), x3 = 9 - (e : Int) → cRd I t n lim p → I 2 = t → cNm I 4 ch nm → cSe I p0 c → c.1 ≤ 20 → c.2.1 ≤ 2 * c.1 → p ≤ n →
  (∀ f I', kOne (tk t n lim) (nLd ch nm) e c p = .inl f → cFs p0 I I' → cFl I' f → K (some (yi 0)) (N, T, R, I')) →
  (∀ c' p' I', kOne (tk t n lim) (nLd ch nm) e c p = .inr (c', p') → cFs p0 I I' → cRd I' t n lim p' → cSe I' p0 c' → K (some (yi 1)) (N, T, R, I')) →
  yW l zSS D cy zFk z (d + 8) 53 0 0 K 0 0 0 [(0, yr (some p0)), (1, yr (some 1)), (2, yr (some 4)), (3, yi x3)] [] (N, T, R, I)
/-- Sentence.readAll -/
theorem x_51 (hT : yLT T) (hR : yLR R) (hp : yAtSentence T R p0) (gp : 16 ≤ p0 ∧ p0 + 4 ≤ 102) (h : cRd I t n lim p) (hn : n ≤ 940) (hl : lim ≤ 940) (ht : I 2 = t) (L : cNm I 4 ch nm) (Lc : cSe I p0 c) (h20 : c.1 ≤ 20) (h40 : c.2.1 ≤ 2 * c.1) (pn : p ≤ n) (he : 3 * e ≤ d) (H : cOne l D cy z N T R t n lim ch nm p0 e) {x3 : Int} (hx : x3 = 9 - (e : Int))
    (hf : ∀ f I', kSeq (tk t n lim) (kOne (tk t n lim) (nLd ch nm) e) 17 c p = .inl f → cFs p0 I I' → cFl I' f → K (some (yi 0)) (N, T, R, I'))
    (ho : ∀ c' p' I', kSeq (tk t n lim) (kOne (tk t n lim) (nLd ch nm) e) 17 c p = .inr (c', p') → cFs p0 I I' → cRd I' t n lim p' → cSe I' p0 c' → K (some (yi 1)) (N, T, R, I')) :
    yW l zSS D cy zFk z (d + 9) 51 bc bs K 0 0 0 [(0, yr (some p0)), (1, yr (some 1)), (2, yr (some 4)), (3, yi x3)] [] (N, T, R, I) := by
  obtain ⟨one, hone⟩ : ∃ one, (kOne (tk t n lim) (nLd ch nm) e) = one := ⟨_, rfl⟩
  have gd : sGd n one := by rw [← hone]; exact kOne_gd (tk_go t n lim) e
  rw [hone] at hf ho
  obtain ⟨G, hG⟩ : ∃ G, kSeq (tk t n lim) one 17 c p = G := ⟨_, rfl⟩
  rw [hG] at hf ho
  have bad : ∀ (f : Int × Nat) (X : Nat → Nat → Int) (x5 : Int), G = .inl f → cFs p0 I X → cFl X f → yW l zSS D cy zFk z (d + 9) 51 bc bs K 0 0 12 [(0, yr (some p0)), (1, yr (some 1)), (2, yr (some 4)), (3, yi x3), (4, yi 0), (5, yi x5)] [] (N, T, R, X) := fun f X x5 eG fX fl =>
    B_51_12 hT hR hp ⟨fun _ => ⟨.inl rfl, hf f X eG fX fl⟩, fun _ => ⟨fun _ => ⟨.inl rfl, hf f X eG fX fl⟩, fun q => absurd rfl q⟩⟩
  have loop : ∀ (m i : Nat) (c : Sn) (p : Nat) (X : Nat → Nat → Int), i + m = 20 → c.1 ≤ 20 → c.2.1 ≤ 2 * c.1 → p ≤ n → cFs p0 I X → cRd X t n lim p → cSe X p0 c → G = kLoop (tk t n lim) one 17 m c p → yW l zSS D cy zFk z (d + 9) 51 bc bs K 0 0 12 [(0, yr (some p0)), (1, yr (some 1)), (2, yr (some 4)), (3, yi x3), (4, yi 1), (5, yi (i : Int))] [] (N, T, R, X) := by
    intro m
    induction m with
    | zero =>
      intro i c p X hi c20 c40 pn fX r sX ek
      rw [kLoop] at ek
      exact B_51_12 hT hR hp ⟨fun _ => ⟨.inr rfl, ho c p X ek fX r sX⟩, fun q => absurd (by omega) q⟩
    | succ m ih =>
      intro i c p X hi c20 c40 pn fX r sX ek
      rw [kLoop] at ek
      refine B_51_12 hT hR hp ⟨fun q => absurd q (by omega), fun _ => ⟨fun q => absurd q (by decide), fun _ => x_39 hT hR r (by decide) (fun rr hr => ⟨_, _, rfl, rfl, fun q => ?_, fun q => ?_⟩)⟩⟩
      · rcases hr with ⟨q1, _⟩ | ⟨_, nw⟩
        · exact absurd q (by omega)
        · have nw : ¬ kIsW (tk t n lim) 17 17 p := nw
          rw [if_neg nw] at ek
          exact ⟨.inr rfl, ho c p X ek fX r sX⟩
      · rcases hr with ⟨_, iw⟩ | ⟨q0, _⟩
        · have iw : kIsW (tk t n lim) 17 17 p := iw
          rw [if_pos iw] at ek
          have pn2 : (tk t n lim p).2.2.2 ≤ n := (tk_go t n lim p pn).2
          refine x_adv hT hR r hn hl (cFs_2 gp.1 fX ht) (fun I6 f6 r6 => ⟨_, rfl, rfl, ?_⟩)
          have F6 : cFs p0 I I6 := cFs_tr fX (cFs_of f6)
          have badk : ∀ f I7, one c (tk t n lim p).2.2.2 = .inl f → cFs p0 I6 I7 → cFl I7 f → ∃ r8 I8, some (yi 0) = some (yi r8) ∧ (N, T, R, I7) = (N, T, R, I8) ∧ yW l zSS D cy zFk z (d + 8) 46 0 0 (fun r h' => ∃ I9, r = none ∧ h' = (N, T, R, I9) ∧ (yW l zSS D cy zFk z (d + 9) 51 bc bs K 0 0 12 [(0, yr (some p0)), (1, yr (some 1)), (2, yr (some 4)), (3, yi x3), (4, yi r8), (5, yi (yadd (i : Int) 1))] [] (N, T, R, I9))) 0 0 0 [(0, yr (some p0)), (1, yi 17), (2, yi 0), (3, yi 0)] [] (N, T, R, I8) := by
            intro f I7 e7 f7 fl
            refine ⟨_, _, rfl, rfl, w_46 hT hR hp (by omega) (fun I9 f9 _ => ⟨_, rfl, rfl, ?_⟩)⟩
            rw [e7] at ek
            exact bad f I9 _ ek (cFs_tr F6 (cFs_tr f7 (cFs_ob f9))) (cFl_fs gp.1 f9 fl)
          have okk : ∀ c' p' I7, one c (tk t n lim p).2.2.2 = .inr (c', p') → cFs p0 I6 I7 → cRd I7 t n lim p' → cSe I7 p0 c' → ∃ r8 I8, some (yi 1) = some (yi r8) ∧ (N, T, R, I7) = (N, T, R, I8) ∧ yW l zSS D cy zFk z (d + 8) 46 0 0 (fun r h' => ∃ I9, r = none ∧ h' = (N, T, R, I9) ∧ (yW l zSS D cy zFk z (d + 9) 51 bc bs K 0 0 12 [(0, yr (some p0)), (1, yr (some 1)), (2, yr (some 4)), (3, yi x3), (4, yi r8), (5, yi (yadd (i : Int) 1))] [] (N, T, R, I9))) 0 0 0 [(0, yr (some p0)), (1, yi 17), (2, yi 0), (3, yi 0)] [] (N, T, R, I8) := by
            intro c' p' I7 e7 f7 r7 s7
            obtain ⟨a1, a2, a3, a4⟩ := gd c _ c' p' pn2 e7
            refine ⟨_, _, rfl, rfl, x_46 hT hR hp s7 (by omega) (by omega) (by omega) (by omega) (fun I9 f9 s9 => ⟨_, rfl, rfl, ?_⟩)⟩
            rw [e7] at ek
            have ek : G = kLoop (tk t n lim) one 17 m (sAdd c' 17 0 0) p' := ek
            have s40 : (sAdd c' 17 0 0).2.1 ≤ 2 * (sAdd c' 17 0 0).1 := by show c'.2.1 + 1 ≤ 2 * c'.1; omega
            have := ih (i + 1) (sAdd c' 17 0 0) p' I9 (by omega) a2 s40 a4 (cFs_tr F6 (cFs_tr f7 (cFs_ob f9))) (cRd_ob gp.1 f9 r7) s9 ek
            rw [yadd_eq (by omega) (by omega)]
            exact this
          refine H d (by omega) _ _ c _ x3 hx r6 (cFs_2 gp.1 F6 ht) (cNm_fs gp.1 F6 L) (cSe_fr gp.1 f6 sX) c20 c40 pn2 (fun f I7 e7 f7 fl => badk f I7 (by rw [← hone]; exact e7) f7 fl) (fun c' p' I7 e7 f7 r7 s7 => okk c' p' I7 (by rw [← hone]; exact e7) f7 r7 s7)
        · exact absurd q0 q
  refine B_51_0 hT hR hp ?_
  rw [kSeq] at hG
  refine H d (by omega) _ _ c _ x3 hx h ht L Lc h20 h40 pn (fun f I7 e7 f7 fl => ⟨_, _, rfl, rfl, ?_⟩) (fun c' p' I7 e7 f7 r7 s7 => ⟨_, _, rfl, rfl, ?_⟩)
  · rw [hone] at e7
    rw [e7] at hG
    exact bad f I7 _ hG.symm f7 fl
  · rw [hone] at e7
    rw [e7] at hG
    obtain ⟨a1, a2, a3, a4⟩ := gd c p c' p' pn e7
    exact loop 20 0 c' p' I7 rfl a2 (by omega) a4 f7 r7 s7 hG.symm

/-- Sentence.readCond -/
theorem x_52 (hT : yLT T) (hR : yLR R) (hp : yAtSentence T R p0) (gp : 16 ≤ p0 ∧ p0 + 4 ≤ 102) (h : cRd I t n lim p) (hn : n ≤ 940) (hl : lim ≤ 940) (ht : I 2 = t) (L : cNm I 4 ch nm) (Lc : cSe I p0 c) (h20 : c.1 ≤ 20) (h40 : c.2.1 ≤ 2 * c.1) (pn : p ≤ n) (he : 3 * e ≤ d) (H : cOne l D cy z N T R t n lim ch nm p0 e) {x3 : Int} (hx : x3 = 9 - (e : Int))
    (hf : ∀ f I', kSeq (tk t n lim) (kSeq (tk t n lim) (kOne (tk t n lim) (nLd ch nm) e) 17) 16 c p = .inl f → cFs p0 I I' → cFl I' f → K (some (yi 0)) (N, T, R, I'))
    (ho : ∀ c' p' I', kSeq (tk t n lim) (kSeq (tk t n lim) (kOne (tk t n lim) (nLd ch nm) e) 17) 16 c p = .inr (c', p') → cFs p0 I I' → cRd I' t n lim p' → cSe I' p0 c' → K (some (yi 1)) (N, T, R, I')) :
    yW l zSS D cy zFk z (d + 10) 52 bc bs K 0 0 0 [(0, yr (some p0)), (1, yr (some 1)), (2, yr (some 4)), (3, yi x3)] [] (N, T, R, I) := by
  obtain ⟨one, hone⟩ : ∃ one, (kSeq (tk t n lim) (kOne (tk t n lim) (nLd ch nm) e) 17) = one := ⟨_, rfl⟩
  have gd : sGd n one := by rw [← hone]; exact kSeq_gd (tk_go t n lim) (kOne_gd (tk_go t n lim) e) 17
  rw [hone] at hf ho
  obtain ⟨G, hG⟩ : ∃ G, kSeq (tk t n lim) one 16 c p = G := ⟨_, rfl⟩
  rw [hG] at hf ho
  have bad : ∀ (f : Int × Nat) (X : Nat → Nat → Int) (x5 : Int), G = .inl f → cFs p0 I X → cFl X f → yW l zSS D cy zFk z (d + 10) 52 bc bs K 0 0 12 [(0, yr (some p0)), (1, yr (some 1)), (2, yr (some 4)), (3, yi x3), (4, yi 0), (5, yi x5)] [] (N, T, R, X) := fun f X x5 eG fX fl =>
    B_52_12 hT hR hp ⟨fun _ => ⟨.inl rfl, hf f X eG fX fl⟩, fun _ => ⟨fun _ => ⟨.inl rfl, hf f X eG fX fl⟩, fun q => absurd rfl q⟩⟩
  have loop : ∀ (m i : Nat) (c : Sn) (p : Nat) (X : Nat → Nat → Int), i + m = 20 → c.1 ≤ 20 → c.2.1 ≤ 2 * c.1 → p ≤ n → cFs p0 I X → cRd X t n lim p → cSe X p0 c → G = kLoop (tk t n lim) one 16 m c p → yW l zSS D cy zFk z (d + 10) 52 bc bs K 0 0 12 [(0, yr (some p0)), (1, yr (some 1)), (2, yr (some 4)), (3, yi x3), (4, yi 1), (5, yi (i : Int))] [] (N, T, R, X) := by
    intro m
    induction m with
    | zero =>
      intro i c p X hi c20 c40 pn fX r sX ek
      rw [kLoop] at ek
      exact B_52_12 hT hR hp ⟨fun _ => ⟨.inr rfl, ho c p X ek fX r sX⟩, fun q => absurd (by omega) q⟩
    | succ m ih =>
      intro i c p X hi c20 c40 pn fX r sX ek
      rw [kLoop] at ek
      refine B_52_12 hT hR hp ⟨fun q => absurd q (by omega), fun _ => ⟨fun q => absurd q (by decide), fun _ => x_39 hT hR r (by decide) (fun rr hr => ⟨_, _, rfl, rfl, fun q => ?_, fun q => ?_⟩)⟩⟩
      · rcases hr with ⟨q1, _⟩ | ⟨_, nw⟩
        · exact absurd q (by omega)
        · have nw : ¬ kIsW (tk t n lim) 16 16 p := nw
          rw [if_neg nw] at ek
          exact ⟨.inr rfl, ho c p X ek fX r sX⟩
      · rcases hr with ⟨_, iw⟩ | ⟨q0, _⟩
        · have iw : kIsW (tk t n lim) 16 16 p := iw
          rw [if_pos iw] at ek
          have pn2 : (tk t n lim p).2.2.2 ≤ n := (tk_go t n lim p pn).2
          refine x_adv hT hR r hn hl (cFs_2 gp.1 fX ht) (fun I6 f6 r6 => ⟨_, rfl, rfl, ?_⟩)
          have F6 : cFs p0 I I6 := cFs_tr fX (cFs_of f6)
          have badk : ∀ f I7, one c (tk t n lim p).2.2.2 = .inl f → cFs p0 I6 I7 → cFl I7 f → ∃ r8 I8, some (yi 0) = some (yi r8) ∧ (N, T, R, I7) = (N, T, R, I8) ∧ yW l zSS D cy zFk z (d + 9) 46 0 0 (fun r h' => ∃ I9, r = none ∧ h' = (N, T, R, I9) ∧ (yW l zSS D cy zFk z (d + 10) 52 bc bs K 0 0 12 [(0, yr (some p0)), (1, yr (some 1)), (2, yr (some 4)), (3, yi x3), (4, yi r8), (5, yi (yadd (i : Int) 1))] [] (N, T, R, I9))) 0 0 0 [(0, yr (some p0)), (1, yi 16), (2, yi 0), (3, yi 0)] [] (N, T, R, I8) := by
            intro f I7 e7 f7 fl
            refine ⟨_, _, rfl, rfl, w_46 hT hR hp (by omega) (fun I9 f9 _ => ⟨_, rfl, rfl, ?_⟩)⟩
            rw [e7] at ek
            exact bad f I9 _ ek (cFs_tr F6 (cFs_tr f7 (cFs_ob f9))) (cFl_fs gp.1 f9 fl)
          have okk : ∀ c' p' I7, one c (tk t n lim p).2.2.2 = .inr (c', p') → cFs p0 I6 I7 → cRd I7 t n lim p' → cSe I7 p0 c' → ∃ r8 I8, some (yi 1) = some (yi r8) ∧ (N, T, R, I7) = (N, T, R, I8) ∧ yW l zSS D cy zFk z (d + 9) 46 0 0 (fun r h' => ∃ I9, r = none ∧ h' = (N, T, R, I9) ∧ (yW l zSS D cy zFk z (d + 10) 52 bc bs K 0 0 12 [(0, yr (some p0)), (1, yr (some 1)), (2, yr (some 4)), (3, yi x3), (4, yi r8), (5, yi (yadd (i : Int) 1))] [] (N, T, R, I9))) 0 0 0 [(0, yr (some p0)), (1, yi 16), (2, yi 0), (3, yi 0)] [] (N, T, R, I8) := by
            intro c' p' I7 e7 f7 r7 s7
            obtain ⟨a1, a2, a3, a4⟩ := gd c _ c' p' pn2 e7
            refine ⟨_, _, rfl, rfl, x_46 hT hR hp s7 (by omega) (by omega) (by omega) (by omega) (fun I9 f9 s9 => ⟨_, rfl, rfl, ?_⟩)⟩
            rw [e7] at ek
            have ek : G = kLoop (tk t n lim) one 16 m (sAdd c' 16 0 0) p' := ek
            have s40 : (sAdd c' 16 0 0).2.1 ≤ 2 * (sAdd c' 16 0 0).1 := by show c'.2.1 + 1 ≤ 2 * c'.1; omega
            have := ih (i + 1) (sAdd c' 16 0 0) p' I9 (by omega) a2 s40 a4 (cFs_tr F6 (cFs_tr f7 (cFs_ob f9))) (cRd_ob gp.1 f9 r7) s9 ek
            rw [yadd_eq (by omega) (by omega)]
            exact this
          refine x_51 (d := d) (e := e) hT hR hp gp r6 hn hl (cFs_2 gp.1 F6 ht) (cNm_fs gp.1 F6 L) (cSe_fr gp.1 f6 sX) c20 c40 pn2 he H hx (fun f I7 e7 f7 fl => badk f I7 (by rw [← hone]; exact e7) f7 fl) (fun c' p' I7 e7 f7 r7 s7 => okk c' p' I7 (by rw [← hone]; exact e7) f7 r7 s7)
        · exact absurd q0 q
  refine B_52_0 hT hR hp ?_
  rw [kSeq] at hG
  refine x_51 (d := d) (e := e) hT hR hp gp h hn hl ht L Lc h20 h40 pn he H hx (fun f I7 e7 f7 fl => ⟨_, _, rfl, rfl, ?_⟩) (fun c' p' I7 e7 f7 r7 s7 => ⟨_, _, rfl, rfl, ?_⟩)
  · rw [hone] at e7
    rw [e7] at hG
    exact bad f I7 _ hG.symm f7 fl
  · rw [hone] at e7
    rw [e7] at hG
    obtain ⟨a1, a2, a3, a4⟩ := gd c p c' p' pn e7
    exact loop 20 0 c' p' I7 rfl a2 (by omega) a4 f7 r7 s7 hG.symm

/-- Sentence.readOne: none, or nothing -/
theorem x_53n (hT : yLT T) (hR : yLR R) (hp : yAtSentence T R p0) (h : cRd I t n lim p) {x3 : Int}
    (hf : ¬ kBegins (tk t n lim) p → ∀ I', cFr I I' → cFl I' (1, (tk t n lim p).2.1) → K (some (yi 0)) (N, T, R, I'))
    (ho : kBegins (tk t n lim) p → ∀ r2 : Int, ((r2 = 1 ∧ kIsS (tk t n lim) 40 p) ∨ (r2 = 0 ∧ ¬ kIsS (tk t n lim) 40 p)) → yW l zSS D cy zFk z (d + 1) 53 bc bs K 0 0 64 [(0, yr (some p0)), (1, yr (some 1)), (2, yr (some 4)), (3, yi x3), (4, yi r2)] [] (N, T, R, I)) :
    yW l zSS D cy zFk z (d + 1) 53 bc bs K 0 0 0 [(0, yr (some p0)), (1, yr (some 1)), (2, yr (some 4)), (3, yi x3)] [] (N, T, R, I) := by
  have l41 : kBegins (tk t n lim) p → ∀ r2 : Int, ((r2 = 1 ∧ kIsS (tk t n lim) 40 p) ∨ (r2 = 0 ∧ ¬ kIsS (tk t n lim) 40 p)) → yW l zSS D cy zFk z (d + 1) 53 bc bs K 0 0 41 [(0, yr (some p0)), (1, yr (some 1)), (2, yr (some 4)), (3, yi x3), (4, yi r2)] [] (N, T, R, I) := fun b r2 h2 =>
    B_53_41 hT hR hp ⟨fun _ => ho b r2 h2, fun _ => ho b r2 h2⟩
  refine B_53_0 hT hR hp (x_38 hT hR h (fun r2 h2 => ⟨_, _, rfl, rfl, ?_⟩))
  have h2 : (r2 = 1 ∧ kIsS (tk t n lim) 40 p) ∨ (r2 = 0 ∧ ¬ kIsS (tk t n lim) 40 p) := h2
  refine x_39 hT hR h (by decide) (fun r4 h4 => ⟨_, _, rfl, rfl, fun q4 => ?_, fun q4 => ?_⟩)
  · rcases h4 with ⟨_, a4⟩ | ⟨z4, _⟩
    · exact l41 (.inr (.inl a4)) r2 h2
    · exact absurd z4 q4
  · rcases h4 with ⟨z4, _⟩ | ⟨_, n4⟩
    · exact absurd (show r4 ≠ 0 by omega) q4
    · refine x_39 hT hR h (by decide) (fun r7 h7 => ⟨_, _, rfl, rfl, fun q7 => ?_, fun q7 => ?_⟩)
      · rcases h7 with ⟨_, a7⟩ | ⟨z7, _⟩
        · exact l41 (.inr (.inr (.inl a7))) r2 h2
        · exact absurd z7 q7
      · rcases h7 with ⟨z7, _⟩ | ⟨_, n7⟩
        · exact absurd (show r7 ≠ 0 by omega) q7
        · refine x_39 hT hR h (by decide) (fun r10 h10 => ⟨_, _, rfl, rfl, fun q10 => ⟨fun q2 => ?_, fun q2 => ?_⟩, fun q10 => ?_⟩)
          · rcases h2 with ⟨e2, a2⟩ | ⟨e2, _⟩
            · exact ho (.inl a2) r2 (.inl ⟨e2, a2⟩)
            · exact absurd e2 q2
          · rcases h2 with ⟨e2, _⟩ | ⟨_, n2⟩
            · exact absurd (show r2 ≠ 0 by omega) q2
            · rcases h10 with ⟨e10, _⟩ | ⟨_, n10⟩
              · exact absurd q10 (by omega)
              · have nb : ¬ kBegins (tk t n lim) p := by
                  intro b
                  rcases b with b | b | b | b
                  · exact n2 b
                  · exact n4 b
                  · exact n7 b
                  · exact n10 b
                exact x_34 hT hR h (fun I' f fl => ⟨_, _, rfl, rfl, .inl rfl, hf nb I' f fl⟩)
          · rcases h10 with ⟨_, a10⟩ | ⟨e10, _⟩
            · exact l41 (.inr (.inr (.inr a10))) r2 h2
            · exact absurd e10 q10
/-- Sentence.readOne -/
theorem cOne_all (hT : yLT T) (hR : yLR R) (hp : yAtSentence T R p0) (gp : 16 ≤ p0 ∧ p0 + 4 ≤ 102) (hn : n ≤ 940) (hl : lim ≤ 940) : ∀ e, e ≤ 8 → cOne l D cy z N T R t n lim ch nm p0 e := by
  intro e
  induction e with
  | zero =>
    intro _ d _ K I c p x3 hx h ht L Lc h20 h40 pn hf ho
    refine x_53n (d := d + 7) hT hR hp h (fun nb I' f fl => hf _ I' (by rw [kOne, if_pos nb]) (cFs_of f) fl) (fun b r2 _ => ?_)
    have nn : ¬ ¬ kBegins (tk t n lim) p := fun q => q b
    have l79 : yW l zSS D cy zFk z (d + 8) 53 0 0 K 0 0 79 [(1, yr (some 1))] [] (N, T, R, I) :=
      B_53_79 hT hR hp (x_34 hT hR h (fun I' f fl => ⟨_, _, rfl, rfl, .inl rfl, hf _ I' (by rw [kOne, if_neg nn]) (cFs_of f) fl⟩))
    exact B_53_64 hT hR hp ⟨fun _ => l79, fun _ => ⟨fun q => absurd q (by omega), fun _ => l79⟩⟩
  | succ e ih =>
    intro e8 d0 hd0 K I c p x3 hx h ht L Lc h20 h40 pn hf ho
    obtain ⟨d, rfl⟩ : ∃ d, d0 = d + 3 := ⟨d0 - 3, by omega⟩
    have pn2 : (tk t n lim p).2.2.2 ≤ n := (tk_go t n lim p pn).2
    refine x_53n (d := d + 10) hT hR hp h (fun nb I' f fl => hf _ I' (by rw [kOne, if_pos nb]) (cFs_of f) fl) (fun b r2 h2 => ?_)
    have nn : ¬ ¬ kBegins (tk t n lim) p := fun q => q b
    refine B_53_64 hT hR hp ⟨fun q20 => ?_, fun q20 => ⟨fun _ => ?_, fun q => absurd (by omega) q⟩⟩
    · have q20 : 20 ≤ c.1 := by have := Lc.2.1; omega
      exact B_53_79 hT hR hp (x_34 hT hR h (fun I' f fl => ⟨_, _, rfl, rfl, .inl rfl, hf _ I' (by rw [kOne, if_neg nn, if_pos q20]) (cFs_of f) fl⟩))
    · have n20 : ¬ 20 ≤ c.1 := by have := Lc.2.1; omega
      intro I3 e3
      have f3 : ∀ a b, ¬ (a = p0 ∧ b = 4) → I3 a b = I a b := fun a b g => by rw [e3, yU_ne _ _ g]
      have o3 : ∀ a b, ¬ (p0 ≤ a ∧ a < p0 + 4) → I3 a b = I a b := fun a b g => f3 a b (by omega)
      have u3 : I3 p0 4 = ((c.1 + 1 : Nat) : Int) := by
        have : I3 p0 4 = (c.1 : Int) + 1 := by rw [e3, yU_eq, Lc.2.1, yadd_eq (by omega) (by omega)]
        omega
      have s3 : cSe I3 p0 (sOne c) := ⟨by rw [f3 p0 0 (by omega)]; exact Lc.1, u3, fun i hi => by rw [f3 _ i (by omega), f3 _ i (by omega), f3 _ i (by omega)]; exact Lc.2.2 i hi⟩
      have h3 : cRd I3 t n lim p := cRd_ob gp.1 o3 h
      have F3 : cFs p0 I I3 := cFs_ob o3
      have o20 : (sOne c).1 ≤ 20 := by show c.1 + 1 ≤ 20; omega
      have o40 : (sOne c).2.1 ≤ 2 * (sOne c).1 := by show c.2.1 ≤ 2 * (c.1 + 1); omega
      refine x_adv hT hR h3 hn hl (cFs_2 gp.1 F3 ht) (fun I4 f4 r4 => ⟨_, rfl, rfl, ?_⟩)
      have F4 : cFs p0 I I4 := cFs_tr F3 (cFs_of f4)
      have t4 := cFs_2 gp.1 F4 ht
      have L4 := cNm_fs gp.1 F4 L
      have s4 := cSe_fr gp.1 f4 s3
      have ax : yadd x3 1 = 9 - (e : Int) := by rw [yadd_eq (by omega) (by omega)]; omega
      refine ⟨fun z2 => ?_, fun z2 => ?_⟩
      · have n40 : ¬ kIsS (tk t n lim) 40 p := by
          rcases h2 with ⟨q, _⟩ | ⟨_, q⟩
          · omega
          · exact q
        have w1 : (tk t n lim p).1 = 1 := by
          rcases b with b | b | b | b
          · exact absurd b n40
          · exact b.1
          · exact b.1
          · exact b.1
        have wr : rIx (tk t n lim p).2.2.1 = 7 ∨ (9 ≤ rIx (tk t n lim p).2.2.1 ∧ rIx (tk t n lim p).2.2.1 ≤ 11) ∨ (18 ≤ rIx (tk t n lim p).2.2.1 ∧ rIx (tk t n lim p).2.2.1 ≤ 23) := by
          rcases b with b | b | b | b
          · exact absurd b n40
          · exact .inr (.inr b.2)
          · exact .inr (.inl b.2)
          · have := b.2; exact .inl (by omega)
        obtain ⟨-, -, -, -, -, -, -, -, g7, -⟩ := cTk_tk h3.2.2
        have i6 : I3 1 6 = rIx (tk t n lim p).2.2.1 := (g7 w1).2.1
        rw [i6, ax]
        refine ⟨fun n18 => ?_, fun n18 => ?_⟩
        · have ek : kOne (tk t n lim) (nLd ch nm) (e + 1) c p = kPlain (tk t n lim) (nLd ch nm) (sOne c) (rIx (tk t n lim p).2.2.1) (tk t n lim p).2.2.2 := by
            rw [kOne, if_neg nn, if_neg n20, if_neg n40, if_neg n18]
          have c39 : (sOne c).2.1 < 40 := by show c.2.1 < 40; omega
          exact x_54 (d := d + 3) hT hR hp gp.1 r4 hn hl t4 L4 s4 c39 (by omega) (fun f I7 e7 f7 fl => ⟨_, _, rfl, rfl, .inl rfl, hf f I7 (by rw [ek]; exact e7) (cFs_tr F4 f7) fl⟩) (fun c' p' I7 e7 f7 r7 s7 => ⟨_, _, rfl, rfl, .inr rfl, ho c' p' I7 (by rw [ek]; exact e7) (cFs_tr F4 f7) r7 s7⟩)
        · have q18 : rIx (tk t n lim p).2.2.1 = 18 := by omega
          refine ih (by omega) (d + 2) (by omega) _ I4 (sOne c) _ _ rfl r4 t4 L4 s4 o20 o40 pn2 (fun f I7 e7 f7 fl => ⟨_, _, rfl, rfl, ?_⟩) (fun c' p' I7 e7 f7 r7 s7 => ⟨_, _, rfl, rfl, ?_⟩)
          · refine w_46 hT hR hp (by omega) (fun I9 f9 _ => ⟨_, rfl, rfl, .inl rfl, ?_⟩)
            exact hf f I9 (by rw [kOne, if_neg nn, if_neg n20, if_neg n40, if_pos q18, e7]) (cFs_tr F4 (cFs_tr f7 (cFs_ob f9))) (cFl_fs gp.1 f9 fl)
          · obtain ⟨a1, a2, a3, a4⟩ := kOne_gd (tk_go t n lim) e (sOne c) _ c' p' pn2 e7
            refine x_46 hT hR hp s7 (by omega) (by omega) (by omega) (by omega) (fun I9 f9 s9 => ⟨_, rfl, rfl, .inr rfl, ?_⟩)
            exact ho _ p' I9 (by rw [kOne, if_neg nn, if_neg n20, if_neg n40, if_pos q18, e7]) (cFs_tr F4 (cFs_tr f7 (cFs_ob f9))) (cRd_ob gp.1 f9 r7) s9
      · have y40 : kIsS (tk t n lim) 40 p := by
          rcases h2 with ⟨_, q⟩ | ⟨q, _⟩
          · exact q
          · exact absurd q z2
        rw [ax]
        refine x_52 (d := d) (e := e) hT hR hp gp r4 hn hl t4 L4 s4 o20 o40 pn2 (by omega) (ih (by omega)) rfl (fun f I7 e7 f7 fl => ⟨_, _, rfl, rfl, fun _ => B_53_135 hT hR hp (hf f I7 (by rw [kOne, if_neg nn, if_neg n20, if_pos y40, e7]) (cFs_tr F4 f7) fl), fun q => absurd rfl q⟩) (fun c' p' I7 e7 f7 r7 s7 => ⟨_, _, rfl, rfl, fun q => absurd q (by decide), fun _ => ?_⟩)
        have F7 := cFs_tr F4 f7
        refine x_43 hT hR r7 hn hl (cFs_2 gp.1 F7 ht) (fun f I8 e8 f8 fl => ⟨_, _, rfl, rfl, fun _ => B_53_135 hT hR hp (hf f I8 (by rw [kOne, if_neg nn, if_neg n20, if_pos y40, e7]; dsimp only; rw [e8]) (cFs_tr F7 (cFs_of f8)) fl), fun q => absurd rfl q⟩) (fun p3 I8 e8 f8 r8 => ⟨_, _, rfl, rfl, fun q => absurd q (by decide), fun _ => ?_⟩)
        exact ho c' p3 I8 (by rw [kOne, if_neg nn, if_neg n20, if_pos y40, e7]; dsimp only; rw [e8]) (cFs_tr F7 (cFs_of f8)) r8 (cSe_fr gp.1 f8 s7)
/-- Sentence.read -/
theorem x_50 (hT : yLT T) (hR : yLR R) (hp : yAtSentence T R p0) (gp : 16 ≤ p0 ∧ p0 + 4 ≤ 102) (h : cRd I t n lim 0) (hn : n ≤ 940) (hl : lim ≤ 940) (ht : I 2 = t) (L : cNm I 4 ch nm)
    (hf : ∀ f I', kSent (tk t n lim) (nLd ch nm) = .inl f → cFs p0 I I' → cFl I' f → K (some (yi (-1))) (N, T, R, I'))
    (ho : ∀ c' I', kSent (tk t n lim) (nLd ch nm) = .inr c' → cFs p0 I I' → I' 1 10 = 0 → cSe I' p0 c' → K (some (yi ((c'.1 : Nat) : Int))) (N, T, R, I')) :
    yW l zSS D cy zFk z (d + 38) 50 bc bs K 0 0 0 [(0, yr (some p0)), (1, yr (some 1)), (2, yr (some 4))] [] (N, T, R, I) := by
  refine B_50_0 hT hR hp (fun I1 e1 I2 e2 => ?_)
  have f2 : ∀ a b, ¬ (a = p0 ∧ (b = 0 ∨ b = 4)) → I2 a b = I a b := fun a b g => by rw [e2, yU_ne _ _ (by omega), e1, yU_ne _ _ (by omega)]
  have o2 : ∀ a b, ¬ (p0 ≤ a ∧ a < p0 + 4) → I2 a b = I a b := fun a b g => f2 a b (by omega)
  have F2 : cFs p0 I I2 := cFs_ob o2
  have s2 : cSe I2 p0 Sn0 := ⟨by show I2 p0 0 = 0; rw [e2, yU_ne _ _ (by omega), e1, yU_eq], by show I2 p0 4 = 0; rw [e2, yU_eq], fun i hi => absurd hi (Nat.not_lt_zero _)⟩
  refine x_52 (d := d + 27) (e := 8) hT hR hp gp (cRd_ob gp.1 o2 h) hn hl (cFs_2 gp.1 F2 ht) (cNm_fs gp.1 F2 L) s2 (Nat.zero_le _) (Nat.zero_le _) (Nat.zero_le _) (by omega) (cOne_all hT hR hp gp hn hl 8 (Nat.le_refl _)) (by omega) (fun f I3 e3 f3 fl => ⟨_, _, rfl, rfl, fun _ => hf f I3 ?_ (cFs_tr F2 f3) fl, fun q => absurd rfl q⟩) (fun c' p' I3 e3 f3 r3 s3 => ⟨_, _, rfl, rfl, fun q => absurd q (by decide), fun _ => ?_⟩)
  · unfold kSent kCond
    rw [e3]
  · have F3 := cFs_tr F2 f3
    have ek : kSent (tk t n lim) (nLd ch nm) = if (tk t n lim p').1 = 0 then .inr c' else .inl (1, (tk t n lim p').2.1) := by
      unfold kSent kCond
      rw [e3]
    refine x_33 hT hR r3 (fun I4 nz f4 fl => ⟨_, _, rfl, rfl, fun _ => hf _ I4 (by rw [ek, if_neg nz]) (cFs_tr F3 (cFs_of f4)) fl, fun q => absurd rfl q⟩) (fun z0 => ⟨_, _, rfl, rfl, fun q => absurd q (by decide), fun _ => ?_⟩)
    rw [s3.2.1]
    exact ho c' I3 (by rw [ek, if_pos z0]) F3 r3.2.1.2 s3
/-- Sentence.copyFrom -/
theorem x_47 (hT : yLT T) (hR : yLR R) {q0 : Nat} (hp : yAtSentence T R p0) (hq : yAtSentence T R q0) (h1 : p0 + 4 ≤ q0 ∨ q0 + 4 ≤ p0) (hk : ∀ I', (∀ k j, ¬ ((k = p0 ∧ j = 0) ∨ ((k = p0 + 1 ∨ k = p0 + 2 ∨ k = p0 + 3) ∧ j < 40)) → I' k j = I k j) → I' p0 0 = I q0 0 → (∀ j, j < 40 → I' (p0 + 1) j = I (q0 + 1) j ∧ I' (p0 + 2) j = I (q0 + 2) j ∧ I' (p0 + 3) j = I (q0 + 3) j) → K none (N, T, R, I')) :
    yW l zSS D cy zFk z (d + 1) 47 bc bs K 0 0 0 [(0, yr (some p0)), (1, yr (some q0))] [] (N, T, R, I) := by
  have yv : ∀ (X Y : Nat → Nat → Int) (a b j : Nat), Y = yC X a b 40 → j < 40 → Y b j = X a j := fun X Y a b j e hj => by
    rw [e]
    show (if b = b ∧ j < 40 then X a j else X b j) = X a j
    rw [if_pos (And.intro rfl hj)]
  refine B_47_0 hT hR hp hq (fun I1 e1 I2 e2 I3 e3 I4 e4 => hk I4 (fun k j g => by rw [e4, yC_ne (by omega), e3, yC_ne (by omega), e2, yC_ne (by omega), e1, yU_ne _ _ (by omega)]) (by rw [e4, yC_ne (by omega), e3, yC_ne (by omega), e2, yC_ne (by omega), e1, yU_eq]) (fun j hj => ⟨?_, ?_, ?_⟩))
  · rw [e4, yC_ne (by omega), e3, yC_ne (by omega), yv I1 I2 _ _ j e2 hj, e1, yU_ne _ _ (by omega)]
  · rw [e4, yC_ne (by omega), yv I2 I3 _ _ j e3 hj, e2, yC_ne (by omega), e1, yU_ne _ _ (by omega)]
  · rw [yv I3 I4 _ _ j e4 hj, e3, yC_ne (by omega), e2, yC_ne (by omega), e1, yU_ne _ _ (by omega)]
/-- what SENTENCE answers -/
def kAnsS (k : Rs Sn) : Int := k.elim (fun f => -1 - (f.2 : Int)) (fun x => (x.1 : Int))
noncomputable def zSe (t : Nat → Int) (n ch : Nat) (nm : Nat → Int) : Rs Sn := kSent (tk t n 200) (nLd ch nm)
/-- SENTENCE of the class -/
theorem x_146 (hT : yLT T) (hR : yLR R) (h0 : I 1 1 = (n : Int)) (hn : n ≤ 940) (L : cNm I 4 ch nm)
    (hk : ∀ r I', r = kAnsS (zSe (I 2) n ch nm) → (∀ k j, ¬ (k = 1 ∨ (31 ≤ k ∧ k < 35) ∨ (63 ≤ k ∧ k < 67)) → I' k j = I k j) → I' 1 1 = 0 → I' 1 10 = kFc (zSe (I 2) n ch nm) → (∀ f, zSe (I 2) n ch nm = .inl f → ∀ k j, 31 ≤ k → k < 35 → I' k j = I k j) → (∀ c, zSe (I 2) n ch nm = .inr c → c.2.1 ≤ 39 ∧ I' 31 0 = (c.2.1 : Int) ∧ ∀ i, i < c.2.1 → I' 32 i = (c.2.2 i).1 ∧ I' 33 i = (c.2.2 i).2.1 ∧ I' 34 i = (c.2.2 i).2.2) → K (some (yi r)) (N, T, R, I')) :
    yW l zSS D cy zFk z (d + 39) 146 bc bs K 0 0 0 [(0, yr (some 0))] [] (N, T, R, I) := by
  obtain ⟨t, ht⟩ : ∃ t, I 2 = t := ⟨_, rfl⟩
  rw [ht] at hk
  refine B_146_0 hT hR (x_40 hT hR (n := n) (lim := 200) h0 hn (by omega) (fun I1 f1 r1 => ⟨_, rfl, rfl, ?_⟩))
  have t1 : I1 2 = t := by rw [← ht]; exact funext fun j => f1 2 j (by omega)
  rw [ht] at r1
  have L1 : cNm I1 4 ch nm := ⟨by rw [f1 4 5 (by omega)]; exact L.1, fun i hi => by rw [f1 8 i (by omega)]; exact L.2 i hi⟩
  refine x_50 (d := d) hT hR (a_Sentence63 hT hR) (by omega) r1 hn (by omega) t1 L1 (fun f I2 e f2 fl => ⟨_, _, rfl, rfl, fun I4 e4 => ?_⟩) (fun c I2 e f2 z2 s2 => ⟨_, _, rfl, rfl, fun I4 e4 => ?_⟩)
  · obtain ⟨b1, b2, b3⟩ := kSent_bad (tk_go t n 200) (fun q hq => tk_pl hq) e
    have ez : zSe t n ch nm = .inl f := e
    have q10 : I4 1 10 = f.1 := by rw [e4, yU_ne _ _ (by omega)]; exact fl.1
    have q11 : I4 1 11 = (f.2 : Int) := by rw [e4, yU_ne _ _ (by omega)]; exact fl.2
    have F4 : ∀ k j, ¬ (k = 1 ∨ (63 ≤ k ∧ k < 67)) → I4 k j = I k j := fun k j h => by
      rw [e4, yU_ne _ _ (by omega), f2 k j (by omega) (by omega)]; exact f1 k j (by omega)
    refine ⟨fun q => absurd (q10.symm.trans q) (by omega), fun _ => hk _ I4 ?_ (fun k j h => F4 k j (by omega)) (by rw [e4, yU_eq]) (by rw [q10, ez]; rfl) (fun _ _ k j h1 h2 => F4 k j (by omega)) (fun c e2 => by rw [ez] at e2; cases e2)⟩
    rw [q11, ysub_eq (by omega) (by omega), ez]
    rfl
  · have ez : zSe t n ch nm = .inr c := e
    obtain ⟨c20, c39⟩ := kSent_ok (tk_go t n 200) e
    have q10 : I4 1 10 = 0 := by rw [e4, yU_ne _ _ (by omega)]; exact z2
    have F4 : ∀ k j, ¬ (k = 1 ∨ (63 ≤ k ∧ k < 67)) → I4 k j = I k j := fun k j h => by
      rw [e4, yU_ne _ _ (by omega), f2 k j (by omega) (by omega)]; exact f1 k j (by omega)
    have f4 : ∀ k j, k ≠ 1 → I4 k j = I2 k j := fun k j h => by rw [e4, yU_ne _ _ (by omega)]
    refine ⟨fun _ => ?_, fun q => absurd q10 q⟩
    refine x_47 (d := d + 37) hT hR (a_Sentence31 hT hR) (a_Sentence63 hT hR) (by omega) (fun I6 f6 v6 w6 => ⟨_, rfl, rfl, ?_⟩)
    refine hk _ I6 (by rw [ez]; rfl) (fun k j h => by rw [f6 k j (by omega)]; exact F4 k j (by omega)) (by rw [f6 1 1 (by omega), e4, yU_eq]) (by rw [f6 1 10 (by omega), q10, ez]; rfl) (fun f e2 => by rw [ez] at e2; cases e2) (fun c' e2 => ?_)
    rw [ez] at e2
    cases e2
    refine ⟨c39, by rw [v6, f4 63 0 (by omega)]; exact s2.1, fun i hi => ?_⟩
    obtain ⟨w1, w2, w3⟩ := w6 i (by omega)
    obtain ⟨u1, u2, u3⟩ := s2.2.2 i hi
    have w1 : I6 32 i = I4 64 i := w1
    have w2 : I6 33 i = I4 65 i := w2
    have w3 : I6 34 i = I4 66 i := w3
    rw [w1, w2, w3, f4 64 i (by omega), f4 65 i (by omega), f4 66 i (by omega)]
    exact ⟨u1, u2, u3⟩
end Xs
