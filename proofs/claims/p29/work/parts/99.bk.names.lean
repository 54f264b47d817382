/-! NAMES of a land, and a PLAN: what a text says (pure), and the class's reading, to the letter -/
section Sp
variable (tk : Nat → Tk)
/-- a STEP of a PLAN, the size-th -/
def kPst (S : Ld) (size p : Nat) : Rs ((Nat × Int) × Nat) :=
  match kName tk S p with
  | .inl f => .inl f
  | .inr c => if 40 ≤ size then .inl (4, (tk p).2.1) else
    match kDir tk (tk p).2.2.2 with
    | .inl f => .inl f
    | .inr (d, p2) => match kSign tk 59 p2 with
      | .inl f => .inl f
      | .inr p3 => .inr ((c, d), p3)
/-- all STEPS from p on -/
def kPlan (S : Ld) : Nat → Nat → (Nat → Nat × Int) → Nat → Rs (Nat × (Nat → Nat × Int))
  | 0, c, g, _ => .inr (c, g)
  | m + 1, c, g, p => if (tk p).1 = 0 then .inr (c, g) else
    match kPst tk S c p with
    | .inl f => .inl f
    | .inr (v, p1) => kPlan S m (c + 1) (fun i => if i = c then v else g i) p1
end Sp
section Sg2
variable {tk : Nat → Tk} {n : Nat} {S : Ld}
theorem kPst_go (H : tGo tk n) {size p p' : Nat} {v : Nat × Int} (hp : p ≤ n) (s : ∀ q, q ≤ n → (tk q).1 = 3 → q < (tk q).2.2.2) (e : kPst tk S size p = .inr (v, p')) : p < p' ∧ p' ≤ n ∧ size < 40 := by
  have a := H p hp
  unfold kPst at e
  split at e
  · cases e
  · split at e
    · cases e
    · split at e
      · cases e
      · rename_i d p2 h2
        have b := kDir_go H a.2 h2
        split at e
        · cases e
        · rename_i p3 h3
          cases e
          unfold kSign at h3
          split at h3
          · rename_i w
            cases h3
            have c := H p2 b.2
            have d := s p2 b.2 w.1
            exact ⟨by omega, c.2, by omega⟩
          · cases h3
theorem kPst_bad (H : tGo tk n) (P : tPl tk n) {size p : Nat} {f : Int × Nat} (hp : p ≤ n) (e : kPst tk S size p = .inl f) : kBad n f := by
  have a := H p hp
  unfold kPst at e
  split at e
  · rename_i f' h1
    cases e; exact kName_bad P hp h1
  · split at e
    · cases e; exact kB (P p hp) (by decide) (by decide)
    · split at e
      · rename_i f' h1
        cases e; exact kDir_bad P a.2 h1
      · rename_i d p2 h2
        have b := kDir_go H a.2 h2
        split at e
        · rename_i f' h3
          cases e
          unfold kSign at h3
          split at h3
          · cases h3
          · cases h3; exact kB (P _ b.2) (by decide) (by decide)
        · cases e
end Sg2
section Xn
variable {l : Launch} {D : va_G} {cy : Nat → ClassId} {z d bc bs N : Nat} {T : Nat → Nat × Nat} {R : Nat → Nat → Option Nat} {I : Nat → Nat → Int} {K : yKo} {t : Nat → Int} {n lim p p0 ch : Nat} {nm : Nat → Int}
theorem x_6n (hT : yLT T) (hR : yLR R) (hp : yAtLand T R p0) (L : cNm I p0 ch nm) {v : Int} (hv : isW v) (hk : K (some (yi (kFind (nLd ch nm) v))) (N, T, R, I)) :
    yW l zSS D cy zFk z d 6 bc bs K 0 0 0 [(0, yr (some p0)), (1, yj (cv 7 v))] [] (N, T, R, I) := by
  obtain ⟨⟨e5, c8⟩, nmh⟩ := L
  have loop : ∀ (m c : Nat), c + m = ch → (∀ j, j < c → nm j ≠ v) → yW l zSS D cy zFk z d 6 bc bs K 0 0 2 [(0, yr (some p0)), (1, yj (cv 7 v)), (3, yi (c : Int))] [] (N, T, R, I) := by
    intro m
    induction m with
    | zero =>
      intro c hm no
      rw [kFind_none (S := nLd ch nm) (fun j hj => no j (by have hj : j < ch := hj; omega))] at hk
      exact B_6_2 hT hR hp ⟨fun _ => hk, fun c1 => absurd (by omega) c1⟩
    | succ m ih =>
      intro c hm no
      have g := nmh c (by omega)
      have r1 := cv_rng g.2
      have r2 := cv_rng hv
      have cmp := ylcmp_eq (x := cv 7 (nm c)) (y := cv 7 v) ⟨by omega, by omega⟩ ⟨by omega, by omega⟩
      refine B_6_2 hT hR hp ⟨fun c1 => absurd c1 (by omega), fun _ => ⟨fun c1 => absurd c1 (by omega), fun _ => ⟨by omega, by omega, fun c2 => ?_, fun c2 => ?_⟩⟩⟩
      · rw [show ((c : Int)).toNat = c by omega, g.1] at c2
        have := ih (c + 1) (by omega) (fun j hj => by
          by_cases e : j = c
          · subst e; exact fun q => c2 (cmp.mpr ((cv_inj g.2 hv).mpr q))
          · exact no j (by omega))
        rw [yadd_eq (by omega) (by omega)]
        exact this
      · rw [show ((c : Int)).toNat = c by omega, g.1] at c2
        have e : nm c = v := (cv_inj g.2 hv).mp (cmp.mp (by omega))
        rw [kFind_some (S := nLd ch nm) (c := c) (show c < ch by omega) e no] at hk
        exact hk
  exact B_6_0 hT hR hp (loop ch 0 (by omega) (fun j hj => absurd hj (Nat.not_lt_zero _)))
/-- Land.readName -/
theorem x_21n (hT : yLT T) (hR : yLR R) (hp : yAtLand T R p0) (h : cRd I t n lim p) (L : cNm I p0 ch nm)
    (hf : ∀ f I', kName (tk t n lim) (nLd ch nm) p = .inl f → cFr I I' → cFl I' f → K (some (yi (-1))) (N, T, R, I'))
    (ho : ∀ c : Nat, kName (tk t n lim) (nLd ch nm) p = .inr c → c < ch → K (some (yi (c : Int))) (N, T, R, I)) :
    yW l zSS D cy zFk z (d + 2) 21 bc bs K 0 0 0 [(0, yr (some p0)), (1, yr (some 1))] [] (N, T, R, I) := by
  refine B_21_0 hT hR hp (x_36 hT hR h (fun I' e fr fl => ⟨_, _, rfl, rfl, fun q => absurd rfl q, fun _ => hf _ I' (by unfold kName; rw [if_pos e]) fr fl⟩) (fun e e7 w => ⟨_, _, rfl, rfl, fun _ => ?_, fun q => absurd (by decide : (1 : Int) ≠ 0) q⟩))
  rw [e7]
  refine x_6n hT hR hp L w ⟨_, _, rfl, rfl, fun c => ?_, fun c => ?_⟩
  · have g : ∃ q : Nat, q < ch ∧ kFind (nLd ch nm) (tk t n lim p).2.2.1 = (q : Int) := by
      unfold kFind at c ⊢
      cases hq : (List.range (nLd ch nm).ch).find? (fun i => decide ((nLd ch nm).nm i = (tk t n lim p).2.2.1)) with
      | none => rw [hq] at c; exact absurd rfl c
      | some q => exact ⟨q, List.mem_range.mp (List.mem_of_find?_eq_some hq), rfl⟩
    obtain ⟨q, q1, q2⟩ := g
    have := ho q (by unfold kName; rw [if_neg (fun k => k e), if_neg (by rw [q2]; omega), q2]; rfl) q1
    rw [q2]
    exact this
  · have e1 : kFind (nLd ch nm) (tk t n lim p).2.2.1 = -1 := by omega
    rw [e1]
    exact x_34 hT hR h (fun I' fr fl => ⟨_, _, rfl, rfl, hf _ I' (by unfold kName; rw [if_neg (fun k => k e), if_pos e1]) fr fl⟩)
/-- what reading a PLAN may change -/
def cFp (p0 : Nat) (I I' : Nat → Nat → Int) : Prop := ∀ a b, ¬ (a = 1 ∧ 3 ≤ b ∧ b ≤ 11) → ¬ (p0 ≤ a ∧ a < p0 + 2) → I' a b = I a b
/-- Plan.readStep -/
theorem x_29 (hT : yLT T) (hR : yLR R) (hp : yAtPlan T R p0) (gp : 16 ≤ p0) (h : cRd I t n lim p) (hn : n ≤ 940) (hl : lim ≤ 940) (ht : I 2 = t) (L : cNm I 4 ch nm) {size : Nat} (hs : I p0 0 = (size : Int)) (h40 : size ≤ 40)
    (hf : ∀ f I', kPst (tk t n lim) (nLd ch nm) size p = .inl f → cFp p0 I I' → cFl I' f → K (some (yi 0)) (N, T, R, I'))
    (ho : ∀ c d' p' I', kPst (tk t n lim) (nLd ch nm) size p = .inr ((c, d'), p') → cFp p0 I I' → cRd I' t n lim p' → I' p0 0 = ((size + 1 : Nat) : Int) → I' (p0 + 1) size = 4 * (c : Int) + d' → (∀ i, i < size → I' (p0 + 1) i = I (p0 + 1) i) → c < 8 → 0 ≤ d' → d' ≤ 3 → K (some (yi 1)) (N, T, R, I')) :
    yW l zSS D cy zFk z (d + 7) 29 bc bs K 0 0 0 [(0, yr (some p0)), (1, yr (some 1)), (2, yr (some 4))] [] (N, T, R, I) := by
  refine B_29_0 hT hR hp (x_21n hT hR (a_Land4 hT hR) h L (fun f I1 e f1 fl => ⟨_, _, rfl, rfl, fun q => absurd rfl q, fun _ => hf f I1 (by unfold kPst; rw [e]) (fun a b g _ => f1 a b g) fl⟩) (fun c e cc => ⟨_, _, rfl, rfl, fun _ => ?_, fun q => absurd (show ¬ ((c : Int) = -1) by omega) q⟩))
  have c8 := L.1.2
  rw [hs]
  refine ⟨fun q => absurd q (by omega), fun _ => ⟨fun c40 => ?_, fun c40 => x_34 hT hR h (fun I' f fl => ⟨_, _, rfl, rfl, .inl rfl, hf _ I' (by unfold kPst; rw [e]; dsimp only; rw [if_pos (by omega)]) (fun a b g _ => f a b g) fl⟩)⟩⟩
  have n40 : ¬ 40 ≤ size := by omega
  refine x_adv hT hR h hn hl ht (fun I1 f1 r1 => ⟨_, rfl, rfl, ?_⟩)
  have t1 := cRd_2 f1 ht
  refine x_41 hT hR r1 hn hl t1 (fun f I2 e2 f2 fl => ⟨_, _, rfl, rfl, fun _ => hf f I2 (by unfold kPst; rw [e]; dsimp only; rw [if_neg n40, e2]) (fun a b g _ => cFr_tr f1 f2 a b g) fl, fun q => absurd rfl q⟩) (fun v p2 I2 e2 f2 r2 v0 v1 => ⟨_, _, rfl, rfl, fun q => by omega, fun _ => ?_⟩)
  refine x_43 hT hR r2 hn hl (cRd_2 f2 t1) (fun f I3 e3 f3 fl => ⟨_, _, rfl, rfl, fun q => absurd rfl q, fun _ => hf f I3 (by unfold kPst; rw [e]; dsimp only; rw [if_neg n40, e2]; dsimp only; rw [e3]) (fun a b g _ => cFr_tr f1 (cFr_tr f2 f3) a b g) fl⟩) (fun p3 I3 e3 f3 r3 => ⟨_, _, rfl, rfl, fun _ => ?_, fun q => absurd (by decide : (1 : Int) ≠ 0) q⟩)
  have F3 := cFr_tr f1 (cFr_tr f2 f3)
  have s3 : I3 p0 0 = (size : Int) := by rw [F3 p0 0 (by omega)]; exact hs
  rw [s3, show ((size : Int)).toNat = size by omega]
  refine ⟨by omega, by omega, fun I4 e4 I5 e5 => ?_⟩
  have fr : ∀ x y, ¬ (x = p0 + 1 ∧ y = size) → ¬ (x = p0 ∧ y = 0) → I5 x y = I3 x y := fun x y a b => by rw [e5, yU_ne _ _ b, e4, yU_ne _ _ a]
  refine ho c v p3 I5 (by unfold kPst; rw [e]; dsimp only; rw [if_neg n40, e2]; dsimp only; rw [e3]) (fun a b g1 g2 => (fr a b (by omega) (by omega)).trans (F3 a b g1)) (cRd_cg r3 (fun b => fr 1 b (by omega) (by omega))) ?_ ?_ (fun i hi => by rw [fr (p0 + 1) i (by omega) (by omega)]; exact F3 (p0 + 1) i (by omega)) (by omega) v0 v1
  · rw [e5, yU_eq, e4, yU_ne _ _ (by omega), s3, yadd_eq (by omega) (by omega)]; rfl
  · rw [e5, yU_ne _ _ (by omega), e4, yU_eq, ymul_eq (by omega) (by omega), yadd_eq (by omega) (by omega), ynar1_eq (by omega) (by omega)]
/-- Plan.read -/
theorem x_28 (hT : yLT T) (hR : yLR R) (hp : yAtPlan T R p0) (gp : 16 ≤ p0) (h : cRd I t n lim 0) (hn : n ≤ 940) (hl : lim ≤ 940) (ht : I 2 = t) (L : cNm I 4 ch nm)
    (hf : ∀ f I', kPlan (tk t n lim) (nLd ch nm) 42 0 (fun _ => (0, 0)) 0 = .inl f → cFp p0 I I' → cFl I' f → K (some (yi 0)) (N, T, R, I'))
    (ho : ∀ (c : Nat) g I', kPlan (tk t n lim) (nLd ch nm) 42 0 (fun _ => (0, 0)) 0 = .inr (c, g) → c ≤ 40 → cFp p0 I I' → I' 1 10 = 0 → I' p0 0 = (c : Int) → (∀ i, i < c → I' (p0 + 1) i = 4 * (((g i).1 : Nat) : Int) + (g i).2 ∧ (g i).1 < 8 ∧ 0 ≤ (g i).2 ∧ (g i).2 ≤ 3) → K (some (yi 1)) (N, T, R, I')) :
    yW l zSS D cy zFk z (d + 8) 28 bc bs K 0 0 0 [(0, yr (some p0)), (1, yr (some 1)), (2, yr (some 4))] [] (N, T, R, I) := by
  obtain ⟨G, hG⟩ : ∃ G, kPlan (tk t n lim) (nLd ch nm) 42 0 (fun _ => (0, 0)) 0 = G := ⟨_, rfl⟩
  rw [hG] at hf ho
  have loop : ∀ (m c p : Nat) (g : Nat → Nat × Int) (X : Nat → Nat → Int), c + m = 42 → c ≤ 40 → p ≤ n → cFp p0 I X → cRd X t n lim p → X p0 0 = (c : Int) → (∀ i, i < c → X (p0 + 1) i = 4 * (((g i).1 : Nat) : Int) + (g i).2 ∧ (g i).1 < 8 ∧ 0 ≤ (g i).2 ∧ (g i).2 ≤ 3) → G = kPlan (tk t n lim) (nLd ch nm) m c g p → yW l zSS D cy zFk z (d + 8) 28 bc bs K 0 0 7 [(0, yr (some p0)), (1, yr (some 1)), (2, yr (some 4)), (3, yi (c : Int))] [] (N, T, R, X) := by
    intro m
    induction m with
    | zero => intro c p g X hm hc; omega
    | succ m ih =>
      intro c p g X hm hc pn fX r xs xg ek
      have t0 : X 2 = t := by rw [← ht]; exact funext fun j => fX 2 j (by omega) (by omega)
      have L0 : cNm X 4 ch nm := ⟨by rw [fX 4 5 (by omega) (by omega)]; exact L.1, fun i hi => by rw [fX 8 i (by omega) (by omega)]; exact L.2 i hi⟩
      obtain ⟨-, -, -, g2, -, -, -, g0, -⟩ := cTk_tk r.2.2
      rw [kPlan] at ek
      refine B_28_7 hT hR hp ⟨fun c0 => absurd c0 (by omega), fun _ => ⟨fun c0 => ?_, fun c0 => ?_⟩⟩
      · refine x_33 hT hR r (fun I' nz f fl => ⟨_, _, rfl, rfl, .inl rfl, hf _ I' ?_ (fun a b q1 q2 => (f a b q1).trans (fX a b q1 q2)) fl⟩) (fun z0 => ⟨_, _, rfl, rfl, .inr rfl, ho c g X (by rw [ek, if_pos z0]) hc fX r.2.1.2 xs xg⟩)
        rw [ek, if_neg nz]
        have nn : ¬ kIsName (tk t n lim) p := fun q => by have := g2.mpr q.1; omega
        unfold kPst kName
        rw [if_pos nn]
      · have nz : (tk t n lim p).1 ≠ 0 := fun q => c0 (g0.mp q).1
        rw [if_neg nz] at ek
        refine x_29 hT hR hp gp r hn hl t0 L0 xs hc (fun f I' e a fl => ⟨_, _, rfl, rfl, fun q => absurd rfl q, fun _ => hf f I' (by rw [ek, e]) (fun x y q1 q2 => (a x y q1 q2).trans (fX x y q1 q2)) fl⟩) (fun c' d' p' I1 e a r1 s1 v1 o1 b1 b2 b3 => ⟨_, _, rfl, rfl, fun _ => ?_, fun q => absurd (by decide : (1 : Int) ≠ 0) q⟩)
        have go := kPst_go (tk_go t n lim) pn (fun q hq w => (tk_ok (t := t) (lim := lim) hq).2.2.2.2.1 w) e
        rw [e] at ek
        dsimp only at ek
        have := ih (c + 1) p' (fun i => if i = c then (c', d') else g i) I1 (by omega) (by omega) go.2.1 (fun x y q1 q2 => (a x y q1 q2).trans (fX x y q1 q2)) r1 s1 (fun i hi => by
          by_cases q : i = c
          · subst q
            rw [if_pos rfl, v1]
            exact ⟨rfl, b1, b2, b3⟩
          · rw [if_neg q, o1 i (by omega)]
            exact xg i (by omega)) ek
        rw [yadd_eq (by omega) (by omega)]
        exact this
  refine B_28_0 hT hR hp (fun I1 e1 => ?_)
  have f1 : ∀ x y, ¬ (x = p0 ∧ y = 0) → I1 x y = I x y := fun x y g => by rw [e1, yU_ne _ _ g]
  exact loop 42 0 0 (fun _ => (0, 0)) I1 rfl (Nat.zero_le _) (Nat.zero_le _) (fun x y _ b => f1 x y (by omega)) (cRd_cg h (fun b => f1 1 b (by omega))) (by rw [e1, yU_eq]; rfl) (fun i hi => absurd hi (Nat.not_lt_zero _)) hG.symm
end Xn
