/-! CONTRACTS of the class: the UNTIER, 2: the search. -/
/-- STEP u (4 times who, and the DIR) leads from knot x to knot y -/
def cMv (I : Nat → Nat → Int) (A m x u y : Nat) : Prop := u / 4 < m ∧ cDg (A + 1) (u / 4) x < A ∧ ∃ q, q < A ∧ I 96 (4 * cDg (A + 1) (u / 4) x + u % 4) = (q : Int) ∧ (cKn (fun t => (cDg (A + 1) t x : Nat)) (q : Int) m : Nat) < I 97 q ∧ (y : Int) = (x : Int) + (((if (q : Int) = I 93 (u / 4) then A else q : Nat) : Int) - (cDg (A + 1) (u / 4) x : Nat)) * (cUn (A + 1) (u / 4) : Nat)
theorem cKn_cg {Y Z : Nat → Int} {q : Int} : ∀ {n : Nat}, (∀ t, t < n → Y t = Z t) → cKn Y q n = cKn Z q n := by
  intro n
  induction n with
  | zero => intro _; rfl
  | succ n ih =>
    intro h
    show cKn Y q n + (if Y n = q then 1 else 0) = cKn Z q n + (if Z n = q then 1 else 0)
    rw [ih (fun t ht => h t (by omega)), h n (by omega)]
theorem c_b100 : ynar 0 100 = 100 := by decide +kernel
theorem c_b12 {u : Nat} (h : u < 12) : ynar 0 (yi2b ((u : Int) + 1)) = (u : Int) + 1 :=
  (by decide +kernel : ∀ u : Fin 12, ynar 0 (yi2b ((u.1 : Int) + 1)) = (u.1 : Int) + 1) ⟨u, h⟩
/-- where the search writes -/
abbrev cWs (vs vq k j : Nat) : Prop := k = 95 ∨ k = vs ∨ k = vq ∨ (k = 91 ∧ j = 11)
/-- the three rows are not what else the UNTIER has -/
abbrev cAp (vs vq : Nat) : Prop := 126 ≤ vs ∧ 126 ≤ vq
theorem cRw_ws {I X : Nat → Nat → Int} {W A m vs vq : Nat} (h : cRw I W A m) (ap : cAp vs vq) (f : ∀ k j, ¬ cWs vs vq k j → X k j = I k j) : cRw X W A m := by
  unfold cAp at ap
  exact cRw_cg h (f _ _ (by unfold cWs; omega)) (f _ _ (by unfold cWs; omega)) (f _ _ (by unfold cWs; omega)) (fun j => f _ _ (by unfold cWs; omega)) (fun j => f _ _ (by unfold cWs; omega)) (fun j => f _ _ (by unfold cWs; omega))
section Cu
variable {l : Launch} {D : va_G} {cy : Nat → ClassId} {z d bc bs N : Nat} {T : Nat → Nat × Nat} {R : Nat → Nat → Option Nat} {I : Nat → Nat → Int} {K : yKo} {vs ns vq nq vt nt : Nat}
/-- goOnFrom: what is so of the rows (Inv), STEP by STEP -/
theorem w_70 (hT : yLT T) (hR : yLR R) (hU : cU T R vs ns vq nq vt nt) (ap : cAp vs vq) {W A m x : Nat} (hI : cRw I W A m) (hx : x < 1000000) {Inv : (Nat → Nat → Int) → Nat → Prop} (h0 : Inv I 0)
    (hns : ns ≤ 1000000) (hnq : nq ≤ 1000000)
    (hcg : ∀ X X' u, (∀ k j, ¬ (k = 95) → X' k j = X k j) → Inv X u → Inv X' u)
    (hq0 : ∀ X u, Inv X u → 0 ≤ X 91 11 ∧ X 91 11 < 2000000)
    (hno : ∀ X u, (∀ k j, ¬ cWs vs vq k j → X k j = I k j) → u < 12 → Inv X u → (∀ y : Nat, cMv I A m x u y → (y < ns ∧ X vs y ≠ 0) ∨ ns ≤ y ∨ (nq : Int) ≤ X 91 11) → Inv X (u + 1))
    (hnew : ∀ X Y u (y : Nat), (∀ k j, ¬ cWs vs vq k j → X k j = I k j) → u < 12 → Inv X u → cMv I A m x u y → y < ns → X 91 11 < (nq : Int) → X vs y = 0 → Y vs y = (u : Int) + 1 → Y vq (X 91 11).toNat = (y : Int) → Y 91 11 = X 91 11 + 1 → (∀ k j, ¬ (k = vs ∧ j = y) → ¬ (k = vq ∧ j = (X 91 11).toNat) → ¬ (k = 91 ∧ j = 11) → Y k j = X k j) → Inv Y (u + 1))
    (hk : ∀ X, (∀ k j, ¬ cWs vs vq k j → X k j = I k j) → Inv X 12 → K none (N, T, R, X)) :
    yW l zSS D cy zFk z (d + 1) 70 bc bs K 0 0 0 [(0, yr (some 91)), (1, yi (x : Int))] [] (N, T, R, I) := by
  have hU0 := hU
  obtain ⟨u1, u2, u3, u4, u5, u6, u7, u8, u9⟩ := hU
  have hI0 := hI
  obtain ⟨h1, h2, h3, h4, h5, h6, h7, h8, h9⟩ := hI
  have ap0 : 126 ≤ vs ∧ 126 ≤ vq := ap
  -- where there is no such STEP, on
  have skip : ∀ (n u : Nat) (X : Nat → Nat → Int), (∀ k j, ¬ cWs vs vq k j → X k j = I k j) → u + n ≤ 12 → (∀ u', u ≤ u' → u' < u + n → ∀ y, ¬ cMv I A m x u' y) → Inv X u → Inv X (u + n) := by
    intro n
    induction n with
    | zero => intro u X _ _ _ h; exact h
    | succ n ih =>
      intro u X fX hu hn hi
      have := ih (u + 1) X fX (by omega) (fun u' g1 g2 => hn u' (by omega) (by omega)) (hno X u fX (by omega) hi (fun y hy => absurd hy (hn u (Nat.le_refl _) (by omega) y)))
      rw [show u + 1 + n = u + (n + 1) by omega] at this
      exact this
  have outer : ∀ (n k : Nat) (X : Nat → Nat → Int), n + k = 3 → (∀ k j, ¬ cWs vs vq k j → X k j = I k j) → (∀ t, t < m → X 95 t = (cDg (A + 1) t x : Nat)) → Inv X (4 * k) → yW l zSS D cy zFk z (d + 1) 70 bc bs K 0 0 7 [(0, yr (some 91)), (1, yi (x : Int)), (2, yi (k : Int))] [] (N, T, R, X) := by
    intro n
    induction n with
    | zero =>
      intro k X hk3 fX hX hi
      have e2 : X 91 2 = (m : Int) := by rw [fX 91 2 (by unfold cWs; omega)]; exact h5
      have ek : k = 3 := by omega
      subst ek
      exact B_70_7 hT hR u1 u2 u3 u4 u5 u6 u7 u8 u9 ⟨fun _ => hk X fX hi, fun _ => ⟨fun _ => hk X fX hi, fun c => by omega⟩⟩
    | succ n ih =>
      intro k X hk3 fX hX hi
      have e2 : X 91 2 = (m : Int) := by rw [fX 91 2 (by unfold cWs; omega)]; exact h5
      refine B_70_7 hT hR u1 u2 u3 u4 u5 u6 u7 u8 u9 ⟨fun c => ?_, fun c => ⟨fun c2 => by omega, fun _ => ?_⟩⟩
      · have := skip (12 - 4 * k) (4 * k) X fX (by omega) (fun u' g1 g2 y hy => by have := hy.1; omega) hi
        rw [show 4 * k + (12 - 4 * k) = 12 by omega] at this
        exact hk X fX this
      · have km : k < m := by omega
        have cont : ∀ X : Nat → Nat → Int, (∀ k j, ¬ cWs vs vq k j → X k j = I k j) → (∀ t, t < m → X 95 t = (cDg (A + 1) t x : Nat)) → Inv X (4 * k + 4) → yW l zSS D cy zFk z (d + 1) 70 bc bs K 0 0 7 [(0, yr (some 91)), (1, yi (x : Int)), (2, yi (yadd (k : Int) 1))] [] (N, T, R, X) := by
          intro X fX hX hi
          rw [yadd_eq (by omega) (by omega), show (k : Int) + 1 = ((k + 1 : Nat) : Int) by omega]
          exact ih (k + 1) X (by omega) fX hX hi
        have inner : ∀ (n dir : Nat) (X : Nat → Nat → Int), n + dir = 4 → (∀ k j, ¬ cWs vs vq k j → X k j = I k j) → (∀ t, t < m → X 95 t = (cDg (A + 1) t x : Nat)) → Inv X (4 * k + dir) → yW l zSS D cy zFk z (d + 1) 70 bc bs K 0 0 22 [(0, yr (some 91)), (1, yi (x : Int)), (2, yi (k : Int)), (3, yi (dir : Int))] [] (N, T, R, X) := by
          intro n
          induction n with
          | zero =>
            intro dir X hd fX hX hi
            have : dir = 4 := by omega
            subst this
            exact B_70_22 hT hR u1 u2 u3 u4 u5 u6 u7 u8 u9 ⟨fun _ => cont X fX hX hi, fun c => by omega⟩
          | succ n ih2 =>
            intro dir X hd fX hX hi
            have tk : ((k : Int)).toNat = k := by omega
            have e1 : X 91 1 = (A : Int) := by rw [fX 91 1 (by unfold cWs; omega)]; exact h3
            have ek := hX k km
            have hdg := @cDg_lt (A + 1) k x (by omega)
            have ud : (4 * k + dir) / 4 = k := by omega
            have um : (4 * k + dir) % 4 = dir := by omega
            refine B_70_22 hT hR u1 u2 u3 u4 u5 u6 u7 u8 u9 ⟨fun c => by omega, fun _ => ⟨by omega, by omega, fun c => ?_, fun c => ?_⟩⟩
            · rw [tk, e1, ek] at c
              refine cont X fX hX ?_
              have := skip (4 - dir) (4 * k + dir) X fX (by omega) (fun u' g1 g2 y hy => by
                have g := hy.2.1
                rw [show u' / 4 = k by omega] at g
                omega) hi
              rw [show 4 * k + dir + (4 - dir) = 4 * k + 4 by omega] at this
              exact this
            · rw [tk, e1, ek] at c
              have pA : cDg (A + 1) k x < A := by omega
              have next : ∀ Y : Nat → Nat → Int, (∀ k j, ¬ cWs vs vq k j → Y k j = I k j) → (∀ t, t < m → Y 95 t = (cDg (A + 1) t x : Nat)) → Inv Y (4 * k + dir + 1) → yW l zSS D cy zFk z (d + 1) 70 bc bs K 0 0 22 [(0, yr (some 91)), (1, yi (x : Int)), (2, yi (k : Int)), (3, yi (yadd (dir : Int) 1))] [] (N, T, R, Y) := by
                intro Y fY hY hi
                rw [yadd_eq (by omega) (by omega), show (dir : Int) + 1 = ((dir + 1 : Nat) : Int) by omega]
                exact ih2 (dir + 1) Y (by omega) fY hY hi
              have e96 : ∀ j, X 96 j = I 96 j := fun j => fX 96 j (by unfold cWs; omega)
              have e97 : ∀ j, X 97 j = I 97 j := fun j => fX 97 j (by unfold cWs; omega)
              have e93 : ∀ j, X 93 j = I 93 j := fun j => fX 93 j (by unfold cWs; omega)
              have e94 : X 94 k = (cUn (A + 1) k : Nat) := by rw [fX 94 k (by unfold cWs; omega)]; exact h7 k km
              have ecn : ∀ q : Nat, cKn (X 95) (q : Int) m = cKn (fun t => (cDg (A + 1) t x : Nat)) (q : Int) m := fun q => cKn_cg hX
              refine w_79 hT hR hU0 (cRw_ws hI0 ap fX) (by omega) (by omega) ek pA (fun hn => ?_) (fun q q1 q2 q3 => ?_) (fun q q1 q2 q3 => ?_)
              · refine ⟨_, _, rfl, rfl, fun c => absurd rfl c, fun _ => next X fX hX (hno X _ fX (by omega) hi (fun y hy => ?_))⟩
                obtain ⟨_, _, q, q1, q2, _⟩ := hy
                rw [ud, um, ← e96, hn] at q2
                omega
              · refine ⟨_, _, rfl, rfl, fun c => absurd rfl c, fun _ => next X fX hX (hno X _ fX (by omega) hi (fun y hy => ?_))⟩
                obtain ⟨_, _, q', q1', q2', q3', _⟩ := hy
                rw [ud, um, ← e96, q2] at q2'
                have : q = q' := by omega
                subst this
                rw [ecn, e97] at q3
                omega
              · generalize hv : (if (q : Int) = X 93 k then A else q) = v
                have vA : v ≤ A := by rw [← hv]; split <;> omega
                have e93k := e93 k
                rw [e93k] at hv
                have p0 := @cUn_pos (A + 1) k (by omega)
                have p1 := @cUn_le (A + 1) k (by omega) (by omega)
                have b1 : ((v : Int) - (cDg (A + 1) k x : Nat)) * (cUn (A + 1) k : Nat) ≤ 36 * 1369 := by
                  have g1 : ((v : Int) - (cDg (A + 1) k x : Nat)) * (cUn (A + 1) k : Nat) ≤ (36 : Int) * (cUn (A + 1) k : Nat) := Int.mul_le_mul_of_nonneg_right (by omega) (by omega)
                  omega
                have b2 : -(36 * 1369) ≤ ((v : Int) - (cDg (A + 1) k x : Nat)) * (cUn (A + 1) k : Nat) := by
                  have g1 : (-36 : Int) * (cUn (A + 1) k : Nat) ≤ ((v : Int) - (cDg (A + 1) k x : Nat)) * (cUn (A + 1) k : Nat) := Int.mul_le_mul_of_nonneg_right (by omega) (by omega)
                  omega
                have val : yadd (x : Int) (ymul (ysub (v : Int) (X 95 ((k : Int)).toNat)) (X 94 ((k : Int)).toNat)) = (x : Int) + ((v : Int) - (cDg (A + 1) k x : Nat)) * (cUn (A + 1) k : Nat) := by
                  rw [tk, ek, e94, ysub_eq (by omega) (by omega), ymul_eq (by omega) (by omega), yadd_eq (by omega) (by omega)]
                have mv : ∀ y : Nat, cMv I A m x (4 * k + dir) y ↔ (y : Int) = (x : Int) + ((v : Int) - (cDg (A + 1) k x : Nat)) * (cUn (A + 1) k : Nat) := by
                  intro y
                  unfold cMv
                  rw [ud, um]
                  constructor
                  · rintro ⟨_, _, q', g1, g2, g3, g4⟩
                    rw [← e96, q2] at g2
                    have : q = q' := by omega
                    subst this
                    rw [hv] at g4
                    exact g4
                  · intro g
                    refine ⟨km, pA, q, q1, by rw [← e96]; exact q2, ?_, ?_⟩
                    · rw [← ecn, ← e97]; exact q3
                    · rw [hv]; exact g
                refine ⟨_, _, rfl, rfl, fun _ => ⟨by omega, by omega, by omega, by omega, ?_⟩, fun c => absurd (show ((v : Int)) ≠ -1 by omega) c⟩
                rw [val]
                generalize hw : (x : Int) + ((v : Int) - (cDg (A + 1) k x : Nat)) * (cUn (A + 1) k : Nat) = w at *
                obtain ⟨qa, qb⟩ := hq0 X _ hi
                refine ⟨fun c1 => next X fX hX (hno X _ fX (by omega) hi (fun y hy => ?_)), fun c1 => ⟨fun c2 => next X fX hX (hno X _ fX (by omega) hi (fun y hy => ?_)), fun c2 => ⟨fun c3 => next X fX hX (hno X _ fX (by omega) hi (fun y hy => .inr (.inr c3))), fun c3 => ⟨by omega, by omega, fun c4 => next X fX hX (hno X _ fX (by omega) hi (fun y hy => ?_)), fun c4 => ?_⟩⟩⟩⟩
                · have := (mv y).mp hy; omega
                · have := (mv y).mp hy; omega
                · have := (mv y).mp hy
                  rw [show w.toNat = y by omega] at c4
                  exact .inl ⟨by omega, c4⟩
                · obtain ⟨y, rfl⟩ : ∃ y : Nat, w = (y : Int) := ⟨w.toNat, by omega⟩
                  have ty : ((y : Int)).toNat = y := by omega
                  rw [ty] at c4
                  rw [ty]
                  refine ⟨by omega, by omega, fun Y1 hY1 => ?_⟩
                  have eb : ynar 0 (yi2b (yadd (yadd (ymul (k : Int) 4) (dir : Int)) 1)) = ((4 * k + dir : Nat) : Int) + 1 := by
                    rw [ymul_eq (by omega) (by omega), yadd_eq (x := (k : Int) * 4) (y := (dir : Int)) (by omega) (by omega), yadd_eq (by omega) (by omega), show (k : Int) * 4 + (dir : Int) + 1 = ((4 * k + dir : Nat) : Int) + 1 by omega, c_b12 (by omega)]
                  rw [eb] at hY1
                  have n11 : ¬ (91 = vs) := by omega
                  have q11 : Y1 91 11 = X 91 11 := by rw [hY1, yU_ne _ _ (fun g => n11 g.1)]
                  rw [q11]
                  refine ⟨qa, by omega, fun Y2 hY2 => fun Y3 hY3 => ?_⟩
                  have n12 : ¬ (91 = vq) := by omega
                  have q12 : Y2 91 11 = X 91 11 := by rw [hY2, yU_ne _ _ (fun g => n12 g.1)]; exact q11
                  rw [q12, yadd_eq (by omega) (by omega)] at hY3
                  rw [ynar1_eq (by omega) (by omega)] at hY2
                  have tvq : vs ≠ vq := fun e => by rw [e, u5] at u2; cases u2
                  have f3 : ∀ k j, ¬ (k = vs ∧ j = y) → ¬ (k = vq ∧ j = (X 91 11).toNat) → ¬ (k = 91 ∧ j = 11) → Y3 k j = X k j := fun k' j g1 g2 g3 => by
                    rw [hY3, yU_ne _ _ g3, hY2, yU_ne _ _ g2, hY1, yU_ne _ _ g1]
                  refine next Y3 (fun k' j g => ?_) (fun t ht => ?_) (hnew X Y3 _ y fX (by omega) hi ((mv y).mpr rfl) (by omega) (by omega) (Classical.not_not.mp c4) ?_ ?_ ?_ f3)
                  · rw [f3 k' j (fun h => g (.inr (.inl h.1))) (fun h => g (.inr (.inr (.inl h.1)))) (fun h => g (.inr (.inr (.inr h))))]
                    exact fX k' j g
                  · rw [f3 95 t (by omega) (by omega) (by omega)]; exact hX t ht
                  · rw [hY3, yU_ne _ _ (by omega), hY2, yU_ne _ _ (fun h => tvq h.1), hY1, yU_eq]
                  · rw [hY3, yU_ne _ _ (by omega), hY2, yU_eq]
                  · rw [hY3, yU_eq]
        have := inner 4 0 X (by omega) fX hX hi
        exact this
  refine B_70_0 hT hR u1 u2 u3 u4 u5 u6 u7 u8 u9 ?_
  refine w_76 hT hR hU0 hI0 (by omega) (fun I' f' e' => ⟨_, rfl, rfl, ?_⟩)
  exact outer 3 0 I' (by omega) (fun k j h => f' k j (fun e => h (.inl e))) e' (hcg I I' 0 f' h0)
/-- a STEP is one of the game -/
theorem cMv_st {A m x u y : Nat} (hm : m ≤ 3) (h : cMv I A m x u y) : ∃ v, v ≤ A ∧ cSt A m y = gUp (cSt A m x) (u / 4) v ∧ (x < cM (A + 1) m → y < cM (A + 1) m) ∧ (cM (A + 1) m ≤ x → cM (A + 1) m ≤ y) := by
  obtain ⟨h1, h2, q, h3, h4, h5, h6⟩ := h
  generalize hv : (if (q : Int) = I 93 (u / 4) then A else q) = v at *
  have vA : v ≤ A := by rw [← hv]; split <;> omega
  obtain ⟨y', y1, y2, y3, y4, y5⟩ := c_set (B := A + 1) (x := x) hm h1 (show v < A + 1 by omega)
  have e : y' = y := by omega
  subst e
  exact ⟨v, vA, cSt_set h1 y3 y4, y1, y5⟩
theorem cBf_full {Mv : Nat → Nat → Nat → Prop} {M q h v : Nat} {Q Sn : Nat → Int} {pf mf : Nat → Nat} (b : cBf Mv M Q Sn q pf mf h v) (hq : M ≤ q) {y : Nat} (hy : y < M) : Sn y ≠ 0 := by
  intro e
  obtain ⟨b1, b2, b3, b4, b5, -⟩ := b
  have nd : (y :: (List.range q).map (fun i => (Q i).toNat)).Nodup := by
    refine List.nodup_cons.mpr ⟨fun hm => ?_, ?_⟩
    · obtain ⟨i, hi, he⟩ := List.mem_map.mp hm
      have hi := List.mem_range.mp hi
      obtain ⟨x, x1, x2⟩ := b2 i hi
      have : x = y := by omega
      subst this
      exact b5 i x hi x2 e
    · show List.Pairwise (fun a b => a ≠ b) _
      refine List.pairwise_map.mpr ?_
      refine List.Pairwise.imp_of_mem ?_ (List.nodup_range : (List.range q).Nodup)
      intro i j hi hj hne e
      obtain ⟨x, x1, x2⟩ := b2 i (List.mem_range.mp hi)
      obtain ⟨y, y1, y2⟩ := b2 j (List.mem_range.mp hj)
      exact hne (b3 i j (List.mem_range.mp hi) (List.mem_range.mp hj) (by omega))
  have := gk_short nd (n := M) (fun x hx => by
    rcases List.mem_cons.mp hx with e | e
    · omega
    · obtain ⟨i, hi, rfl⟩ := List.mem_map.mp e
      obtain ⟨x, x1, x2⟩ := b2 i (List.mem_range.mp hi)
      omega)
  rw [List.length_cons, List.length_map, List.length_range] at this
  omega
/-- the search -/
theorem w_77 (hT : yLT T) (hR : yLR R) (hU : cU T R vs ns vq nq vt nt) (ap : cAp vs vq) {W A m M : Nat} (hI : cRw I W A m) (hM : M = cM (A + 1) m) (hns : ns ≤ 1000000) (hnq : nq ≤ 1000000) (hMs : M ≤ ns) (hMq : M ≤ nq) (hz : ∀ j, j < M → I vs j = 0) {x1 : Int}
    (hk : ∀ r X, (∀ k j, ¬ cWs vs vq k j → X k j = I k j) → (r = 0 ∨ (r = 1 ∧ ∃ (x0 q : Nat) (pf mf : Nat → Nat) (h : Nat), x1 = (x0 : Int) ∧ x0 < M ∧ X 91 11 = (q : Int) ∧ cBf (cMv I A m) M (X vq) (X vs) q pf mf h 0 ∧ h < q ∧ X vq h = ((M - 1 : Nat) : Int) ∧ X vq 0 = (x0 : Int))) → K (some (yi r)) (N, T, R, X)) :
    yW l zSS D cy zFk z (d + 2) 77 bc bs K 0 0 0 [(0, yr (some 91)), (1, yi x1), (2, yi ((M - 1 : Nat) : Int))] [] (N, T, R, I) := by
  have hU0 := hU
  obtain ⟨u1, u2, u3, u4, u5, u6, u7, u8, u9⟩ := hU
  have hI0 := hI
  obtain ⟨h1, h2, h3, h4, h5, h6, h7, h8, h9⟩ := hI
  have ap0 : 126 ≤ vs ∧ 126 ≤ vq := ap
  have tvq : vs ≠ vq := fun e => by rw [e, u5] at u2; cases u2
  have fr : ∀ k j, cWs vs vq k j → k ≠ 93 ∧ k ≠ 96 ∧ k ≠ 97 := fun k j h => by unfold cWs at h; omega
  have mvc : ∀ X : Nat → Nat → Int, (∀ k j, ¬ cWs vs vq k j → X k j = I k j) → ∀ x u y, cMv X A m x u y ↔ cMv I A m x u y := by
    intro X fX x u y
    have e3 : ∀ j, X 93 j = I 93 j := fun j => fX _ _ (fun h => (fr _ _ h).1 rfl)
    have e6 : ∀ j, X 96 j = I 96 j := fun j => fX _ _ (fun h => (fr _ _ h).2.1 rfl)
    have e7 : ∀ j, X 97 j = I 97 j := fun j => fX _ _ (fun h => (fr _ _ h).2.2 rfl)
    unfold cMv
    simp only [e3, e6, e7]
  have Mp : 0 < M := by rw [hM]; exact cM_pos (by omega)
  refine B_77_0 hT hR u1 u2 u3 u4 u5 u6 u7 u8 u9 ⟨fun _ => hk 0 I (fun _ _ _ => rfl) (.inl rfl), fun c => ⟨fun _ => hk 0 I (fun _ _ _ => rfl) (.inl rfl), fun c2 => ⟨fun c3 => ⟨by omega, by omega, fun Y1 hY1 => ⟨by omega, by omega, fun Y2 hY2 => fun Y3 hY3 => ?_⟩⟩, fun _ => hk 0 I (fun _ _ _ => rfl) (.inl rfl)⟩⟩⟩
  obtain ⟨x0, rfl⟩ : ∃ x0 : Nat, x1 = (x0 : Int) := ⟨x1.toNat, by omega⟩
  have tx : ((x0 : Int)).toNat = x0 := by omega
  rw [tx, c_b100] at hY1
  rw [ynar1_eq (by omega) (by omega)] at hY2
  have f3 : ∀ k j, ¬ cWs vs vq k j → Y3 k j = I k j := fun k j g => by
    rw [hY3, yU_ne _ _ (fun h => g (.inr (.inr (.inr h)))), hY2, yU_ne _ _ (fun h => g (.inr (.inr (.inl h.1)))), hY1, yU_ne _ _ (fun h => g (.inr (.inl h.1)))]
  have e11 : Y3 91 11 = 1 := by rw [hY3, yU_eq]
  have eq0 : Y3 vq 0 = (x0 : Int) := by rw [hY3, yU_ne _ _ (by omega), hY2, yU_eq]
  have es : ∀ j, Y3 vs j = if j = x0 then 100 else I vs j := fun j => by
    rw [hY3, yU_ne _ _ (by omega), hY2, yU_ne _ _ (fun h => tvq h.1), hY1]
    by_cases e : j = x0
    · subst e; rw [yU_eq, if_pos rfl]
    · rw [yU_ne _ _ (fun h => e h.2), if_neg e]
  by_cases hlow : x0 < M
  · -- the search proper
    have loop : ∀ (n h q : Nat) (pf mf : Nat → Nat) (X : Nat → Nat → Int), M - h ≤ n → h ≤ q → (∀ k j, ¬ cWs vs vq k j → X k j = I k j) → X 91 11 = (q : Int) → cBf (cMv I A m) M (X vq) (X vs) q pf mf h 0 → X vq 0 = (x0 : Int) → yW l zSS D cy zFk z (d + 2) 77 bc bs K 0 0 46 [(0, yr (some 91)), (2, yi ((M - 1 : Nat) : Int)), (3, yi (h : Int))] [] (N, T, R, X) := by
      intro n
      induction n with
      | zero =>
        intro h q pf mf X hn hq fX e11 b eq0
        have := cBf_le b
        exact B_77_46 hT hR u1 u2 u3 u4 u5 u6 u7 u8 u9 ⟨fun _ => hk 0 X fX (.inl rfl), fun c => by omega⟩
      | succ n ih =>
        intro h q pf mf X hn hq fX e11 b eq0
        have hqM := cBf_le b
        refine B_77_46 hT hR u1 u2 u3 u4 u5 u6 u7 u8 u9 ⟨fun _ => hk 0 X fX (.inl rfl), fun c => ⟨fun c2 => hk 0 X fX (.inl rfl), fun c2 => ⟨by omega, by omega, fun c3 => ⟨by omega, by omega, ?_⟩, fun c3 => ?_⟩⟩⟩
        · have th : ((h : Int)).toNat = h := by omega
          rw [th] at c3 ⊢
          obtain ⟨x, x1, x2⟩ := b.2.1 h (by omega)
          rw [x2]
          refine w_70 (Inv := fun Y u => ∃ (q' : Nat) (pf' mf' : Nat → Nat), h < q' ∧ Y 91 11 = (q' : Int) ∧ cBf (cMv I A m) M (Y vq) (Y vs) q' pf' mf' h u ∧ Y vq 0 = (x0 : Int) ∧ Y vq h = (x : Int)) hT hR hU0 ap (cRw_ws hI0 ap fX) (by have := @cM_le (A + 1) m (by omega); omega) ⟨q, pf, mf, by omega, e11, b, eq0, x2⟩ hns hnq (fun Y Y' u fY hi => ?_) (fun Y u hi => ?_) (fun Y u fY hu hi ho => ?_) (fun Y Y' u y fY hu hi hm hy hq2 hs0 s1 s2 s3 s4 => ?_) (fun Y fY hi => ?_)
          · obtain ⟨q', pf', mf', i1, i2, i3, i4, i5⟩ := hi
            exact ⟨q', pf', mf', i1, by rw [fY 91 11 (by decide)]; exact i2, cBf_cg i3 (fun i _ => fY vq i (by omega)) (fun i _ => fY vs i (by omega)), by rw [fY vq 0 (by omega)]; exact i4, by rw [fY vq h (by omega)]; exact i5⟩
          · obtain ⟨q', pf', mf', i1, i2, i3, -⟩ := hi
            have := cBf_le i3
            have := @cM_le (A + 1) m (by omega)
            omega
          · obtain ⟨q', pf', mf', i1, i2, i3, i4, i5⟩ := hi
            have fYI : ∀ k j, ¬ cWs vs vq k j → Y k j = I k j := fun k j g => (fY k j g).trans (fX k j g)
            refine ⟨q', pf', mf', i1, i2, cBf_old i3 i5 (fun y hy => ?_), i4, i5⟩
            obtain ⟨v, _, _, lt, _⟩ := cMv_st h6 hy
            have yM : y < M := by rw [hM]; exact lt (by rw [← hM]; exact x1)
            refine ⟨yM, ?_⟩
            rcases ho y ((mvc X fX x u y).mpr hy) with g | g | g
            · exact g.2
            · omega
            · exact cBf_full i3 (by omega) yM
          · obtain ⟨q', pf', mf', i1, i2, i3, i4, i5⟩ := hi
            have tq : (Y 91 11).toNat = q' := by omega
            rw [tq] at s2 s4
            have hm := (mvc X fX x u y).mp hm
            obtain ⟨v, _, _, lt, _⟩ := cMv_st h6 hm
            have yM : y < M := by rw [hM]; exact lt (by rw [← hM]; exact x1)
            have sq : ∀ i, i < q' → Y' vq i = Y vq i := fun i hi => s4 vq i (fun g => tvq g.1.symm) (fun g => by omega) (fun g => by omega)
            refine ⟨q' + 1, cUp pf' q' h, cUp mf' q' u, by omega, by rw [s3, i2]; omega, cBf_new i3 i1 hu i5 (fun y' hy' => ?_) hm yM hs0 sq s2 (fun x' _ hne => s4 vs x' (fun g => hne g.2) (fun g => tvq g.1) (fun g => by omega)) s1, by rw [sq 0 (by omega)]; exact i4, by rw [sq h i1]; exact i5⟩
            obtain ⟨_, _, qa, a1, a2, a3, a4⟩ := hm
            obtain ⟨_, _, qb, b1, b2, b3, b4⟩ := hy'
            have : qa = qb := by omega
            subst this
            omega
          · obtain ⟨q', pf', mf', i1, i2, i3, i4, i5⟩ := hi
            refine ⟨_, rfl, rfl, ?_⟩
            rw [yadd_eq (by omega) (by omega), show (h : Int) + 1 = ((h + 1 : Nat) : Int) by omega]
            exact ih (h + 1) q' pf' mf' Y (by omega) (by omega) (fun k j g => (fY k j g).trans (fX k j g)) i2 (cBf_next i3) i4
        · have th : ((h : Int)).toNat = h := by omega
          rw [th] at c3
          exact hk 1 X fX (.inr ⟨rfl, x0, q, pf, mf, h, rfl, hlow, e11, b, by omega, Classical.not_not.mp c3, eq0⟩)
    refine loop M 0 1 (fun _ => 0) (fun _ => 0) Y3 (by omega) (by omega) f3 e11 ?_ eq0
    refine ⟨by omega, fun i hi => ?_, fun i j hi hj _ => by omega, fun x hx hs => ?_, fun i x hi hx => ?_, fun i g0 hi => by omega, fun i j g0 hij hj => by omega, fun i u hi hu hl => by omega⟩
    · rw [show i = 0 by omega]; exact ⟨x0, hlow, eq0⟩
    · rw [es] at hs
      by_cases e : x = x0
      · subst e; exact ⟨0, by omega, eq0⟩
      · rw [if_neg e, hz x hx] at hs
        exact absurd rfl hs
    · rw [show i = 0 by omega, eq0] at hx
      rw [es, if_pos (by omega)]
      decide
  · -- from beyond the last: never to it
    have loop : ∀ (n h q : Nat) (X : Nat → Nat → Int), nq - h ≤ n → q ≤ nq → (∀ k j, ¬ cWs vs vq k j → X k j = I k j) → X 91 11 = (q : Int) → (∀ i, i < q → ∃ x : Nat, M ≤ x ∧ x < ns ∧ X vq i = (x : Int)) → yW l zSS D cy zFk z (d + 2) 77 bc bs K 0 0 46 [(0, yr (some 91)), (2, yi ((M - 1 : Nat) : Int)), (3, yi (h : Int))] [] (N, T, R, X) := by
      intro n
      induction n with
      | zero =>
        intro h q X hn hq fX e11 hx
        exact B_77_46 hT hR u1 u2 u3 u4 u5 u6 u7 u8 u9 ⟨fun _ => hk 0 X fX (.inl rfl), fun c => by omega⟩
      | succ n ih =>
        intro h q X hn hq fX e11 hx
        refine B_77_46 hT hR u1 u2 u3 u4 u5 u6 u7 u8 u9 ⟨fun _ => hk 0 X fX (.inl rfl), fun c => ⟨fun c2 => hk 0 X fX (.inl rfl), fun c2 => ⟨by omega, by omega, fun c3 => ⟨by omega, by omega, ?_⟩, fun c3 => ?_⟩⟩⟩
        · have th : ((h : Int)).toNat = h := by omega
          rw [th]
          obtain ⟨x, x1, x3, x2⟩ := hx h (by omega)
          rw [x2]
          refine w_70 (Inv := fun Y u => ∃ q' : Nat, q' ≤ nq ∧ Y 91 11 = (q' : Int) ∧ (∀ i, i < q' → ∃ x : Nat, M ≤ x ∧ x < ns ∧ Y vq i = (x : Int))) hT hR hU0 ap (cRw_ws hI0 ap fX) (by omega) ⟨q, hq, e11, hx⟩ hns hnq (fun Y Y' u fY hi => ?_) (fun Y u hi => ?_) (fun Y u fY hu hi ho => hi) (fun Y Y' u y fY hu hi hm hy hq2 hs0 s1 s2 s3 s4 => ?_) (fun Y fY hi => ?_)
          · obtain ⟨q', i1, i2, i3⟩ := hi
            exact ⟨q', i1, by rw [fY 91 11 (by decide)]; exact i2, fun i hi => by rw [fY vq i (by omega)]; exact i3 i hi⟩
          · obtain ⟨q', i1, i2, -⟩ := hi
            omega
          · obtain ⟨q', i1, i2, i3⟩ := hi
            have tq : (Y 91 11).toNat = q' := by omega
            rw [tq] at s2 s4
            obtain ⟨v, _, _, _, ge⟩ := cMv_st h6 hm
            refine ⟨q' + 1, by omega, by rw [s3, i2]; omega, fun i hi => ?_⟩
            by_cases e : i = q'
            · subst e
              exact ⟨y, by rw [hM]; exact ge (by rw [← hM]; exact x1), hy, s2⟩
            · rw [s4 vq i (fun g => tvq g.1.symm) (fun g => e g.2) (fun g => by omega)]
              exact i3 i (by omega)
          · obtain ⟨q', i1, i2, i3⟩ := hi
            refine ⟨_, rfl, rfl, ?_⟩
            rw [yadd_eq (by omega) (by omega), show (h : Int) + 1 = ((h + 1 : Nat) : Int) by omega]
            exact ih (h + 1) q' Y (by omega) i1 (fun k j g => (fY k j g).trans (fX k j g)) i2 i3
        · exfalso
          have th : ((h : Int)).toNat = h := by omega
          rw [th] at c3
          obtain ⟨x, x1, x3, x2⟩ := hx h (by omega)
          rw [x2] at c3
          omega
    exact loop nq 0 1 Y3 (by omega) (by omega) f3 e11 (fun i hi => by rw [show i = 0 by omega]; exact ⟨x0, by omega, by omega, eq0⟩)
end Cu
