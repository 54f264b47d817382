/-! CONTRACTS of the class: the UNTIER, 1: spots, digits, one STEP. -/
/-- where the UNTIER's three rows lie -/
def cU (T : Nat → Nat × Nat) (R : Nat → Nat → Option Nat) (vs ns vq nq vt nt : Nat) : Prop := R 91 9 = some vs ∧ T vs = (0, ns) ∧ ns < 2147483648 ∧ R 91 10 = some vq ∧ T vq = (1, nq) ∧ nq < 2147483648 ∧ R 91 12 = some vt ∧ T vt = (1, nt) ∧ nt < 2147483648
def cGeo (W p dir q : Nat) : Prop := (dir = 0 ∧ q + W = p) ∨ (dir = 1 ∧ q = p + 1) ∨ (dir = 2 ∧ q = p + W) ∨ (dir = 3 ∧ q + 1 = p)
/-- the rows that the search reads -/
def cRw (I : Nat → Nat → Int) (W A m : Nat) : Prop := I 91 0 = (W : Int) ∧ W ≤ 10 ∧ I 91 1 = (A : Int) ∧ A ≤ 36 ∧ I 91 2 = (m : Int) ∧ m ≤ 3 ∧ (∀ t, t < m → I 94 t = (cUn (A + 1) t : Nat)) ∧
  (∀ p, p < A → I 97 p = 1 ∨ I 97 p = 2) ∧ (∀ p dir, p < A → dir < 4 → I 96 (4 * p + dir) = -1 ∨ ∃ q, q < A ∧ I 96 (4 * p + dir) = (q : Int) ∧ cGeo W p dir q)
theorem cRw_cg {I X : Nat → Nat → Int} {W A m : Nat} (h : cRw I W A m) (e0 : X 91 0 = I 91 0) (e1 : X 91 1 = I 91 1) (e2 : X 91 2 = I 91 2) (e4 : ∀ j, X 94 j = I 94 j) (e6 : ∀ j, X 96 j = I 96 j) (e7 : ∀ j, X 97 j = I 97 j) : cRw X W A m := by
  obtain ⟨h1, h2, h3, h4, h5, h6, h7, h8, h9⟩ := h
  exact ⟨by rw [e0]; exact h1, h2, by rw [e1]; exact h3, h4, by rw [e2]; exact h5, h6, fun t ht => by rw [e4]; exact h7 t ht, fun p hp => by rw [e7]; exact h8 p hp, fun p dir hp hd => by rw [e6]; exact h9 p dir hp hd⟩
/-- how many of the first n stand on q -/
def cKn (Y : Nat → Int) (q : Int) : Nat → Nat
  | 0 => 0
  | n + 1 => cKn Y q n + if Y n = q then 1 else 0
theorem cKn_le (Y : Nat → Int) (q : Int) : ∀ n, cKn Y q n ≤ n := by
  intro n
  induction n with
  | zero => exact Nat.le_refl _
  | succ n ih => show cKn Y q n + (if Y n = q then 1 else 0) ≤ n + 1; split <;> omega
section Cu
variable {l : Launch} {D : va_G} {cy : Nat → ClassId} {z d bc bs N : Nat} {T : Nat → Nat × Nat} {R : Nat → Nat → Option Nat} {I : Nat → Nat → Int} {K : yKo} {vs ns vq nq vt nt : Nat}
theorem w_80 (hT : yLT T) (hR : yLR R) (hU : cU T R vs ns vq nq vt nt) {W : Nat} (hW : I 91 0 = (W : Int)) (hW10 : W ≤ 10) {x : Int} (hk : ∀ r, (∀ c : Nat, c < 100 → x = (c : Int) → r = ((c / 10 * W + c % 10 : Nat) : Int)) → K (some (yi r)) (N, T, R, I)) : yW l zSS D cy zFk z d 80 bc bs K 0 0 0 [(0, yr (some 91)), (1, yi x)] [] (N, T, R, I) := by
  obtain ⟨u1, u2, u3, u4, u5, u6, u7, u8, u9⟩ := hU
  refine B_80_0 hT hR u1 u2 u3 u4 u5 u6 u7 u8 u9 (hk _ (fun c hc hx => ?_))
  subst hx
  have g : c / 10 * W ≤ 9 * 10 := Nat.mul_le_mul (by omega) hW10
  rw [hW, ydiv_eq (by omega) (by omega) (by omega) (by omega), yrem_eq (by omega) (by omega) (by omega) (by omega), show (c : Int) / 10 = ((c / 10 : Nat) : Int) by omega, ymul_eq (by rw [← c_mulc]; omega) (by rw [← c_mulc]; omega), ← c_mulc, yadd_eq (by omega) (by omega)]
  omega
theorem w_81 (hT : yLT T) (hR : yLR R) (hU : cU T R vs ns vq nq vt nt) (hN : vs < N) {x : Int} (hk : ∀ r, (0 ≤ x → x < (ns : Int) → 0 < I vs x.toNat → r = I vs x.toNat - 1) → (¬ (0 ≤ x ∧ x < (ns : Int) ∧ 0 < I vs x.toNat) → r = 0) → K (some (yi r)) (N, T, R, I)) : yW l zSS D cy zFk z d 81 bc bs K 0 0 0 [(0, yr (some 91)), (1, yi x)] [] (N, T, R, I) := by
  obtain ⟨u1, u2, u3, u4, u5, u6, u7, u8, u9⟩ := hU
  have none_ : ¬ (0 ≤ x ∧ x < (ns : Int) ∧ 0 < I vs x.toNat) → K (some (yi 0)) (N, T, R, I) := fun c => hk 0 (fun a b e => absurd ⟨a, b, e⟩ c) (fun _ => rfl)
  by_cases c : 0 ≤ x ∧ x < (ns : Int)
  · refine e_ri (k := vs) (n := ns) (j := x.toNat) (c0 := 0) u2 (.inl rfl) (by omega) hN (fun l1 l2 => ?_)
    have l2 : I vs x.toNat < 2147483648 := l2
    refine B_81_0 hT hR u1 u2 u3 u4 u5 u6 u7 u8 u9 ⟨fun h => by omega, fun _ => ⟨fun h => by omega, fun _ => ⟨c.1, c.2, fun h => none_ (by omega), fun h => ⟨c.1, c.2, ?_⟩⟩⟩⟩
    rw [ysub_eq (by omega) (by omega)]
    exact hk _ (fun _ _ _ => rfl) (fun q => absurd ⟨c.1, c.2, by omega⟩ q)
  · refine B_81_0 hT hR u1 u2 u3 u4 u5 u6 u7 u8 u9 ⟨fun h => none_ (by omega), fun h => ⟨fun h2 => none_ (by omega), fun h2 => by omega⟩⟩
theorem w_76 (hT : yLT T) (hR : yLR R) (hU : cU T R vs ns vq nq vt nt) {W A m x : Nat} (hI : cRw I W A m) (hx : x < 2147483648) (hk : ∀ I' : Nat → Nat → Int, (∀ k j, ¬ (k = 95) → I' k j = I k j) → (∀ t, t < m → I' 95 t = ((cDg (A + 1) t x : Nat) : Int)) → K none (N, T, R, I')) : yW l zSS D cy zFk z d 76 bc bs K 0 0 0 [(0, yr (some 91)), (1, yi (x : Int))] [] (N, T, R, I) := by
  obtain ⟨u1, u2, u3, u4, u5, u6, u7, u8, u9⟩ := hU
  obtain ⟨-, -, h3, h4, h5, h6, h7, -⟩ := hI
  have loop : ∀ (n i : Nat) (X : Nat → Nat → Int), n + i = m → (∀ k j, ¬ (k = 95) → X k j = I k j) → (∀ t, t < i → X 95 t = (cDg (A + 1) t x : Nat)) → yW l zSS D cy zFk z d 76 bc bs K 0 0 2 [(0, yr (some 91)), (1, yi (x : Int)), (2, yi (i : Int))] [] (N, T, R, X) := by
    intro n
    induction n with
    | zero =>
      intro i X hi fX hX
      have e2 : X 91 2 = (m : Int) := by rw [fX 91 2 (by decide)]; exact h5
      exact B_76_2 hT hR u1 u2 u3 u4 u5 u6 u7 u8 u9 ⟨fun _ => hk X fX (fun t ht => hX t (by omega)), fun c => by omega⟩
    | succ n ih =>
      intro i X hi fX hX
      have e1 : X 91 1 = (A : Int) := by rw [fX 91 1 (by decide)]; exact h3
      have e2 : X 91 2 = (m : Int) := by rw [fX 91 2 (by decide)]; exact h5
      have ti : ((i : Int)).toNat = i := by omega
      have e4 : X 94 ((i : Int)).toNat = (cUn (A + 1) i : Nat) := by rw [ti, fX 94 i (by decide)]; exact h7 i (by omega)
      have p0 := @cUn_pos (A + 1) i (by omega)
      have p1 := @cUn_le (A + 1) i (by omega) (by omega)
      refine B_76_2 hT hR u1 u2 u3 u4 u5 u6 u7 u8 u9 ⟨fun c => by omega, fun _ => ⟨fun c => by omega, fun _ => ⟨by omega, by omega, fun c => by omega, fun _ => ⟨fun c => by omega, fun _ => ⟨by omega, by omega, by omega, by rw [e1, yadd_eq (by omega) (by omega)]; omega, by omega, by omega, fun Y hY => ?_⟩⟩⟩⟩⟩
      rw [yadd_eq (by omega) (by omega)]
      have val : ynar 1 (yrem (ydiv (x : Int) (X 94 ((i : Int)).toNat)) (yadd (X 91 1) 1)) = (cDg (A + 1) i x : Nat) := by
        have g1 : x / cUn (A + 1) i ≤ x := Nat.div_le_self _ _
        have g0 : (0 : Int) ≤ ((x / cUn (A + 1) i : Nat) : Int) := Int.natCast_nonneg _
        have g2 := @cDg_lt (A + 1) i x (by omega)
        rw [e4, e1, yadd_eq (by omega) (by omega), ydiv_eq (by omega) (by omega) (by omega) (by omega), ← c_divc, show (A : Int) + 1 = ((A + 1 : Nat) : Int) by omega, yrem_eq (by omega) (by omega) (by omega) (by omega), ← c_modc, ← cDg_eq (by omega), ynar1_eq (by omega) (by omega)]
      rw [val, ti] at hY
      have := ih (i + 1) Y (by omega) (fun k j h => by rw [hY, yU_ne _ _ (fun q => h q.1)]; exact fX k j h) (fun t ht => by
        by_cases e : t = i
        · subst e; rw [hY, yU_eq]
        · rw [hY, yU_ne _ _ (fun q => e q.2)]; exact hX t (by omega))
      rw [show ((i + 1 : Nat) : Int) = (i : Int) + 1 by omega] at this
      exact this
  refine B_76_0 hT hR u1 u2 u3 u4 u5 u6 u7 u8 u9 ?_
  exact loop m 0 I (by omega) (fun _ _ _ => rfl) (fun t ht => by omega)
/-- spotBehindStep: exactly -/
theorem w_79 (hT : yLT T) (hR : yLR R) (hU : cU T R vs ns vq nq vt nt) {W A m k p dir : Nat} (hI : cRw I W A m) (hkm : k < 3) (hd4 : dir < 4) (hp : I 95 k = (p : Int)) (hpA : p < A)
    (hn : I 96 (4 * p + dir) = -1 → K (some (yi (-1))) (N, T, R, I))
    (hf : ∀ q : Nat, q < A → I 96 (4 * p + dir) = (q : Int) → I 97 q ≤ (cKn (I 95) (q : Int) m : Nat) → K (some (yi (-1))) (N, T, R, I))
    (hg : ∀ q : Nat, q < A → I 96 (4 * p + dir) = (q : Int) → (cKn (I 95) (q : Int) m : Nat) < I 97 q → K (some (yi ((if (q : Int) = I 93 k then A else q : Nat) : Int))) (N, T, R, I)) :
    yW l zSS D cy zFk z d 79 bc bs K 0 0 0 [(0, yr (some 91)), (1, yi (k : Int)), (2, yi (dir : Int))] [] (N, T, R, I) := by
  obtain ⟨u1, u2, u3, u4, u5, u6, u7, u8, u9⟩ := hU
  obtain ⟨-, -, h3, h4, h5, h6, h7, h8, h9⟩ := hI
  have tk : ((k : Int)).toNat = k := by omega
  have ev : yadd (ymul (I 95 ((k : Int)).toNat) 4) (dir : Int) = ((4 * p + dir : Nat) : Int) := by
    rw [tk, hp, ymul_eq (by omega) (by omega), yadd_eq (by omega) (by omega)]; omega
  have tv : (((4 * p + dir : Nat) : Int)).toNat = 4 * p + dir := by omega
  refine B_79_0 hT hR u1 u2 u3 u4 u5 u6 u7 u8 u9 ?_
  rw [ev, tv]
  refine ⟨fun c => by omega, fun _ => ⟨fun _ => ⟨by omega, by omega, fun c => by omega, fun _ => ⟨fun c => by omega, fun _ => ⟨by omega, by omega, fun c => ?_, fun c => ⟨fun c2 => ?_, fun c2 => ?_⟩⟩⟩⟩, fun c => by omega⟩⟩
  · rcases h9 p dir hpA hd4 with e | ⟨q, q1, q2, _⟩
    · exact hn e
    · omega
  · rcases h9 p dir hpA hd4 with e | ⟨q, q1, q2, _⟩
    · omega
    · rw [q2]
      have tq : ((q : Int)).toNat = q := by omega
      rw [tq]
      have hr := h8 q q1
      refine ⟨by omega, by omega, ?_⟩
      have loop : ∀ (n i : Nat), n + i = m → yW l zSS D cy zFk z d 79 bc bs K 0 0 73 [(0, yr (some 91)), (1, yi (k : Int)), (4, yi (q : Int)), (5, yi (I 97 q - (cKn (I 95) (q : Int) i : Nat))), (6, yi (i : Int))] [] (N, T, R, I) := by
        intro n
        induction n with
        | zero =>
          intro i hi
          have ei : i = m := by omega
          subst ei
          refine B_79_73 hT hR u1 u2 u3 u4 u5 u6 u7 u8 u9 ⟨fun _ => ⟨fun c => ⟨by omega, by omega, fun c3 => ?_, fun c3 => ?_⟩, fun c => hf q q1 q2 (by omega)⟩, fun c => by omega⟩
          · rw [tk] at c3
            have := hg q q1 q2 (by omega)
            rw [if_neg c3] at this
            exact this
          · rw [tk] at c3
            have := hg q q1 q2 (by omega)
            rw [if_pos (Classical.not_not.mp c3)] at this
            rw [h3]
            exact this
        | succ n ih =>
          intro i hi
          have ti : ((i : Int)).toNat = i := by omega
          have kl := cKn_le (I 95) (q : Int) i
          have nx := ih (i + 1) (by omega)
          have ek : cKn (I 95) (q : Int) (i + 1) = cKn (I 95) (q : Int) i + if I 95 i = (q : Int) then 1 else 0 := rfl
          refine B_79_73 hT hR u1 u2 u3 u4 u5 u6 u7 u8 u9 ⟨fun c => by omega, fun _ => ⟨fun c => by omega, fun _ => ⟨by omega, by omega, fun c => ?_, fun c => ?_⟩⟩⟩
          · rw [ti] at c
            rw [if_neg c] at ek
            rw [ysub_eq (by omega) (by omega), yadd_eq (by omega) (by omega)]
            rw [show I 97 q - ((cKn (I 95) (q : Int) (i + 1) : Nat) : Int) = I 97 q - (cKn (I 95) (q : Int) i : Nat) - 0 by omega, show ((i + 1 : Nat) : Int) = (i : Int) + 1 by omega] at nx
            exact nx
          · rw [ti] at c
            rw [if_pos (Classical.not_not.mp c)] at ek
            rw [ysub_eq (by omega) (by omega), yadd_eq (by omega) (by omega)]
            rw [show I 97 q - ((cKn (I 95) (q : Int) (i + 1) : Nat) : Int) = I 97 q - (cKn (I 95) (q : Int) i : Nat) - 1 by omega, show ((i + 1 : Nat) : Int) = (i : Int) + 1 by omega] at nx
            exact nx
      have := loop m 0 (by omega)
      rw [show I 97 q - ((cKn (I 95) (q : Int) 0 : Nat) : Int) = I 97 q by show I 97 q - ((0 : Nat) : Int) = _; omega] at this
      exact this
  · rcases h9 p dir hpA hd4 with e | ⟨q, q1, q2, _⟩
    · omega
    · omega
end Cu
