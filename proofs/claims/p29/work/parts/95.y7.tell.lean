/-! CONTRACTS of the class: the UNTIER, 3: back along the way; rows made. -/
theorem cMv_cg {I X : Nat → Nat → Int} {A m : Nat} (e3 : ∀ j, X 93 j = I 93 j) (e6 : ∀ j, X 96 j = I 96 j) (e7 : ∀ j, X 97 j = I 97 j) (x u y : Nat) : cMv X A m x u y ↔ cMv I A m x u y := by
  unfold cMv
  simp only [e3, e6, e7]
/-- a STEP's digits -/
theorem cMv_dg {I : Nat → Nat → Int} {A m x u y : Nat} (hm : m ≤ 3) (h : cMv I A m x u y) : ∃ q v, q < A ∧ I 96 (4 * cDg (A + 1) (u / 4) x + u % 4) = (q : Int) ∧ v = (if (q : Int) = I 93 (u / 4) then A else q) ∧ cDg (A + 1) (u / 4) y = v ∧ (y : Int) = (x : Int) + ((v : Int) - (cDg (A + 1) (u / 4) x : Nat)) * (cUn (A + 1) (u / 4) : Nat) := by
  obtain ⟨h1, h2, q, h3, h4, h5, h6⟩ := h
  generalize hv : (if (q : Int) = I 93 (u / 4) then A else q) = v at *
  have vA : v ≤ A := by rw [← hv]; split <;> omega
  obtain ⟨y', y1, y2, y3, y4, y5⟩ := c_set (B := A + 1) (x := x) hm h1 (show v < A + 1 by omega)
  have e : y' = y := by omega
  subst e
  exact ⟨q, v, h3, h4, hv.symm, y3, h6⟩
section Cu
variable {l : Launch} {D : va_G} {cy : Nat → ClassId} {z d bc bs N : Nat} {T : Nat → Nat × Nat} {R : Nat → Nat → Option Nat} {I : Nat → Nat → Int} {K : yKo} {vs ns vq nq vt nt : Nat}
/-- knotAhead, of a knot that the search came to -/
theorem w_71 (hT : yLT T) (hR : yLR R) (hU : cU T R vs ns vq nq vt nt) (hN : vs < N) (h126 : 126 ≤ vs) {W A m x y u : Nat} (hI : cRw I W A m) (hy6 : y < 1000000) (hys : y < ns) (hu : u < 12) (hs : I vs y = (u : Int) + 1) (hm : cMv I A m x u y)
    (hk : ∀ X : Nat → Nat → Int, (∀ k j, ¬ (k = 95) → X k j = I k j) → K (some (yi (x : Int))) (N, T, R, X)) :
    yW l zSS D cy zFk z (d + 1) 71 bc bs K 0 0 0 [(0, yr (some 91)), (1, yi (y : Int))] [] (N, T, R, I) := by
  have hU0 := hU
  obtain ⟨u1, u2, u3, u4, u5, u6, u7, u8, u9⟩ := hU
  have hI0 := hI
  obtain ⟨h1, h2, h3, h4, h5, h6, h7, h8, h9⟩ := hI
  refine B_71_0 hT hR u1 u2 u3 u4 u5 u6 u7 u8 u9 (w_81 hT hR hU0 hN (fun r hr _ => ?_))
  have ty : ((y : Int)).toNat = y := by omega
  rw [ty] at hr
  have hr := hr (by omega) (by omega) (by omega)
  have hr : r = (u : Int) := by omega
  subst hr
  obtain ⟨q, v, q1, q2, q3, q4, q5⟩ := cMv_dg h6 hm
  have hkm := hm.1
  have pA := hm.2.1
  generalize hk4 : u / 4 = k at *
  generalize hd4 : u % 4 = dir at *
  have ed : ydiv (u : Int) 4 = (k : Int) := by rw [ydiv_eq (by omega) (by omega) (by omega) (by omega)]; omega
  have er : yrem (u : Int) 4 = (dir : Int) := by rw [yrem_eq (by omega) (by omega) (by omega) (by omega)]; omega
  refine ⟨_, _, rfl, rfl, ?_⟩
  rw [ed, er]
  have tk : ((k : Int)).toNat = k := by omega
  refine ⟨fun _ => w_76 hT hR hU0 hI0 (by omega) (fun X fX hX => ⟨_, rfl, rfl, ?_⟩), fun c => by omega⟩
  rw [tk]
  have e95 : X 95 k = (v : Int) := by rw [hX k hkm, q4]
  have e0 : X 91 0 = (W : Int) := by rw [fX 91 0 (by decide)]; exact h1
  have e1 : X 91 1 = (A : Int) := by rw [fX 91 1 (by decide)]; exact h3
  have e93 : X 93 k = I 93 k := fX 93 k (by decide)
  have e94 : X 94 k = (cUn (A + 1) k : Nat) := by rw [fX 94 k (by decide)]; exact h7 k hkm
  have p0 := @cUn_pos (A + 1) k (by omega)
  have p1 := @cUn_le (A + 1) k (by omega) (by omega)
  have vA : v ≤ A := by rw [q3]; split <;> omega
  generalize hp : cDg (A + 1) k x = p at *
  rcases h9 p dir pA (by omega) with e | ⟨q', g1, g2, geo⟩
  · omega
  · have : q' = q := by omega
    subst this
    -- from the spot ahead to the spot behind
    have fin : ∀ w : Int, w = (p : Int) → yW l zSS D cy zFk z (d + 1) 71 bc bs K 0 0 113 [(0, yr (some 91)), (1, yi (y : Int)), (3, yi (k : Int)), (4, yi w)] [] (N, T, R, X) := by
      intro w hw
      subst hw
      refine B_71_113 hT hR u1 u2 u3 u4 u5 u6 u7 u8 u9 ⟨by omega, by omega, by omega, by omega, ?_⟩
      rw [tk, e95, e94]
      have b1 : ((p : Int) - (v : Int)) * (cUn (A + 1) k : Nat) ≤ 36 * 1369 := by
        have g1 : ((p : Int) - (v : Int)) * (cUn (A + 1) k : Nat) ≤ (36 : Int) * (cUn (A + 1) k : Nat) := Int.mul_le_mul_of_nonneg_right (by omega) (by omega)
        omega
      have b2 : -(36 * 1369) ≤ ((p : Int) - (v : Int)) * (cUn (A + 1) k : Nat) := by
        have g1 : (-36 : Int) * (cUn (A + 1) k : Nat) ≤ ((p : Int) - (v : Int)) * (cUn (A + 1) k : Nat) := Int.mul_le_mul_of_nonneg_right (by omega) (by omega)
        omega
      have sum : ((p : Int) - (v : Int)) * (cUn (A + 1) k : Nat) + ((v : Int) - (p : Int)) * (cUn (A + 1) k : Nat) = 0 := by
        rw [← Int.add_mul, show (p : Int) - (v : Int) + ((v : Int) - (p : Int)) = 0 by omega, Int.zero_mul]
      rw [ysub_eq (by omega) (by omega), ymul_eq (by omega) (by omega), yadd_eq (by omega) (by omega), show (y : Int) + ((p : Int) - (v : Int)) * (cUn (A + 1) k : Nat) = (x : Int) by omega]
      exact hk X fX
    have four : ∀ w : Int, w = (q' : Int) → (((dir : Int) = 0 → yW l zSS D cy zFk z (d + 1) 71 bc bs K 0 0 113 [(0, yr (some 91)), (1, yi (y : Int)), (3, yi (k : Int)), (4, yi (yadd w (X 91 0)))] [] (N, T, R, X)) ∧ (¬ ((dir : Int) = 0) → ((dir : Int) = 1 → yW l zSS D cy zFk z (d + 1) 71 bc bs K 0 0 113 [(0, yr (some 91)), (1, yi (y : Int)), (3, yi (k : Int)), (4, yi (yadd w (-1)))] [] (N, T, R, X)) ∧ (¬ ((dir : Int) = 1) → ((dir : Int) = 2 → yW l zSS D cy zFk z (d + 1) 71 bc bs K 0 0 113 [(0, yr (some 91)), (1, yi (y : Int)), (3, yi (k : Int)), (4, yi (ysub w (X 91 0)))] [] (N, T, R, X)) ∧ (¬ ((dir : Int) = 2) → yW l zSS D cy zFk z (d + 1) 71 bc bs K 0 0 113 [(0, yr (some 91)), (1, yi (y : Int)), (3, yi (k : Int)), (4, yi (yadd w 1))] [] (N, T, R, X))))) := by
      intro w hw
      subst hw
      unfold cGeo at geo
      rw [e0]
      refine ⟨fun c => ?_, fun c => ⟨fun c2 => ?_, fun c2 => ⟨fun c3 => ?_, fun c3 => ?_⟩⟩⟩
      · rw [yadd_eq (by omega) (by omega)]; exact fin _ (by omega)
      · rw [yadd_eq (by omega) (by omega)]; exact fin _ (by omega)
      · rw [ysub_eq (by omega) (by omega)]; exact fin _ (by omega)
      · rw [yadd_eq (by omega) (by omega)]; exact fin _ (by omega)
    refine ⟨by omega, by omega, fun c => ⟨by omega, by omega, four _ ?_⟩, fun c => ⟨by omega, by omega, four _ ?_⟩⟩
    · rw [e95, e1] at c
      rw [e95, q3]
      by_cases eb : (q' : Int) = I 93 k
      · rw [if_pos eb] at q3; omega
      · rw [if_neg eb]
    · rw [e95, e1] at c
      rw [e93]
      by_cases eb : (q' : Int) = I 93 k
      · exact eb.symm
      · rw [if_neg eb] at q3; omega
/-- makeRows -/
theorem w_74 (hT : yLT T) (hR : yLR R) (h126 : 126 ≤ N) (hU : cU T R vs ns vq nq vt nt) (hvs : vs < N) (hvq : vq < N) (hvt : vt < N) {kn : Nat} (hkn : kn ≤ 50653) (hb1 : 2 ≤ bc) (hb2 : (if ns < kn then 2 * kn else 0) ≤ bs)
    (hk : ∀ (N' : Nat) (T' : Nat → Nat × Nat) (R' : Nat → Nat → Option Nat) (I' : Nat → Nat → Int) (vs' ns' vq' nq' : Nat), cU T' R' vs' ns' vq' nq' vt nt → (∀ j, j < kn → I' vs' j = 0) →
      ((kn ≤ ns ∧ N' = N ∧ T' = T ∧ R' = R ∧ vs' = vs ∧ ns' = ns ∧ vq' = vq ∧ nq' = nq ∧ ∀ k j, ¬ (k = vs) → I' k j = I k j) ∨
       (ns < kn ∧ N' = N + 2 ∧ T' = yNT (yNT T N 0 kn) (N + 1) 1 kn ∧ R' = yUR (yNR (yUR (yNR R N) 91 9 (some N)) (N + 1)) 91 10 (some (N + 1)) ∧ vs' = N ∧ ns' = kn ∧ vq' = N + 1 ∧ nq' = kn ∧ ∀ k j, k < N → I' k j = I k j)) → K none (N', T', R', I')) :
    yW l zSS D cy zFk z d 74 bc bs K 0 0 0 [(0, yr (some 91)), (1, yi (kn : Int))] [] (N, T, R, I) := by
  have hU0 := hU
  obtain ⟨u1, u2, u3, u4, u5, u6, u7, u8, u9⟩ := hU
  -- the marks are wiped
  have wipe : ∀ (nc nl N : Nat) (T : Nat → Nat × Nat) (R : Nat → Nat → Option Nat) (vs ns vq nq : Nat), nc ≤ bc → nl ≤ bs → yLT T → yLR R → cU T R vs ns vq nq vt nt → kn ≤ ns → ∀ (I : Nat → Nat → Int),
      (∀ I' : Nat → Nat → Int, (∀ k j, ¬ (k = vs) → I' k j = I k j) → (∀ j, j < kn → I' vs j = 0) → K none (N, T, R, I')) → yW l zSS D cy zFk z d 74 bc bs K nc nl 23 [(0, yr (some 91)), (1, yi (kn : Int))] [] (N, T, R, I) := by
    intro nc nl N T R vs ns vq nq hnb hsb hT hR hU hle I hk
    obtain ⟨u1, u2, u3, u4, u5, u6, u7, u8, u9⟩ := hU
    have loop : ∀ (n i : Nat) (X : Nat → Nat → Int), n + i = kn → (∀ k j, ¬ (k = vs) → X k j = I k j) → (∀ j, j < i → X vs j = 0) → yW l zSS D cy zFk z d 74 bc bs K nc nl 25 [(0, yr (some 91)), (1, yi (kn : Int)), (2, yi (i : Int))] [] (N, T, R, X) := by
      intro n
      induction n with
      | zero =>
        intro i X hi fX hX
        exact Bd_74_25 hT hR hnb hsb u1 u2 u3 u4 u5 u6 u7 u8 u9 ⟨fun _ => hk X fX (fun j hj => hX j (by omega)), fun c => by omega⟩
      | succ n ih =>
        intro i X hi fX hX
        refine Bd_74_25 hT hR hnb hsb u1 u2 u3 u4 u5 u6 u7 u8 u9 ⟨fun c => by omega, fun _ => ⟨fun c => by omega, fun _ => ⟨by omega, by omega, fun Y hY => ?_⟩⟩⟩
        have ti : ((i : Int)).toNat = i := by omega
        rw [ti, show ynar 0 0 = 0 by decide +kernel] at hY
        rw [yadd_eq (by omega) (by omega), show (i : Int) + 1 = ((i + 1 : Nat) : Int) by omega]
        refine ih (i + 1) Y (by omega) (fun k j h => by rw [hY, yU_ne _ _ (fun g => h g.1)]; exact fX k j h) (fun j hj => ?_)
        by_cases e : j = i
        · subst e; rw [hY, yU_eq]
        · rw [hY, yU_ne _ _ (fun g => e g.2)]; exact hX j (by omega)
    exact Bd_74_23 hT hR hnb hsb u1 u2 u3 u4 u5 u6 u7 u8 u9 (loop kn 0 I (by omega) (fun _ _ _ => rfl) (fun j hj => by omega))
  refine Bd_74_0 hT hR (Nat.zero_le _) (Nat.zero_le _) h126 u1 u2 u3 u4 u5 u6 u7 u8 u9 ⟨fun c => ?_, fun c => ?_⟩
  · exact wipe 0 0 N T R vs ns vq nq (Nat.zero_le _) (Nat.zero_le _) hT hR hU0 (by omega) I (fun I' f e => hk N T R I' vs ns vq nq hU0 e (.inl ⟨by omega, rfl, rfl, rfl, rfl, rfl, rfl, rfl, f⟩))
  · have lt : ns < kn := by omega
    rw [if_pos lt] at hb2
    refine ⟨kn, rfl, by omega, by omega, by omega, fun T2 R3 I4 e1 e2 e3 R12 e4 => ⟨kn, rfl, by omega, by omega, by omega, fun T14 R15 I16 e5 e6 e7 R24 e8 => ?_⟩⟩
    have hT14 : yLT T14 := by rw [e5, e1]; exact yLT_nw (by omega) (yLT_nw h126 hT)
    have hR24 : yLR R24 := by rw [e8, e6, e4, e2]; exact yLR_up (by decide) (yLR_nw (by omega) (yLR_up (by decide) (yLR_nw h126 hR)))
    have hU2 : cU T14 R24 N kn (N + 1) kn vt nt := by
      refine ⟨?_, ?_, by omega, ?_, ?_, by omega, ?_, ?_, u9⟩
      · rw [e8, yUR_ne _ _ (by omega), e6, yNR_ne _ _ (by omega), e4, yUR_eq]
      · rw [e5, yNT_ne _ _ _ (by omega), e1, yNT_eq]
      · rw [e8, yUR_eq]
      · rw [e5, yNT_eq]
      · rw [e8, yUR_ne _ _ (by omega), e6, yNR_ne _ _ (by omega), e4, yUR_ne _ _ (by omega), e2, yNR_ne _ _ (by omega)]; exact u7
      · rw [e5, yNT_ne _ _ _ (by omega), e1, yNT_ne _ _ _ (by omega)]; exact u8
    refine wipe _ _ (N + 1 + 1) T14 R24 N kn (N + 1) kn (by omega) (by omega) hT14 hR24 hU2 (Nat.le_refl _) I16 (fun I' f e => hk _ T14 R24 I' N kn (N + 1) kn hU2 e (.inr ⟨lt, rfl, by rw [e5, e1], by rw [e8, e6, e4, e2], rfl, rfl, rfl, rfl, fun k j hkN => ?_⟩))
    rw [f k j (by omega), e7, yNI_ne _ _ (by omega), e3, yNI_ne _ _ (by omega)]
end Cu
