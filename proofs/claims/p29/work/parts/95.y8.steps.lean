/-! CONTRACTS of the class: the UNTIER, 4: how long the way is; it is told. -/
def cEd (I : Nat → Nat → Int) (p q : Nat) : Prop := ∃ dir, dir < 4 ∧ I 96 (4 * p + dir) = (q : Int)
def cRm (I : Nat → Nat → Int) (q : Nat) : Nat := (I 97 q).toNat
def cBd (I : Nat → Nat → Int) (t : Nat) : Nat := if 0 ≤ I 93 t then (I 93 t).toNat else 1000
theorem cBd_eq {I : Nat → Nat → Int} {t q : Nat} (h : q < 100) : q = cBd I t ↔ (q : Int) = I 93 t := by
  unfold cBd
  split <;> constructor <;> intro g <;> omega
theorem cKn_cnt {A m x q : Nat} (hm : m ≤ 3) (hq : q < A) : cKn (fun t => ((cDg (A + 1) t x : Nat) : Int)) (q : Int) m = gCnt (cSt A m x) q := by
  have e : ∀ t, (if ((cDg (A + 1) t x : Nat) : Int) = (q : Int) then 1 else 0 : Nat) = if cDg (A + 1) t x = q then 1 else 0 := fun t => by
    by_cases c : cDg (A + 1) t x = q
    · rw [if_pos c, if_pos (by omega)]
    · rw [if_neg c, if_neg (by omega)]
  have zz : (if A = q then 1 else 0 : Nat) = 0 := if_neg (by omega)
  rcases (show m = 0 ∨ m = 1 ∨ m = 2 ∨ m = 3 by omega) with rfl | rfl | rfl | rfl
  · show 0 = (if A = q then 1 else 0) + (if A = q then 1 else 0) + (if A = q then 1 else 0)
    rw [zz]
  · show 0 + (if ((cDg (A + 1) 0 x : Nat) : Int) = (q : Int) then 1 else 0) = (if cDg (A + 1) 0 x = q then 1 else 0) + (if A = q then 1 else 0) + (if A = q then 1 else 0)
    rw [zz, e]; omega
  · show 0 + (if ((cDg (A + 1) 0 x : Nat) : Int) = (q : Int) then 1 else 0) + (if ((cDg (A + 1) 1 x : Nat) : Int) = (q : Int) then 1 else 0) = (if cDg (A + 1) 0 x = q then 1 else 0) + (if cDg (A + 1) 1 x = q then 1 else 0) + (if A = q then 1 else 0)
    rw [zz, e, e]; omega
  · show 0 + (if ((cDg (A + 1) 0 x : Nat) : Int) = (q : Int) then 1 else 0) + (if ((cDg (A + 1) 1 x : Nat) : Int) = (q : Int) then 1 else 0) + (if ((cDg (A + 1) 2 x : Nat) : Int) = (q : Int) then 1 else 0) = (if cDg (A + 1) 0 x = q then 1 else 0) + (if cDg (A + 1) 1 x = q then 1 else 0) + (if cDg (A + 1) 2 x = q then 1 else 0)
    rw [e, e, e]; omega
theorem cMv_gM {I : Nat → Nat → Int} {W A m x u y : Nat} (hI : cRw I W A m) (h : cMv I A m x u y) : gM A (cEd I) (cRm I) (cBd I) (cSt A m x) (cSt A m y) := by
  obtain ⟨h1, h2, h3, h4, h5, h6, h7, h8, h9⟩ := hI
  obtain ⟨v, vA, st, -⟩ := cMv_st h6 h
  have h0 := h
  obtain ⟨g1, g2, q, g3, g4, g5, g6⟩ := h
  obtain ⟨q', v', k1, k2, k3, k4, -⟩ := cMv_dg h6 h0
  have eq : q' = q := by omega
  subst eq
  have es : cSt A m x (u / 4) = cDg (A + 1) (u / 4) x := if_pos g1
  have ey : cSt A m y (u / 4) = cDg (A + 1) (u / 4) y := if_pos g1
  rw [st, gUp_same, k4] at ey
  rw [cKn_cnt h6 g3] at g5
  refine ⟨u / 4, q', by omega, by rw [es]; exact g2, g3, ?_, ?_, ?_⟩
  · rw [es]; exact ⟨u % 4, by omega, g4⟩
  · unfold cRm; omega
  · rw [st, ey, k3]
    by_cases c : (q' : Int) = I 93 (u / 4)
    · rw [if_pos c, if_pos ((cBd_eq (by omega)).mpr c)]
    · rw [if_neg c, if_neg (fun g => c ((cBd_eq (by omega)).mp g))]
theorem gM_cMv {I : Nat → Nat → Int} {W A m x : Nat} {g : gSt} (hI : cRw I W A m) (hx : x < cM (A + 1) m) (h : gM A (cEd I) (cRm I) (cBd I) (cSt A m x) g) : ∃ y u, y < cM (A + 1) m ∧ u < 12 ∧ cMv I A m x u y ∧ cSt A m y = g := by
  obtain ⟨h1, h2, h3, h4, h5, h6, h7, h8, h9⟩ := hI
  obtain ⟨t, q, ht, hlt, hq, ⟨dir, hd, he⟩, hc, rfl⟩ := h
  have tm : t < m := by
    apply Classical.byContradiction
    intro c
    have : cSt A m x t = A := if_neg c
    omega
  have es : cSt A m x t = cDg (A + 1) t x := if_pos tm
  rw [es] at hlt he
  have hr := h8 q hq
  have vA : (if (q : Int) = I 93 t then A else q) < A + 1 := by split <;> omega
  obtain ⟨y, y1, y2, y3, y4, -⟩ := c_set (B := A + 1) (x := x) h6 tm vA
  refine ⟨y, 4 * t + dir, y1 hx, by omega, ?_, ?_⟩
  · unfold cMv
    rw [show (4 * t + dir) / 4 = t by omega, show (4 * t + dir) % 4 = dir by omega]
    refine ⟨tm, hlt, q, hq, he, ?_, y2⟩
    rw [cKn_cnt h6 hq]
    unfold cRm at hc
    omega
  · rw [cSt_set tm y3 y4]
    by_cases c : (q : Int) = I 93 t
    · rw [if_pos c, if_pos ((cBd_eq (by omega)).mpr c)]
    · rw [if_neg c, if_neg (fun g => c ((cBd_eq (by omega)).mp g))]
/-- the n-th ahead of h along the way -/
def cAn (pf : Nat → Nat) (h : Nat) : Nat → Nat
  | 0 => h
  | n + 1 => pf (cAn pf h n)
theorem cDe_le {pf : Nat → Nat} {q : Nat} (hp : ∀ i, 0 < i → i < q → pf i < i) : ∀ i, i < q → cDe pf i i ≤ i := by
  intro i
  induction i using Nat.strongRecOn with
  | _ i ih =>
    intro hq
    rcases Nat.eq_zero_or_pos i with e | e
    · subst e; exact Nat.le_refl _
    · rw [cDe_step hp e hq]
      have p := hp i e hq
      have := ih (pf i) p (by omega)
      omega
theorem cDe_0 {pf : Nat → Nat} {q i : Nat} (hp : ∀ i, 0 < i → i < q → pf i < i) (hq : i < q) (h : cDe pf i i = 0) : i = 0 := by
  rcases Nat.eq_zero_or_pos i with e | e
  · exact e
  · rw [cDe_step hp e hq] at h; omega
theorem cAn_de {pf : Nat → Nat} {q h : Nat} (hp : ∀ i, 0 < i → i < q → pf i < i) (hh : h < q) : ∀ n, n ≤ cDe pf h h → cAn pf h n < q ∧ cDe pf (cAn pf h n) (cAn pf h n) + n = cDe pf h h := by
  intro n
  induction n with
  | zero => intro _; exact ⟨hh, rfl⟩
  | succ n ih =>
    intro hn
    obtain ⟨i1, i2⟩ := ih (by omega)
    have p0 : 0 < cAn pf h n := by
      rcases Nat.eq_zero_or_pos (cAn pf h n) with e | e
      · rw [e] at i2
        have : cDe pf 0 0 = 0 := rfl
        omega
      · exact e
    have p := hp _ p0 i1
    have s := cDe_step hp p0 i1
    show pf (cAn pf h n) < q ∧ cDe pf (pf (cAn pf h n)) (pf (cAn pf h n)) + (n + 1) = cDe pf h h
    omega
/-- the way is not long -/
theorem cBf_found {I : Nat → Nat → Int} {Q Sn : Nat → Int} {W A m q h : Nat} {pf mf : Nat → Nat} (hI : cRw I W A m) (b : cBf (cMv I A m) (cM (A + 1) m) Q Sn q pf mf h 0) (hh : h < q) (he : Q h = ((cM (A + 1) m - 1 : Nat) : Int)) : cDe pf h h ≤ 4431 := by
  have hI0 := hI
  obtain ⟨h1, h2, h3, h4, h5, h6, h7, h8, h9⟩ := hI
  have b0 := b
  obtain ⟨b1, b2, b3, b4, b5, b6, b7, b8⟩ := b
  have hp : ∀ i, 0 < i → i < q → pf i < i := fun i h0 hi => (b6 i h0 hi).1
  obtain ⟨el, ee⟩ := @cSt_end A m h6
  have co : ∀ i, i < q → ∃ x : Nat, x = (Q i).toNat ∧ x < cM (A + 1) m ∧ Q i = (x : Int) := fun i hi => by
    obtain ⟨x, x1, x2⟩ := b2 i hi
    exact ⟨x, by omega, x1, x2⟩
  have st := cBf_depth (A := A) (Ed := cEd I) (rm := cRm I) (bd := cBd I) (st := cSt A m) b0 hh (fun x g hx hg => by
    obtain ⟨y, u, k1, k2, k3, k4⟩ := gM_cMv hI0 hx hg
    exact ⟨y, u, k1, k2, k3, k4⟩) (fun x y hx hy hxy => cSt_inj h6 hx hy hxy) he
  rw [ee] at st
  refine gFar (Ed := cEd I) (rm := cRm I) (bd := cBd I) (A := A) (S := fun i => cSt A m (Q (cAn pf h (cDe pf h h - i))).toNat) (fun p hp => ?_) h4 (cSt_v h6) (fun i hi => ?_) ?_ (fun n i hi hc => ?_)
  · have := h8 p hp
    unfold cRm; omega
  · obtain ⟨a1, a2⟩ := cAn_de hp hh (cDe pf h h - (i + 1)) (by omega)
    have e : cDe pf h h - i = cDe pf h h - (i + 1) + 1 := by omega
    show gM A (cEd I) (cRm I) (cBd I) (cSt A m (Q (cAn pf h (cDe pf h h - i))).toNat) (cSt A m (Q (cAn pf h (cDe pf h h - (i + 1)))).toNat)
    rw [e]
    show gM A (cEd I) (cRm I) (cBd I) (cSt A m (Q (pf (cAn pf h (cDe pf h h - (i + 1))))).toNat) (cSt A m (Q (cAn pf h (cDe pf h h - (i + 1)))).toNat)
    generalize cAn pf h (cDe pf h h - (i + 1)) = j at *
    have j0 : 0 < j := by
      rcases Nat.eq_zero_or_pos j with g | g
      · subst g
        have : cDe pf 0 0 = 0 := rfl
        omega
      · exact g
    obtain ⟨c1, c2, c3, c4⟩ := b6 j j0 a1
    obtain ⟨x, x1, x2, x3⟩ := co (pf j) (by omega)
    obtain ⟨y, y1, y2, y3⟩ := co j a1
    rw [← x1, ← y1]
    exact cMv_gM hI0 (c4 x y x3 y3).1
  · show cSt A m (Q (cAn pf h (cDe pf h h - cDe pf h h))).toNat = gEnd A
    rw [Nat.sub_self]
    show cSt A m (Q h).toNat = gEnd A
    rw [he, ← ee]
    congr 1
  · obtain ⟨a1, a2⟩ := cAn_de hp hh (cDe pf h h - i) (by omega)
    obtain ⟨x, x1, x2, x3⟩ := co _ a1
    have hc : gC A (cEd I) (cRm I) (cBd I) n (cSt A m (Q (cAn pf h (cDe pf h h - i))).toNat) (gEnd A) := hc
    rw [← x1] at hc
    have := st n _ x a1 x3 hc
    omega
section Cu
variable {l : Launch} {D : va_G} {cy : Nat → ClassId} {z d bc bs N : Nat} {T : Nat → Nat × Nat} {R : Nat → Nat → Option Nat} {I : Nat → Nat → Int} {K : yKo} {vs ns vq nq vt nt : Nat}
/-- tellSteps -/
theorem w_82 (hT : yLT T) (hR : yLR R) (h126 : 126 ≤ N) (hU : cU T R vs ns vq nq vt nt) (ap : cAp vs vq) (hvs : vs < N) (hvq : vq < N) (hvt : vt < N) (hqt : vt ≠ vq) (hat : nt = 0 ∨ 126 ≤ vt) {W A m M q h x0 : Nat} {pf mf : Nat → Nat} (hI : cRw I W A m) (hM : M = cM (A + 1) m) (hMs : M ≤ ns) (hns : ns ≤ 1000000) (b : cBf (cMv I A m) M (I vq) (I vs) q pf mf h 0) (hh : h < q) (he : I vq h = ((M - 1 : Nat) : Int)) (h0 : I vq 0 = (x0 : Int))
    (hb1 : 1 ≤ bc) (hb2 : 4431 ≤ bs)
    (hk : ∀ (N' : Nat) (T' : Nat → Nat × Nat) (R' : Nat → Nat → Option Nat) (I' : Nat → Nat → Int) (vt' nt' : Nat), cU T' R' vs ns vq nq vt' nt' →
      ((N' = N ∧ T' = T ∧ R' = R ∧ vt' = vt ∧ nt' = nt) ∨ (nt < nt' ∧ nt' ≤ 4431 ∧ N' = N + 1 ∧ T' = yNT T N 1 nt' ∧ R' = yUR (yNR R N) 91 12 (some N) ∧ vt' = N)) →
      (∀ k j, k < N → ¬ (k = 95 ∨ k = vt ∨ (k = 91 ∧ j = 13)) → I' k j = I k j) → K none (N', T', R', I')) :
    yW l zSS D cy zFk z (d + 2) 82 bc bs K 0 0 0 [(0, yr (some 91)), (1, yi (x0 : Int)), (2, yi ((M - 1 : Nat) : Int))] [] (N, T, R, I) := by
  have ap0 : 126 ≤ vs ∧ 126 ≤ vq := ap
  have hU0 := hU
  have hI0 := hI
  have h6 := hI.2.2.2.2.2.1
  have h4 := hI.2.2.2.1
  have fl : cDe pf h h ≤ 4431 := by subst hM; exact cBf_found hI b hh he
  have M6 : M ≤ 50653 := by rw [hM]; exact cM_le (by omega)
  have qM := cBf_le b
  have b0 := b
  obtain ⟨b1, b2, b3, b4, b5, b6, b7, b8⟩ := b
  have hp : ∀ i, 0 < i → i < q → pf i < i := fun i h0 hi => (b6 i h0 hi).1
  have deh := cDe_le hp h hh
  generalize hL : cDe pf h h = L at *
  have an : ∀ n, n ≤ L → cAn pf h n < q ∧ cDe pf (cAn pf h n) (cAn pf h n) + n = L := fun n hn => by
    have := cAn_de hp hh n (by omega)
    rw [hL] at this
    exact this
  -- one back
  have back : ∀ (N : Nat) (T : Nat → Nat × Nat) (R : Nat → Nat → Option Nat) (vt nt : Nat), yLT T → yLR R → cU T R vs ns vq nq vt nt → vs < N → ∀ (X : Nat → Nat → Int) (n : Nat) (KK : yKo), n < L → cRw X W A m → (∀ j, X 93 j = I 93 j) → (∀ j, X 96 j = I 96 j) → (∀ j, X 97 j = I 97 j) → (∀ j, X vs j = I vs j) → (∀ j, X vq j = I vq j) →
      (∀ Y : Nat → Nat → Int, (∀ k j, ¬ (k = 95) → Y k j = X k j) → KK (some (yi (I vq (cAn pf h (n + 1))))) (N, T, R, Y)) → yW l zSS D cy zFk z (d + 1) 71 0 0 KK 0 0 0 [(0, yr (some 91)), (1, yi (I vq (cAn pf h n)))] [] (N, T, R, X) := by
    intro N T R vt nt hT hR hU hvs X n KK hn hX e3 e6 e7 es eq hkk
    obtain ⟨a1, a2⟩ := an n (by omega)
    have p0 : 0 < cAn pf h n := by
      rcases Nat.eq_zero_or_pos (cAn pf h n) with e | e
      · rw [e] at a2
        have : cDe pf 0 0 = 0 := rfl
        omega
      · exact e
    obtain ⟨c1, c2, c3, c4⟩ := b6 _ p0 a1
    obtain ⟨y, y1, y2⟩ := b2 _ a1
    obtain ⟨x, x1, x2⟩ := b2 (pf (cAn pf h n)) (by omega)
    obtain ⟨m1, m2⟩ := c4 x y x2 y2
    rw [y2]
    have x2' : I vq (cAn pf h (n + 1)) = (x : Int) := x2
    rw [x2'] at hkk
    exact w_71 hT hR hU hvs ap0.1 hX (by omega) (by omega) c3 (by rw [es]; exact m2) ((cMv_cg e3 e6 e7 x _ y).mpr m1) hkk
  -- it is told, from the last
  have tell : ∀ (nc nl N : Nat) (T : Nat → Nat × Nat) (R : Nat → Nat → Option Nat) (vt nt : Nat), nc ≤ bc → nl ≤ bs → yLT T → yLR R → cU T R vs ns vq nq vt nt → vs < N → vt < N → vt ≠ vq → (nt = 0 ∨ 126 ≤ vt) → L ≤ nt → ∀ (X : Nat → Nat → Int), (X 91 13 = (L : Int)) → cRw X W A m → (∀ j, X 93 j = I 93 j) → (∀ j, X 96 j = I 96 j) → (∀ j, X 97 j = I 97 j) → (∀ j, X vs j = I vs j) → (∀ j, X vq j = I vq j) →
      (∀ Y : Nat → Nat → Int, (∀ k j, ¬ (k = 95 ∨ k = vt) → Y k j = X k j) → K none (N, T, R, Y)) → yW l zSS D cy zFk z (d + 2) 82 bc bs K nc nl 65 [(0, yr (some 91)), (2, yi ((M - 1 : Nat) : Int))] [] (N, T, R, X) := by
    intro nc nl N T R vt nt hnb hsb hT hR hU hvs hvt hqt hat hLn X e13 hX e3 e6 e7 es eq hkk
    have hU0 := hU
    obtain ⟨u1, u2, u3, u4, u5, u6, u7, u8, u9⟩ := hU
    have tvs : vs ≠ vt := fun e => by rw [e, u8] at u2; cases u2
    refine Bd_82_65 hT hR hnb hsb u1 u2 u3 u4 u5 u6 u7 u8 u9 ?_
    rw [e13, ysub_eq (by omega) (by omega)]
    have loop : ∀ (n c : Nat) (X : Nat → Nat → Int), n + c = L → cRw X W A m → (∀ j, X 93 j = I 93 j) → (∀ j, X 96 j = I 96 j) → (∀ j, X 97 j = I 97 j) → (∀ j, X vs j = I vs j) → (∀ j, X vq j = I vq j) →
        (∀ Y : Nat → Nat → Int, (∀ k j, ¬ (k = 95 ∨ k = vt) → Y k j = X k j) → K none (N, T, R, Y)) → yW l zSS D cy zFk z (d + 2) 82 bc bs K nc nl 75 [(0, yr (some 91)), (3, yi (I vq (cAn pf h c))), (4, yi ((n : Int) - 1))] [] (N, T, R, X) := by
      intro n
      induction n with
      | zero =>
        intro c X hc hX e3 e6 e7 es eq hkk
        exact Bd_82_75 hT hR hnb hsb u1 u2 u3 u4 u5 u6 u7 u8 u9 ⟨fun _ => hkk X (fun _ _ _ => rfl), fun g => by omega⟩
      | succ n ih =>
        intro c X hc hX e3 e6 e7 es eq hkk
        have nt0 : 126 ≤ vt := by omega
        have h5 : X 91 2 = (m : Int) := hX.2.2.2.2.1
        have wr : ∀ (Y : Nat → Nat → Int) (v : Int), Y = yU X vt ((((n + 1 : Nat) : Int) - 1)).toNat v → yW l zSS D cy zFk z (d + 1) 71 0 0 (fun r h' => ∃ r10 I9, r = some (yi r10) ∧ h' = (N, T, R, I9) ∧ (yW l zSS D cy zFk z (d + 2) 82 bc bs K nc nl 75 [(0, yr (some 91)), (3, yi r10), (4, yi (yadd (((n + 1 : Nat) : Int) - 1) (-1)))] [] (N, T, R, I9))) 0 0 0 [(0, yr (some 91)), (1, yi (I vq (cAn pf h c)))] [] (N, T, R, Y) := by
          intro Y v hY
          have fY : ∀ k j, k ≠ vt → Y k j = X k j := fun k j g => by rw [hY, yU_ne _ _ (fun q => g q.1)]
          have YX : cRw Y W A m := cRw_cg hX (fY _ _ (by omega)) (fY _ _ (by omega)) (fY _ _ (by omega)) (fun j => fY _ _ (by omega)) (fun j => fY _ _ (by omega)) (fun j => fY _ _ (by omega))
          refine back N T R vt nt hT hR hU0 hvs Y c _ (by omega) YX (fun j => by rw [fY _ _ (by omega)]; exact e3 j) (fun j => by rw [fY _ _ (by omega)]; exact e6 j) (fun j => by rw [fY _ _ (by omega)]; exact e7 j) (fun j => by rw [fY _ _ tvs]; exact es j) (fun j => by rw [fY _ _ (fun g => hqt g.symm)]; exact eq j) (fun Y2 f2 => ⟨_, _, rfl, rfl, ?_⟩)
          rw [yadd_eq (by omega) (by omega), show ((n + 1 : Nat) : Int) - 1 + -1 = (n : Int) - 1 by omega]
          have Y2X : cRw Y2 W A m := cRw_cg YX (f2 _ _ (by omega)) (f2 _ _ (by omega)) (f2 _ _ (by omega)) (fun j => f2 _ _ (by omega)) (fun j => f2 _ _ (by omega)) (fun j => f2 _ _ (by omega))
          refine ih (c + 1) Y2 (by omega) Y2X (fun j => by rw [f2 _ _ (by omega), fY _ _ (by omega)]; exact e3 j) (fun j => by rw [f2 _ _ (by omega), fY _ _ (by omega)]; exact e6 j) (fun j => by rw [f2 _ _ (by omega), fY _ _ (by omega)]; exact e7 j) (fun j => by rw [f2 _ _ (by omega), fY _ _ tvs]; exact es j) (fun j => by rw [f2 _ _ (by omega), fY _ _ (fun g => hqt g.symm)]; exact eq j) (fun Z hZ => hkk Z (fun k j g => by rw [hZ k j g, f2 k j (fun e => g (.inl e)), fY k j (fun e => g (.inr e))]))
        refine Bd_82_75 hT hR hnb hsb u1 u2 u3 u4 u5 u6 u7 u8 u9 ⟨fun g => by omega, fun _ => ⟨fun g => by omega, fun _ => w_81 hT hR hU0 hvs (fun r4 hr1 hr2 => ⟨_, _, rfl, rfl, fun g => ⟨by omega, by omega, fun Y hY => wr Y _ hY⟩, fun g => ?_⟩)⟩⟩
        have rng : 0 ≤ r4 ∧ r4 < 2147483648 := by
          by_cases c0 : 0 ≤ I vq (cAn pf h c) ∧ I vq (cAn pf h c) < (ns : Int) ∧ 0 < X vs (I vq (cAn pf h c)).toNat
          · have g1 := hr1 c0.1 c0.2.1 c0.2.2
            obtain ⟨a1, -⟩ := an c (by omega)
            obtain ⟨y, y1, y2⟩ := b2 _ a1
            rw [y2, es, show ((y : Int)).toNat = y by omega] at g1
            rcases Nat.eq_zero_or_pos (cAn pf h c) with e | e
            · exfalso
              obtain ⟨_, a2⟩ := an c (by omega)
              rw [e] at a2
              have : cDe pf 0 0 = 0 := rfl
              omega
            · obtain ⟨c1, c2, c3, c4⟩ := b6 _ e a1
              obtain ⟨x, x1, x2⟩ := b2 (pf (cAn pf h c)) (by omega)
              have := (c4 x y x2 y2).2
              omega
          · have := hr2 c0; omega
        have dv : 0 ≤ ydiv r4 4 := by rw [ydiv_eq (by omega) (by omega) (by omega) (by omega)]; omega
        exact ⟨dv, by omega, by omega, by omega, fun Y hY => wr Y _ hY⟩
    have e0 : I vq (cAn pf h 0) = ((M - 1 : Nat) : Int) := he
    have := loop L 0 X (by omega) hX e3 e6 e7 es eq hkk
    rw [e0] at this
    exact this
  obtain ⟨u1, u2, u3, u4, u5, u6, u7, u8, u9⟩ := hU
  refine Bd_82_0 hT hR (Nat.zero_le _) (Nat.zero_le _) u1 u2 u3 u4 u5 u6 u7 u8 u9 (fun X hX => ?_)
  have fX : ∀ k j, ¬ (k = 91 ∧ j = 13) → X k j = I k j := fun k j g => by rw [hX, yU_ne _ _ g]
  have count : ∀ (n c : Nat) (X : Nat → Nat → Int), n + c = L → (∀ k j, ¬ (k = 95 ∨ (k = 91 ∧ j = 13)) → X k j = I k j) → X 91 13 = (c : Int) → yW l zSS D cy zFk z (d + 2) 82 bc bs K 0 0 7 [(0, yr (some 91)), (1, yi (x0 : Int)), (2, yi ((M - 1 : Nat) : Int)), (3, yi (I vq (cAn pf h c)))] [] (N, T, R, X) := by
    intro n
    induction n with
    | zero =>
      intro c X hc fX e13
      have cL : c = L := by omega
      subst cL
      obtain ⟨a1, a2⟩ := an c (Nat.le_refl _)
      have e0 : cAn pf h c = 0 := cDe_0 hp a1 (by omega)
      have XI : cRw X W A m := cRw_cg hI0 (fX _ _ (by omega)) (fX _ _ (by omega)) (fX _ _ (by omega)) (fun j => fX _ _ (by omega)) (fun j => fX _ _ (by omega)) (fun j => fX _ _ (by omega))
      have g43 : yW l zSS D cy zFk z (d + 2) 82 bc bs K 0 0 43 [(0, yr (some 91)), (2, yi ((M - 1 : Nat) : Int))] [] (N, T, R, X) := by
        refine Bd_82_43 hT hR (Nat.zero_le _) (Nat.zero_le _) h126 u1 u2 u3 u4 u5 u6 u7 u8 u9 ⟨fun g => ?_, fun g => ?_⟩
        · exact tell 0 0 N T R vt nt (Nat.zero_le _) (Nat.zero_le _) hT hR hU0 hvs hvt hqt hat (by omega) X e13 XI (fun j => fX _ _ (by omega)) (fun j => fX _ _ (by omega)) (fun j => fX _ _ (by omega)) (fun j => fX _ _ (by omega)) (fun j => fX _ _ (by omega)) (fun Y hY => hk N T R Y vt nt hU0 (.inl ⟨rfl, rfl, rfl, rfl, rfl⟩) (fun k j _ g2 => by rw [hY k j (by omega)]; exact fX k j (by omega)))
        · refine ⟨c, e13, by omega, by omega, by omega, fun T2 R3 I4 e1 e2 e3 R12 e4 => ?_⟩
          have hT2 : yLT T2 := by rw [e1]; exact yLT_nw h126 hT
          have hR2 : yLR R12 := by rw [e4, e2]; exact yLR_up (by decide) (yLR_nw h126 hR)
          have hU2 : cU T2 R12 vs ns vq nq N c := by
            refine ⟨?_, ?_, u3, ?_, ?_, u6, ?_, ?_, by omega⟩
            · rw [e4, yUR_ne _ _ (by omega), e2, yNR_ne _ _ (by omega)]; exact u1
            · rw [e1, yNT_ne _ _ _ (by omega)]; exact u2
            · rw [e4, yUR_ne _ _ (by omega), e2, yNR_ne _ _ (by omega)]; exact u4
            · rw [e1, yNT_ne _ _ _ (by omega)]; exact u5
            · rw [e4, yUR_eq]
            · rw [e1, yNT_eq]
          have f4 : ∀ k j, k < N → I4 k j = X k j := fun k j g => by rw [e3, yNI_ne _ _ (by omega)]
          have XI4 : cRw I4 W A m := cRw_cg XI (f4 _ _ (by omega)) (f4 _ _ (by omega)) (f4 _ _ (by omega)) (fun j => f4 _ _ (by omega)) (fun j => f4 _ _ (by omega)) (fun j => f4 _ _ (by omega))
          refine tell (0 + 1) (0 + c) (N + 1) T2 R12 N c (by omega) (by omega) hT2 hR2 hU2 (by omega) (by omega) (by omega) (.inr h126) (Nat.le_refl _) I4 (by rw [f4 _ _ (by omega)]; exact e13) XI4 (fun j => by rw [f4 _ _ (by omega)]; exact fX _ _ (by omega)) (fun j => by rw [f4 _ _ (by omega)]; exact fX _ _ (by omega)) (fun j => by rw [f4 _ _ (by omega)]; exact fX _ _ (by omega)) (fun j => by rw [f4 _ _ hvs]; exact fX _ _ (by omega)) (fun j => by rw [f4 _ _ hvq]; exact fX _ _ (by omega)) (fun Y hY => hk (N + 1) T2 R12 Y N c hU2 (.inr ⟨by omega, fl, rfl, by rw [e1], by rw [e4, e2], rfl⟩) (fun k j g1 g2 => by rw [hY k j (by omega), f4 k j g1]; exact fX k j (by omega)))
      refine Bd_82_7 hT hR (Nat.zero_le _) (Nat.zero_le _) u1 u2 u3 u4 u5 u6 u7 u8 u9 ⟨fun _ => g43, fun g => absurd (by rw [e0, h0]) g⟩
    | succ n ih =>
      intro c X hc fX e13
      obtain ⟨a1, a2⟩ := an c (by omega)
      have ne : I vq (cAn pf h c) ≠ (x0 : Int) := fun e => by
        have e0 := b3 _ 0 a1 (by omega) (by rw [e, h0])
        rw [e0] at a2
        have : cDe pf 0 0 = 0 := rfl
        omega
      have XI : cRw X W A m := cRw_cg hI0 (fX _ _ (by omega)) (fX _ _ (by omega)) (fX _ _ (by omega)) (fun j => fX _ _ (by omega)) (fun j => fX _ _ (by omega)) (fun j => fX _ _ (by omega))
      refine Bd_82_7 hT hR (Nat.zero_le _) (Nat.zero_le _) u1 u2 u3 u4 u5 u6 u7 u8 u9 ⟨fun g => absurd g ne, fun _ => ⟨fun g => by omega, fun _ Y hY => ?_⟩⟩
      rw [e13, yadd_eq (by omega) (by omega)] at hY
      have fY : ∀ k j, ¬ (k = 91 ∧ j = 13) → Y k j = X k j := fun k j g => by rw [hY, yU_ne _ _ g]
      have YI : cRw Y W A m := cRw_cg XI (fY _ _ (by omega)) (fY _ _ (by omega)) (fY _ _ (by omega)) (fun j => fY _ _ (by omega)) (fun j => fY _ _ (by omega)) (fun j => fY _ _ (by omega))
      refine back N T R vt nt hT hR hU0 hvs Y c _ (by omega) YI (fun j => by rw [fY _ _ (by omega)]; exact fX _ _ (by omega)) (fun j => by rw [fY _ _ (by omega)]; exact fX _ _ (by omega)) (fun j => by rw [fY _ _ (by omega)]; exact fX _ _ (by omega)) (fun j => by rw [fY _ _ (by omega)]; exact fX _ _ (by omega)) (fun j => by rw [fY _ _ (by omega)]; exact fX _ _ (by omega)) (fun Y2 f2 => ⟨_, _, rfl, rfl, ?_⟩)
      refine ih (c + 1) Y2 (by omega) (fun k j g => by rw [f2 k j (by omega), fY k j (by omega)]; exact fX k j g) ?_
      rw [f2 _ _ (by omega), hY, yU_eq]; omega
  refine count L 0 X (by omega) (fun k j g => fX k j (by omega)) (by rw [hX, yU_eq]; rfl) |> fun g => ?_
  have e0 : I vq (cAn pf h 0) = ((M - 1 : Nat) : Int) := he
  rw [e0] at g
  exact g
end Cu
