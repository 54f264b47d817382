/-! THE WHOLE HEAP between two calls of the law (printed by wip/whole/y/gen200.py) -/
/-- a land of the class bears the NAMES of a row of the reference -/
def nmE (I : Nat → Nat → Int) (p : Nat) (c : Int) (r b : Nat) : Prop := (I p 5 = c ∧ 0 ≤ c ∧ c ≤ 8) ∧ ∀ i : Nat, (i : Int) < c → isW (I r (b + i)) ∧ I (p + 4) i = cv 7 (I r (b + i))
def wNm (R : Nat → Nat → Option Nat) (I : Nat → Nat → Int) : Prop := cDs R ∧ nmE I 4 (I 104 2) 107 0 ∧ ∀ i p, i < 2 → R 101 i = some p → nmE I (p + 1) (I 123 (1188 * i + 2)) 124 (8 * i)
/-- the tape is the same; the reference's WORDS; NAMES -/
def wTp (R : Nat → Nat → Option Nat) (I : Nat → Nat → Int) : Prop := I 1 1 = I 102 2 ∧ (∀ j : Nat, (j : Int) < I 102 2 → I 2 j = I 103 j ∧ -128 ≤ I 103 j ∧ I 103 j < 128) ∧ (∀ i, i < 24 → I 108 i = rCd i) ∧ wNm R I
theorem nmE_cg {I I' : Nat → Nat → Int} {p p' r r' b b' : Nat} {c c' : Int} (h : nmE I p c r b) (e5 : I' p' 5 = I p 5) (ec : c' = c) (e4 : ∀ j, j < 8 → I' (p' + 4) j = I (p + 4) j) (er : ∀ j, j < 8 → I' r' (b' + j) = I r (b + j)) : nmE I' p' c' r' b' := by
  subst ec
  refine ⟨by rw [e5]; exact h.1, fun i hi => ?_⟩
  have := h.1.2.2
  rw [er i (by omega), e4 i (by omega)]
  exact h.2 i hi
theorem nmE_nm {I : Nat → Nat → Int} {b : Nat} {c : Int} (h : nmE I 4 c 107 b) : cNm I 4 c.toNat (fun i => I 107 (b + i)) ∧ mNm I b c.toNat (fun i => I 107 (b + i)) := by
  obtain ⟨⟨h1, h2, h3⟩, h4⟩ := h
  exact ⟨⟨⟨by omega, by omega⟩, fun i hi => ⟨(h4 i (by omega)).2, (h4 i (by omega)).1⟩⟩, by omega, fun i hi => ⟨rfl, (h4 i (by omega)).1⟩⟩
/-- the class's cells, the reference's, and how they go together; ns: how long the UNTIER's marks are; cell 126: the law's row of one long -/
def wInv (N : Nat) (T : Nat → Nat × Nat) (R : Nat → Nat → Option Nat) (I : Nat → Nat → Int) (ns : Nat) : Prop :=
  cInv N T R I ns ∧ uInv I ∧ wTp R I ∧ (∀ i : Nat, i < 2 → (R 101 i = none ↔ I 125 i = 0)) ∧ T 126 = (2, 1) ∧ 127 ≤ N ∧ I 1 10 = I 102 15
section Wi
variable {N ns : Nat} {T : Nat → Nat × Nat} {R : Nat → Nat → Option Nat} {I : Nat → Nat → Int}
theorem cInv_cg {I' : Nat → Nat → Int} (h : cInv N T R I ns) (f : ∀ k j, (k < 102 ∨ (126 ≤ k ∧ (T k).1 = 11)) → I' k j = I k j) : cInv N T R I' ns := by
  obtain ⟨a, b, c, e, g, i, m, n, o, p⟩ := h
  refine ⟨a, b, c, e, g, cHk_cg i (f 89 1 (.inl (by decide))), m, cIl_cg m n (fun _ _ => rfl) (fun k j h1 _ h2 => f k j (.inr ⟨h1, h2⟩)), by rw [f 1 1 (.inl (by decide))]; exact o, ?_⟩
  unfold cLd
  rw [f 4 0 (.inl (by decide)), f 4 1 (.inl (by decide))]
  exact p
theorem uInv_cg {I' : Nat → Nat → Int} (h : uInv I) (f : ∀ k j, 102 ≤ k → k < 126 → I' k j = I k j) : uInv I' := by
  have e := fun j => f 104 j (by decide) (by decide)
  have e2 := f 102 2 (by decide) (by decide)
  have e42 := f 102 42 (by decide) (by decide)
  have e14 := f 102 14 (by decide) (by decide)
  refine uInv_k h (fun j _ => e j) (mPl_lt h.1.1.2.2.1 (fun j _ _ => e j)) (mCo_lt h.1.1.2.2.2 (fun j _ _ => e j)) (fun i hi => ?_) (fun j => f _ j (by decide) (by decide)) (f _ _ (by decide) (by decide)) (fun j => f _ j (by decide) (by decide)) (fun j => f _ j (by decide) (by decide)) (by rw [e2]; exact h.2.2.2.1) (by rw [e42]; exact h.2.2.2.2.1) (by rw [e14]; exact h.2.2.2.2.2.1) (fun j hj => ?_)
  · rw [f 111 i (by decide) (by decide), f 112 i (by decide) (by decide)]
    exact h.1.1.1.2.2.2.2.2.2 i hi
  · rw [f 122 j (by decide) (by decide)]
    exact h.2.2.2.2.2.2 j hj
variable {N' ns' : Nat} {T' : Nat → Nat × Nat} {R' : Nat → Nat → Option Nat} {I' I'' : Nat → Nat → Int}
/-- images bear their NAMES still -/
theorem w_ni {L L' : Int} (h : wInv N T R I ns) (hc : cPo N T R I N' T' R' I' ns' L) (hu : uPo I' I'' L') : cDs R' ∧ ∀ i p, i < 2 → R' 101 i = some p → nmE I'' (p + 1) (I'' 123 (1188 * i + 2)) 124 (8 * i) := by
  obtain ⟨h1, h2, ⟨h3, ht, hw, d, e, f⟩, h4, h5, h6, h7⟩ := h
  obtain ⟨c1, c2, c3, c4, c5, c6, c7, c8⟩ := hc
  obtain ⟨u1, u2, u3, u4, u5, u6, u7⟩ := hu
  refine ⟨fun p q0 q1 => d p (by rw [← c7 0 (by decide)]; exact q0) (by rw [← c7 1 (by decide)]; exact q1), fun i p hi q => ?_⟩
  rw [c7 i hi] at q
  obtain ⟨g2, g3, g4⟩ : 126 ≤ p ∧ p + 32 ≤ N ∧ cWd T R p := by
    rcases h1.2.2.2.2.2.2.1 i hi with g | ⟨p2, g1, g2, g3, g4⟩
    · rw [g] at q; cases q
    · rw [q] at g1; cases g1; exact ⟨g2, g3, g4⟩
  refine nmE_cg (f i p hi q) ?_ ?_ (fun j _ => ?_) (fun j _ => ?_)
  · rw [u2 (p + 1) 5 (.inr (by omega)), c8 (p + 1) 5 (by omega) (by omega) (.inl (by rw [show T (p + 1) = (11, 15) from g4.2.1.1 0 rfl]))]
  · rw [(u7 _).1, c3 123 _ (by decide) (by decide)]
  · rw [u2 (p + 1 + 4) j (.inr (by omega)), c8 (p + 1 + 4) j (by omega) (by omega) (.inr (by rw [show T (p + 1 + 4) = (2, 8) from g4.2.1.1 4 rfl]))]
  · rw [(u7 _).2, c3 124 _ (by decide) (by decide)]
/-- NAMES are kept -/
theorem w_nk {L L' : Int} (h : wInv N T R I ns) (hc : cPo N T R I N' T' R' I' ns' L) (cl : cLm I I') (hu : uPo I' I'' L') (ul : I'' 104 2 = I' 104 2 ∧ ∀ j, j < 8 → I'' 107 j = I' 107 j) : wNm R' I'' := by
  obtain ⟨a, b⟩ := w_ni h hc hu
  have e := h.2.2.1.2.2.2.2.1
  have c3 := hc.2.2.1
  refine ⟨a, nmE_cg e ?_ ?_ (fun j _ => ?_) (fun j hj => ?_), b⟩
  · rw [hu.2.1 4 5 (.inl (by decide))]; exact cl.1
  · rw [ul.1, c3 104 2 (by decide) (by decide)]
  · show I'' 8 j = I 8 j
    rw [hu.2.1 8 j (.inl (by decide))]; exact cl.2 j
  · rw [show 0 + j = j by omega, ul.2 j hj, c3 107 j (by decide) (by decide)]
/-- NAMES behind ALLEYS -/
theorem w_na {L L' : Int} {n n' : Nat} (h : wInv N T R I ns) (hc : cPo N T R I N' T' R' I' ns' L) (hu : uPo I' I'' L') (hn : n' = n) (ht : ∀ j, j < n → I 2 j = I' 103 j)
    (q1 : ∀ f, zAl (I 2) n = .inl f → cLm I I') (q2 : ∀ S c, zAl (I 2) n = .inr (S, c) → cLr I' 4 S) (u1 : ∀ f, zAl (I' 103) n' = .inl f → I'' 104 2 = I' 104 2 ∧ ∀ j, j < 8 → I'' 107 j = I' 107 j) (u2 : ∀ S c, zAl (I' 103) n' = .inr (S, c) → I'' 104 2 = (S.ch : Int) ∧ mNm I'' 0 S.ch S.nm) : wNm R' I'' := by
  subst hn
  have ez := zAl_cg ht
  cases hz : zAl (I 2) n' with
  | inl f => exact w_nk h hc (q1 f hz) hu (u1 f (by rw [← ez]; exact hz))
  | inr x =>
    obtain ⟨S, c⟩ := x
    have L4 := q2 S c hz
    obtain ⟨e2, m⟩ := u2 S c (by rw [← ez]; exact hz)
    obtain ⟨a, b⟩ := w_ni h hc hu
    have c8 := L4.2.2.2.2.1.2
    refine ⟨a, ⟨⟨?_, by omega, by omega⟩, fun i hi => ?_⟩, b⟩
    · rw [hu.2.1 4 5 (.inl (by decide)), e2]; exact L4.2.2.2.2.1.1
    · have g := L4.2.2.2.2.2.1 i (by omega)
      have k := m.2 i (by omega)
      refine ⟨by rw [k.1]; exact k.2, ?_⟩
      rw [k.1, show (4 + 4 : Nat) = 8 from rfl, hu.2.1 8 i (.inl (by decide))]
      exact g.1
/-- NAMES behind restore -/
theorem w_nr {L L' : Int} (h : wInv N T R I ns) (hc : cPo N T R I N' T' R' I' ns' L) (hu : uPo I' I'' L') {x r r2 : Int} (er : r = r2) (hx : r = 1 → x.toNat < 2)
    (q : (r = 0 ∧ cLm I I') ∨ (r = 1 ∧ ∃ p, R 101 x.toNat = some p ∧ I' 4 5 = I (p + 1) 5 ∧ ∀ j, j < 8 → I' 8 j = I (p + 5) j)) (u : (r2 = 0 ∧ uLm I' I'') ∨ (r2 = 1 ∧ I'' 104 2 = I' 123 (1188 * x.toNat + 2) ∧ ∀ j, j < 8 → I'' 107 j = I' 124 (8 * x.toNat + j))) : wNm R' I'' := by
  rcases q with ⟨q0, cl⟩ | ⟨q1, p, ep, e5, e8⟩
  · have ul := (u.resolve_right (fun g => by omega)).2
    exact w_nk h hc cl hu ⟨ul.1, fun j _ => ul.2 j⟩
  · obtain ⟨_, k2, k7⟩ := u.resolve_left (fun g => by omega)
    obtain ⟨a, b⟩ := w_ni h hc hu
    have f := h.2.2.1.2.2.2.2.2 x.toNat p (hx q1) ep
    have c3 := hc.2.2.1
    refine ⟨a, nmE_cg f ?_ ?_ (fun j hj => ?_) (fun j hj => ?_), b⟩
    · rw [hu.2.1 4 5 (.inl (by decide))]; exact e5
    · rw [k2, c3 123 _ (by decide) (by decide)]
    · show I'' 8 j = I (p + 1 + 4) j
      rw [hu.2.1 8 j (.inl (by decide))]; exact e8 j hj
    · rw [show 0 + j = j by omega, k7 j hj, c3 124 _ (by decide) (by decide)]
/-- behind a call of the class and one of the reference -/
theorem w_cu {L L' : Int} (h : wInv N T R I ns) (hc : cPo N T R I N' T' R' I' ns' L) (hu : uPo I' I'' L') (hL : L = L') (hb : ∀ j : Nat, (j : Int) < L → ¬ (j : Int) < I 1 1 → I'' 2 j = I'' 103 j ∧ -128 ≤ I'' 103 j ∧ I'' 103 j < 128) (nn : wNm R' I'') (ff : I'' 1 10 = I'' 102 15) : wInv N' T' R' I'' ns' := by
  obtain ⟨h1, h2, ⟨h3, ht, hw, hn⟩, h4, h5, h6, h7⟩ := h
  obtain ⟨c1, c2, c3, c4, c5, c6, c7, c8⟩ := hc
  obtain ⟨u1, u2, u3, u4, u5, u6, u7⟩ := hu
  have n := c2.1
  refine ⟨cInv_cg c1 (fun k j g => u2 k j (g.imp_right And.left)), u1, ⟨?_, fun j hj => ?_, fun i hi => ?_, nn⟩, fun i hi => ?_, ?_, by omega, ff⟩
  · rw [u2 1 1 (.inl (by decide)), c4, u3]; exact hL
  · rw [u3] at hj
    by_cases g : (j : Int) < I 1 1
    · rw [u2 2 j (.inl (by decide)), c6 j g, u5 j (by rw [c3 102 2 (by decide) (by decide), ← h3]; exact g), c3 103 j (by decide) (by decide)]
      exact ht j (by rw [← h3]; exact g)
    · exact hb j (by rw [hL]; exact hj) g
  · rw [u6, c3 108 i (by decide) (by decide)]; exact hw i hi
  · rw [c5 i hi, u4 i hi, c3 125 i (by decide) (by decide)]; exact h4 i hi
  · rw [c2.2 126 (by omega)]; exact h5
/-- what FEED adds -/
theorem w_fd {L L' : Int} {B : Nat → Int} (h : wInv N T R I ns) (hc : cPo N T R I N' T' R' I' ns' L) (hu : uPo I' I'' L') (hL : L = L') (hl : L = I 1 1 ∨ L = I 1 1 + 20) (q : L = I 1 1 + 20 → ∀ q, q < 20 → I' 2 ((I 1 1).toNat + q) = B q) (u : L' = I' 102 2 + 20 → ∀ q, q < 20 → I'' 103 ((I' 102 2).toNat + q) = B q) (hB : ∀ q, -128 ≤ B q ∧ B q < 128) :
    ∀ j : Nat, (j : Int) < L → ¬ (j : Int) < I 1 1 → I'' 2 j = I'' 103 j ∧ -128 ≤ I'' 103 j ∧ I'' 103 j < 128 := by
  intro j h1 h2
  have h3 := h.2.2.1.1
  have e2 : I' 102 2 = I 102 2 := hc.2.2.1 102 2 (by decide) (by decide)
  have n0 := h.1.2.2.2.2.2.2.2.2.1
  have l20 : L = I 1 1 + 20 := by omega
  have a := q l20 (j - (I 1 1).toNat) (by omega)
  have b := u (by omega) (j - (I 1 1).toNat) (by omega)
  rw [show (I 1 1).toNat + (j - (I 1 1).toNat) = j by omega] at a
  rw [show (I' 102 2).toNat + (j - (I 1 1).toNat) = j by omega] at b
  rw [hu.2.1 2 j (.inl (by decide)), a, b]
  exact ⟨rfl, hB _⟩
/-- behind images -/
theorem w_im (h : wInv N T R I ns) (c1 : cInv N' T' R' I' ns) (c2 : N ≤ N' ∧ ∀ k, k < N → T' k = T k) (c3 : ∀ k j, 102 ≤ k → k < 126 → I' k j = I k j) (c4 : I' 1 1 = I 1 1) (c6 : ∀ j, I' 2 j = I 2 j) (u1 : uInv I'') (u2 : ∀ k j, (k < 102 ∨ 126 ≤ k) → I'' k j = I' k j) (u3 : I'' 102 2 = I' 102 2) (u5 : ∀ j, I'' 103 j = I' 103 j ∧ I'' 108 j = I' 108 j) {x r r2 : Int} (cd : cDs R') (cn : ∀ i p, i < 2 → R' 101 i = some p → (r = 1 ∧ (i : Int) = x ∧ I' (p + 1) 5 = I 4 5 ∧ ∀ j, j < 8 → I' (p + 5) j = I 8 j) ∨ (¬ (r = 1 ∧ (i : Int) = x) ∧ R 101 i = some p ∧ I' (p + 1) 5 = I (p + 1) 5 ∧ ∀ j, I' (p + 5) j = I (p + 5) j)) (cl : cLn I I')
    (un : ∀ i : Nat, i < 2 → (r2 = 1 ∧ (i : Int) = x ∧ (∀ j, j < 1188 → I'' 123 (1188 * i + j) = I' 104 j) ∧ ∀ j, j < 8 → I'' 124 (8 * i + j) = I' 107 j) ∨ (¬ (r2 = 1 ∧ (i : Int) = x) ∧ (∀ j, j < 1188 → I'' 123 (1188 * i + j) = I' 123 (1188 * i + j)) ∧ ∀ j, j < 8 → I'' 124 (8 * i + j) = I' 124 (8 * i + j))) (ul : uLn I' I'')
    (hc : (r = 1 ∧ 0 ≤ x ∧ x < 2 ∧ R' 101 x.toNat ≠ none ∧ ∀ i, i < 2 → i ≠ x.toNat → R' 101 i = R 101 i) ∨ (r = 0 ∧ ¬ (0 ≤ x ∧ x < 2) ∧ ∀ i, R' 101 i = R 101 i))
    (hu : (r2 = 1 ∧ 0 ≤ x ∧ x ≤ 1 ∧ ∀ j, I'' 125 j = if j = x.toNat then 1 else I' 125 j) ∨ (r2 = 0 ∧ ¬ (0 ≤ x ∧ x ≤ 1) ∧ ∀ j, I'' 125 j = I' 125 j)) : r = r2 ∧ wInv N' T' R' I'' ns := by
  obtain ⟨h1, h2, ⟨h3, ht, hw, hd, hn, hf⟩, h4, h5, h6, h7⟩ := h
  have n := c2.1
  have er : r = r2 := by omega
  have im : ∀ i p, i < 2 → R' 101 i = some p → 126 ≤ p := fun i p hi q => by
    rcases c1.2.2.2.2.2.2.1 i hi with g | ⟨p2, g1, g2, g3, g4⟩
    · rw [g] at q; cases q
    · rw [q] at g1; cases g1; exact g2
  refine ⟨by omega, cInv_cg c1 (fun k j g => u2 k j (g.imp_right And.left)), u1, ⟨?_, fun j hj => ?_, fun i hi => ?_, cd, nmE_cg hn ?_ ?_ (fun j _ => ?_) (fun j hj => ?_), fun i p hi q => ?_⟩, fun i hi => ?_, ?_, by omega, by rw [u2 1 10 (.inl (by decide)), cl.2, ul.2, c3 102 15 (by decide) (by decide)]; exact h7⟩
  · rw [u2 1 1 (.inl (by decide)), c4, u3, c3 102 2 (by decide) (by decide)]; exact h3
  · rw [u3, c3 102 2 (by decide) (by decide)] at hj
    rw [u2 2 j (.inl (by decide)), c6, (u5 j).1, c3 103 j (by decide) (by decide)]
    exact ht j hj
  · rw [(u5 i).2, c3 108 i (by decide) (by decide)]; exact hw i hi
  · rw [u2 4 5 (.inl (by decide))]; exact cl.1.1
  · rw [ul.1.1, c3 104 2 (by decide) (by decide)]
  · show I'' 8 j = I 8 j
    rw [u2 8 j (.inl (by decide))]; exact cl.1.2 j
  · rw [show 0 + j = j by omega, ul.1.2 j, c3 107 j (by decide) (by decide)]
  · have p126 := im i p hi q
    rcases cn i p hi q with ⟨r1, xi, e5, e8⟩ | ⟨r1, eR, e5, e8⟩
    · obtain ⟨_, _, k1, k2⟩ := (un i hi).resolve_right (fun g => g.1 ⟨by omega, xi⟩)
      refine nmE_cg hn ?_ ?_ (fun j hj => ?_) (fun j hj => ?_)
      · rw [u2 (p + 1) 5 (.inr (by omega))]; exact e5
      · rw [k1 2 (by decide), c3 104 2 (by decide) (by decide)]
      · show I'' (p + 5) j = I 8 j
        rw [u2 (p + 5) j (.inr (by omega))]; exact e8 j hj
      · rw [show 0 + j = j by omega, k2 j hj, c3 107 j (by decide) (by decide)]
    · obtain ⟨_, k1, k2⟩ := (un i hi).resolve_left (fun g => r1 ⟨by omega, g.2.1⟩)
      refine nmE_cg (hf i p hi eR) ?_ ?_ (fun j hj => ?_) (fun j hj => ?_)
      · rw [u2 (p + 1) 5 (.inr (by omega))]; exact e5
      · rw [k1 2 (by decide), c3 123 _ (by decide) (by decide)]
      · show I'' (p + 5) j = I (p + 5) j
        rw [u2 (p + 5) j (.inr (by omega))]; exact e8 j
      · rw [k2 j hj, c3 124 _ (by decide) (by decide)]
  · have e := c3 125 i (by decide) (by decide)
    rcases hc with ⟨_, a1, a2, a3, a4⟩ | ⟨_, a1, a2⟩
    · rcases hu with ⟨_, b1, b2, b3⟩ | ⟨_, b1, b2⟩
      · rw [b3 i]
        by_cases g : i = x.toNat
        · rw [if_pos g, g]
          exact ⟨fun q => absurd q a3, fun q => by cases q⟩
        · rw [if_neg g, a4 i hi g, e]
          exact h4 i hi
      · exact absurd ⟨a1, by omega⟩ b1
    · rcases hu with ⟨_, b1, b2, b3⟩ | ⟨_, b1, b2⟩
      · exact absurd ⟨b1, by omega⟩ a1
      · rw [a2 i, b2 i, e]
        exact h4 i hi
  · rw [c2.2 126 (by omega)]; exact h5
/-- restore answers alike -/
theorem w_re {L : Int} (h : wInv N T R I ns) (hc : cPo N T R I N' T' R' I' ns' L) {x r r2 : Int}
    (q : (r = 0 ∧ ¬ (0 ≤ x ∧ x < 2 ∧ R 101 x.toNat ≠ none)) ∨ (r = 1 ∧ (0 ≤ x ∧ x < 2 ∧ R 101 x.toNat ≠ none)))
    (u : (r2 = 0 ∧ ¬ (0 ≤ x ∧ x ≤ 1 ∧ I' 125 x.toNat ≠ 0)) ∨ (r2 = 1 ∧ (0 ≤ x ∧ x ≤ 1 ∧ I' 125 x.toNat ≠ 0))) : r = r2 := by
  have e := hc.2.2.1 125 x.toNat (by decide) (by decide)
  rw [e] at u
  rcases q with ⟨q1, q2⟩ | ⟨q1, a, b, c⟩
  · rcases u with ⟨u1, _⟩ | ⟨u1, a, b, c⟩
    · omega
    · exact absurd ⟨a, by omega, fun g => c ((h.2.2.2.1 x.toNat (by omega)).mp g)⟩ q2
  · rcases u with ⟨u1, u2⟩ | ⟨u1, _⟩
    · exact absurd ⟨a, by omega, fun g => c ((h.2.2.2.1 x.toNat (by omega)).mpr g)⟩ u2
    · omega
/-- the law's row of one long, and what the reference keeps, changed -/
theorem w_ou {L' : Int} (h : wInv N T R I ns) (f : ∀ k j, k ≠ 126 → I' k j = I k j) (hu : uPo I' I'' L') (hL : L' = I' 102 2) (ul : uLn I' I'') : wInv N T R I'' ns := by
  obtain ⟨h1, h2, ⟨h3, ht, hw, hd, hn, hf⟩, h4, h5, h6, h7⟩ := h
  obtain ⟨u1, u2, u3, u4, u5, u6, u7⟩ := hu
  refine ⟨cInv_cg h1 (fun k j g => ?_), u1, ⟨?_, fun j hj => ?_, fun i hi => ?_, hd, nmE_cg hn ?_ ?_ (fun j _ => ?_) (fun j hj => ?_), fun i p hi q => ?_⟩, fun i hi => ?_, h5, h6, by rw [u2 1 10 (.inl (by decide)), ul.2, f 1 10 (by decide), f 102 15 (by decide)]; exact h7⟩
  · rw [u2 k j (g.imp_right And.left)]
    refine f k j (fun q => ?_)
    subst q
    rcases g with g | g
    · omega
    · rw [h5] at g; exact absurd g.2 (by decide)
  · rw [u2 1 1 (.inl (by decide)), u3, hL, f 1 1 (by decide), f 102 2 (by decide)]; exact h3
  · rw [u3, hL] at hj
    rw [u2 2 j (.inl (by decide)), u5 j hj, f 2 j (by decide), f 103 j (by decide)]
    exact ht j (by rw [← f 102 2 (by decide)]; exact hj)
  · rw [u6, f 108 i (by decide)]; exact hw i hi
  · rw [u2 4 5 (.inl (by decide)), f 4 5 (by decide)]
  · rw [ul.1.1, f 104 2 (by decide)]
  · rw [u2 (4 + 4) j (.inl (by decide)), f (4 + 4) j (by decide)]
  · rw [ul.1.2, f 107 _ (by decide)]
  · have p126 : 126 ≤ p ∧ T p = (19, 4) ∧ T (p + 5) = (2, 8) := by
      rcases h1.2.2.2.2.2.2.1 i hi with g | ⟨p2, g1, g2, g3, g4⟩
      · rw [g] at q; cases q
      · rw [q] at g1; cases g1; exact ⟨g2, g4.1.1 0 rfl, g4.2.1.1 4 rfl⟩
    refine nmE_cg (hf i p hi q) ?_ ?_ (fun j hj => ?_) (fun j hj => ?_)
    · rw [u2 (p + 1) 5 (.inr (by omega)), f (p + 1) 5 (by omega)]
    · rw [(u7 _).1, f 123 _ (by decide)]
    · rw [u2 (p + 1 + 4) j (.inr (by omega)), f (p + 1 + 4) j (by omega)]
    · rw [(u7 _).2, f 124 _ (by decide)]
  · rw [u4 i hi, f 125 i (by decide)]; exact h4 i hi
end Wi
/-! how many slots the UNTIER's marks may still take -/
def gVl : List Nat := (List.range 37).flatMap (fun s => [1, s + 1, (s + 1) * (s + 1), (s + 1) * ((s + 1) * (s + 1))])
def gPt (ns : Nat) : Nat := 2 * (gVl.filter (fun v => decide (ns < v))).sum
theorem gPt_le {ns n : Nat} (h : ns ≤ n) : ∀ l : List Nat, (l.filter (fun v => decide (n < v))).sum ≤ (l.filter (fun v => decide (ns < v))).sum := by
  intro l
  induction l with
  | nil => exact Nat.le_refl _
  | cons a t ih =>
    rw [List.filter_cons, List.filter_cons]
    by_cases g : n < a
    · rw [if_pos (by simpa using g), if_pos (by simpa using (show ns < a by omega)), List.sum_cons, List.sum_cons]; omega
    · rw [if_neg (by simpa using g)]
      split
      · rw [List.sum_cons]; omega
      · exact ih
theorem gPt_in {ns n : Nat} (h : ns < n) : ∀ l : List Nat, n ∈ l → (l.filter (fun v => decide (n < v))).sum + n ≤ (l.filter (fun v => decide (ns < v))).sum := by
  intro l
  induction l with
  | nil => intro g; cases g
  | cons a t ih =>
    intro g
    rw [List.filter_cons, List.filter_cons]
    by_cases e : n = a
    · subst e
      rw [if_neg (by simp), if_pos (by simpa using h), List.sum_cons]
      have := gPt_le (Nat.le_of_lt h) t
      omega
    · have g2 : n ∈ t := (List.mem_cons.mp g).resolve_left e
      have i := ih g2
      by_cases g : n < a
      · rw [if_pos (by simpa using g), if_pos (by simpa using (show ns < a by omega)), List.sum_cons, List.sum_cons]; omega
      · rw [if_neg (by simpa using g)]
        split
        · rw [List.sum_cons]; omega
        · exact i
theorem gPt_gr {ns n : Nat} (hn : n ∈ gVl) (h : ns < n) : gPt n + 2 * n ≤ gPt ns := by
  have := gPt_in h gVl hn
  unfold gPt
  omega
theorem gPt_0 : gPt 0 ≤ 1100000 := by decide +kernel
theorem cKt_mem (I : Nat → Nat → Int) : cKt I = 0 ∨ cKt I ∈ gVl := by
  unfold cKt
  split
  · rename_i h
    right
    generalize (I 4 0).toNat * (I 4 1).toNat = A at *
    generalize cOt I (cNc I) = m at *
    refine List.mem_flatMap.mpr ⟨A, List.mem_range.mpr (by omega), ?_⟩
    unfold cM
    split
    · exact List.mem_cons_self
    split
    · exact List.mem_cons_of_mem _ List.mem_cons_self
    split
    · exact List.mem_cons_of_mem _ (List.mem_cons_of_mem _ List.mem_cons_self)
    · exact List.mem_cons_of_mem _ (List.mem_cons_of_mem _ (List.mem_cons_of_mem _ List.mem_cons_self))
  · exact .inl rfl
theorem gPt_kt {ns : Nat} (I : Nat → Nat → Int) : (if ns < cKt I then 2 * cKt I else 0) ≤ gPt ns ∧ (ns < cKt I → gPt (cKt I) + 2 * cKt I ≤ gPt ns) := by
  by_cases h : ns < cKt I
  · have g := gPt_gr ((cKt_mem I).resolve_left (by omega)) h
    rw [if_pos h]
    exact ⟨by omega, fun _ => g⟩
  · rw [if_neg h]
    exact ⟨Nat.zero_le _, fun q => absurd q h⟩
