/-! alleys, plan, image, restore of both under the one invariant, to the letter (printed by wip/whole/y/gen203.py) -/
theorem zAl_cg {t t' : Nat → Int} {n : Nat} (h : ∀ j, j < n → t j = t' j) : zAl t n = zAl t' n := by
  unfold zAl
  rw [tk_cg h]
theorem zPl_cg {t t' : Nat → Int} {n ch : Nat} {nm : Nat → Int} (h : ∀ j, j < n → t j = t' j) : zPl' t n ch nm = zPl' t' n ch nm := by
  unfold zPl'
  rw [tk_cg h]
theorem zSe_cg {t t' : Nat → Int} {n ch : Nat} {nm : Nat → Int} (h : ∀ j, j < n → t j = t' j) : zSe t n ch nm = zSe t' n ch nm := by
  unfold zSe
  rw [tk_cg h]
section Xp
variable {l : Launch} {D : va_G} {cy : Nat → ClassId} {z d bc bs N ns : Nat} {T : Nat → Nat × Nat} {R : Nat → Nat → Option Nat} {I : Nat → Nat → Int} {K : yKo}
theorem v_114x (hc : cInv N T R I ns) (hk : ∀ (r : Int) (N' : Nat) (T' : Nat → Nat × Nat) (R' : Nat → Nat → Option Nat) (I' : Nat → Nat → Int) (ns' : Nat) (L : Int), cPo N T R I N' T' R' I' ns' L → L = 0 → ns' = ns → r = kAns (zAl (I 2) (I 1 1).toNat) → I' 1 10 = kFc (zAl (I 2) (I 1 1).toNat) → (∀ f, zAl (I 2) (I 1 1).toNat = .inl f → cLm I I') → (∀ S c, zAl (I 2) (I 1 1).toNat = .inr (S, c) → cLr I' 4 S) → K (some (yi r)) (N', T', R', I')) :
    yW l zSS D cy zFk z 60 114 bc bs K 0 0 0 [(0, yr (some 0))] [] (N, T, R, I) := by
  have hT := hc.2.1
  have hR := hc.2.2.1
  have h1 := hc.2.2.2.2.2.2.2.2.1
  have h4 := hc.2.2.2.2.2.2.2.2.2
  unfold cLd at h4
  refine x_114 (d := _) hT hR (n := (I 1 1).toNat) (by omega) (by omega) hc.1 h4 (fun r I' e f q e10 ef eS => hk r N T R I' ns 0 (cPo_I hc q.1 (by omega) ?_ (by omega) (fun j _ => f 2 j (by omega)) (fun k j hk => f k j (by omega))) rfl rfl e e10 (fun g eg => ⟨ef g eg 4 5 (by decide) (by decide), fun j => ef g eg 8 j (by decide) (by decide)⟩) eS)
  exact ⟨q.2.1, q.2.2.1, q.2.2.2.1, q.2.2.2.2.1⟩
theorem v_156x (hT : yLT T) (hR : yLR R) (hN : 126 ≤ N) (hu : uInv I) (hb : ∀ j : Nat, (j : Int) < I 102 2 → -128 ≤ I 103 j ∧ I 103 j < 128) (hw : ∀ i, i < 24 → I 108 i = rCd i) (hk : ∀ (r : Int) (I' : Nat → Nat → Int) (L : Int), uPo I I' L → L = 0 → r = kAns (zAl (I 103) (I 102 2).toNat) → I' 102 15 = kFc (zAl (I 103) (I 102 2).toNat) → (∀ f, zAl (I 103) (I 102 2).toNat = .inl f → I' 104 2 = I 104 2 ∧ ∀ j, j < 8 → I' 107 j = I 107 j) → (∀ S c, zAl (I 103) (I 102 2).toNat = .inr (S, c) → I' 104 2 = (S.ch : Int) ∧ mNm I' 0 S.ch S.nm) → K (some (yi r)) (N, T, R, I')) :
    yW l zSS D cy zFk z 60 156 bc bs K 0 0 0 [(0, yr (some 102))] [] (N, T, R, I) := by
  have hI := hu.1.1.1
  have hm := hu.1.1.2.1
  have h2 := hu.2.2.2.1
  refine x_156 (d := _) hT hR hN (n := (I 102 2).toNat) (by omega) (by omega) hu.2.2.2.2.2.1 hI.2.2.2.2.2.2 (fun j hj => hb j (by omega)) hw (fun r I' e e15 ef eS q c => hk r I' 0 ?_ rfl e e15 ef eS)
  rcases c with f | ⟨f, i, e35, H, hH, hA⟩
  · have e42 := f 102 42 (by unfold mAw; omega)
    exact uPo_e hu (fun j => f _ _ (by unfold mAw; omega)) (fun i hi => by rw [f 111 i (by unfold mAw; omega), f 112 i (by unfold mAw; omega)]; exact hI.2.2.2.2.2.2 i hi) (fun j => f _ _ (by unfold mAw; omega)) (f _ _ (by unfold mAw; omega)) (fun j => f _ _ (by unfold mAw; omega)) (fun j => f _ _ (by unfold mAw; omega)) q.1 (by omega) (by rw [e42]; exact hu.2.2.2.2.1) q.2 (fun j hj => by rw [f 122 j (by unfold mAw; omega)]; exact hu.2.2.2.2.2.2 j hj) (fun j _ => f 103 j (by unfold mAw; omega)) (fun k j h => f k j (by unfold mAw; omega))
  · have e42 := f 102 42 (by unfold mAw; omega) (by omega) (by omega)
    obtain ⟨ro, nb⟩ := mAl_ro hH i.2.2.2.2.2.2 hA
    have z458 : I' 104 458 = 0 := by rw [hA 458 (by omega)]; unfold mAl mBg; rw [if_pos (by omega)]
    have z926 : I' 104 926 = 0 := by
      rw [hA 926 (by omega)]; unfold mAl mBg
      rw [if_neg (by omega), if_neg (by omega), if_neg (by omega), if_neg (by omega), if_neg (by omega), if_neg (by omega), if_neg (by omega), if_neg (by omega)]
      show (if (926 : Nat) < 458 then H 105 926 else if 462 ≤ (926 : Nat) ∧ (926 : Nat) < 470 then H 105 (350 + (926 - 462)) else if 526 ≤ (926 : Nat) ∧ (926 : Nat) < 626 then H 105 (358 + (926 - 526)) else 0) = 0
      rw [if_neg (by omega), if_neg (by omega), if_neg (by omega)]
    have z1007 : I' 104 1007 = 0 := by
      rw [hA 1007 (by omega)]; unfold mAl mBg
      rw [if_neg (by omega), if_neg (by omega), if_neg (by omega), if_neg (by omega), if_neg (by omega), if_neg (by omega), if_neg (by omega), if_neg (by omega)]
      show (if (1007 : Nat) < 458 then H 105 1007 else if 462 ≤ (1007 : Nat) ∧ (1007 : Nat) < 470 then H 105 (350 + (1007 - 462)) else if 526 ≤ (1007 : Nat) ∧ (1007 : Nat) < 626 then H 105 (358 + (1007 - 526)) else 0) = 0
      rw [if_neg (by omega), if_neg (by omega), if_neg (by omega)]
    refine ⟨⟨⟨⟨i, by omega, ⟨by omega, by omega, fun k hk => by omega⟩, ⟨0, 0, by rw [z1007]; rfl, by omega, fun i hi => by omega, rfl⟩⟩, ro, nb⟩, ⟨i.1.2.2.2.2.2, ro, nb, by omega, by omega, fun u hu => by omega⟩, fun k hk => ?_, by omega, by rw [e42]; exact hu.2.2.2.2.1, q.2, fun j hj => ?_⟩, fun k j h => f k j (by unfold mAw; omega) (by omega) (by omega), q.1, fun i _ => f _ _ (by unfold mAw; omega) (by omega) (by omega), fun j _ => f _ _ (by unfold mAw; omega) (by omega) (by omega), fun j => f _ _ (by unfold mAw; omega) (by omega) (by omega), fun j => ⟨f _ _ (by unfold mAw; omega) (by omega) (by omega), f _ _ (by unfold mAw; omega) (by omega) (by omega)⟩⟩
    · exact (hu.2.2.1 k hk).imp (fun e => by rw [f 125 k (by unfold mAw; omega) (by omega) (by omega)]; exact e) (fun e => mKeR_cg e (fun j _ => f 123 _ (by unfold mAw; omega) (by omega) (by omega)))
    · rw [f 122 j (by unfold mAw; omega) (by omega) (by omega)]; exact hu.2.2.2.2.2.2 j hj
theorem v_123x (hc : cInv N T R I ns) (hd : cDs R) (hb1 : 32 ≤ bc) (hb2 : 944 ≤ bs) {x1 : Int} (hk : ∀ (r : Int) (N' : Nat) (T' : Nat → Nat × Nat) (R' : Nat → Nat → Option Nat) (I' : Nat → Nat → Int), cInv N' T' R' I' ns → (N ≤ N' ∧ ∀ k, k < N → T' k = T k) → (∀ k j, 102 ≤ k → k < 126 → I' k j = I k j) → I' 1 1 = I 1 1 → (∀ j, I' 2 j = I 2 j) → ((r = 1 ∧ 0 ≤ x1 ∧ x1 < 2 ∧ R' 101 x1.toNat ≠ none ∧ ∀ i, i < 2 → i ≠ x1.toNat → R' 101 i = R 101 i) ∨ (r = 0 ∧ ¬ (0 ≤ x1 ∧ x1 < 2) ∧ ∀ i, R' 101 i = R 101 i)) → cDs R' → (∀ i p, i < 2 → R' 101 i = some p → (r = 1 ∧ (i : Int) = x1 ∧ I' (p + 1) 5 = I 4 5 ∧ ∀ j, j < 8 → I' (p + 5) j = I 8 j) ∨ (¬ (r = 1 ∧ (i : Int) = x1) ∧ R 101 i = some p ∧ I' (p + 1) 5 = I (p + 1) 5 ∧ ∀ j, I' (p + 5) j = I (p + 5) j)) → cLn I I' → K (some (yi r)) (N', T', R', I')) :
    yW l zSS D cy zFk z 60 123 bc bs K 0 0 0 [(0, yr (some 0)), (1, yi x1)] [] (N, T, R, I) := by
  have hT := hc.2.1
  have hR := hc.2.2.1
  obtain ⟨a, b, c, e, g, i, m, n, o, p⟩ := hc
  refine x_123 (d := _) hT hR a m n p hd hb1 hb2 (fun r N' T' R' I' a1 b1 gr m1 n1 f q d1 im => hk r N' T' R' I' ?_ ⟨gr.1, gr.2.1⟩ (fun k j _ h => f k j h) (f 1 1 (by omega)) (fun j => f 2 j (by omega)) q d1 im ⟨⟨f 4 5 (by omega), fun j => f 8 j (by omega)⟩, f 1 10 (by omega)⟩)
  refine ⟨by have := gr.1; omega, a1, b1, cUi_gr a e gr (fun j q => by cases q), cHs_gr a g gr (fun k j h q => by have q : k = 101 := q; omega), fun i' h1 h2 => ?_, m1, n1, by rw [f 1 1 (by omega)]; exact o, ?_⟩
  · rw [gr.2.2 90 i' (by omega) (fun q => by cases q)]
    exact i i' h1 (by rw [← f 89 1 (by omega)]; exact h2)
  · unfold cLd
    rw [f 4 0 (by omega), f 4 1 (by omega)]
    exact p
theorem v_184x (hT : yLT T) (hR : yLR R) (hN : 126 ≤ N) (hu : uInv I) {x1 : Int} (hk : ∀ (r : Int) (I' : Nat → Nat → Int), uInv I' → (∀ k j, (k < 102 ∨ 126 ≤ k) → I' k j = I k j) → I' 102 2 = I 102 2 → (∀ j, I' 103 j = I 103 j ∧ I' 108 j = I 108 j) → ((r = 1 ∧ 0 ≤ x1 ∧ x1 ≤ 1 ∧ ∀ j, I' 125 j = if j = x1.toNat then 1 else I 125 j) ∨ (r = 0 ∧ ¬ (0 ≤ x1 ∧ x1 ≤ 1) ∧ ∀ j, I' 125 j = I 125 j)) → (∀ i : Nat, i < 2 → (r = 1 ∧ (i : Int) = x1 ∧ (∀ j, j < 1188 → I' 123 (1188 * i + j) = I 104 j) ∧ ∀ j, j < 8 → I' 124 (8 * i + j) = I 107 j) ∨ (¬ (r = 1 ∧ (i : Int) = x1) ∧ (∀ j, j < 1188 → I' 123 (1188 * i + j) = I 123 (1188 * i + j)) ∧ ∀ j, j < 8 → I' 124 (8 * i + j) = I 124 (8 * i + j))) → uLn I I' → K (some (yi r)) (N, T, R, I')) :
    yW l zSS D cy zFk z 60 184 bc bs K 0 0 0 [(0, yr (some 102)), (1, yi x1)] [] (N, T, R, I) := by
  have hI := hu.1.1.1
  refine x_184 (d := _) hT hR hN hu.1 hu.2.2.1 (fun r I' k f q kp => hk r I' ?_ (fun k j h => f k j (by omega) (by omega) (by omega) (by omega)) (f _ _ (by omega) (by omega) (by omega) (by omega)) (fun j => ⟨f _ _ (by omega) (by omega) (by omega) (by omega), f _ _ (by omega) (by omega) (by omega) (by omega)⟩) q kp (uLn_x (fun k j h => f k j (by omega) (by omega) (by omega) (by omega))))
  have e2 := f 102 2 (by omega) (by omega) (by omega) (by omega)
  have e42 := f 102 42 (by omega) (by omega) (by omega) (by omega)
  have e14 := f 102 14 (by omega) (by omega) (by omega) (by omega)
  have e104 : ∀ j, I' 104 j = I 104 j := fun j => f _ _ (by omega) (by omega) (by omega) (by omega)
  have ho : mOr I' := fun i hi => by rw [f 111 i (by omega) (by omega) (by omega) (by omega), f 112 i (by omega) (by omega) (by omega) (by omega)]; exact hI.2.2.2.2.2.2 i hi
  have al := mAllR_lt hu.1 (fun j _ => e104 j) ho
  exact ⟨al, mUnR_sl (fun j _ => e104 j) (f _ _ (by omega) (by omega) (by omega) (by omega)) (fun j => f _ _ (by omega) (by omega) (by omega) (by omega)) hu.2.1 al.2.1 al.2.2, k, by rw [e2]; exact hu.2.2.2.1, by rw [e42]; exact hu.2.2.2.2.1, by rw [e14]; exact hu.2.2.2.2.2.1, fun j hj => by rw [f 122 j (by omega) (by omega) (by omega) (by omega)]; exact hu.2.2.2.2.2.2 j hj⟩
theorem v_144x (hc : cInv N T R I ns) {x1 : Int} (hk : ∀ (r : Int) (N' : Nat) (T' : Nat → Nat × Nat) (R' : Nat → Nat → Option Nat) (I' : Nat → Nat → Int) (ns' : Nat) (L : Int), cPo N T R I N' T' R' I' ns' L → L = I 1 1 → ns' = ns → ((r = 0 ∧ ¬ (0 ≤ x1 ∧ x1 < 2 ∧ R 101 x1.toNat ≠ none)) ∨ (r = 1 ∧ (0 ≤ x1 ∧ x1 < 2 ∧ R 101 x1.toNat ≠ none))) → ((r = 0 ∧ cLm I I') ∨ (r = 1 ∧ ∃ p, R 101 x1.toNat = some p ∧ I' 4 5 = I (p + 1) 5 ∧ ∀ j, j < 8 → I' 8 j = I (p + 5) j)) → I' 1 10 = I 1 10 → K (some (yi r)) (N', T', R', I')) :
    yW l zSS D cy zFk z 60 144 bc bs K 0 0 0 [(0, yr (some 0)), (1, yi x1)] [] (N, T, R, I) := by
  have hT := hc.2.1
  have hR := hc.2.2.1
  refine x_144 (d := _) hT hR hc.2.2.2.2.2.2.1 hc.2.2.2.2.2.2.2.1 (fun r I' q => ?_)
  rcases q with ⟨q1, q2, q3⟩ | ⟨q1, q2, q3, q4, q5, q6⟩
  · exact hk r N T R I' ns (I 1 1) (cPo_s hc (fun k j _ => q3 k j)) rfl rfl (.inl ⟨q1, q2⟩) (.inl ⟨q1, q3 4 5, fun j => q3 8 j⟩) (q3 1 10)
  · exact hk r N T R I' ns (I 1 1) (cPo_I hc (q3 _ _ (by omega) (by omega)) hc.2.2.2.2.2.2.2.2.1 q4 (.inr (by omega)) (fun j _ => q3 2 j (by omega) (by omega)) (fun k j hk => q3 k j (by omega) (by omega))) rfl rfl (.inr ⟨q1, q2⟩) (.inr ⟨q1, q6⟩) (q3 1 10 (by omega) (by omega))
theorem v_231x (hT : yLT T) (hR : yLR R) (hN : 126 ≤ N) (hu : uInv I) {x1 : Int} (hk : ∀ (r : Int) (I' : Nat → Nat → Int) (L : Int), uPo I I' L → L = I 102 2 → ((r = 0 ∧ ¬ (0 ≤ x1 ∧ x1 ≤ 1 ∧ I 125 x1.toNat ≠ 0)) ∨ (r = 1 ∧ (0 ≤ x1 ∧ x1 ≤ 1 ∧ I 125 x1.toNat ≠ 0))) → ((r = 0 ∧ uLm I I') ∨ (r = 1 ∧ I' 104 2 = I 123 (1188 * x1.toNat + 2) ∧ ∀ j, j < 8 → I' 107 j = I 124 (8 * x1.toNat + j))) → I' 102 15 = I 102 15 → K (some (yi r)) (N, T, R, I')) :
    yW l zSS D cy zFk z 60 231 bc bs K 0 0 0 [(0, yr (some 102)), (1, yi x1)] [] (N, T, R, I) := by
  have hI := hu.1.1.1
  have hm := hu.1.1.2.1
  refine x_231 (d := _) hT hR hN hu.2.2.1 hI.2.2.2.2.2.2 (fun r I' c => ?_)
  rcases c with ⟨c1, c2, f⟩ | ⟨c1, c2, a, e35, f, k4, k7⟩
  · exact hk r I' _ (uPo_x hu (fun i hi => by rw [f 111 i (by omega), f 112 i (by omega)]; exact hI.2.2.2.2.2.2 i hi) (fun k j h => f k j (by omega))) rfl (.inl ⟨c1, c2⟩) (.inl ⟨c1, (uLn_x (fun k j h => f k j (by omega))).1⟩) (f 102 15 (by omega))
  · have e2 := f 102 2 (by omega) (by omega) (by omega)
    have e42 := f 102 42 (by omega) (by omega) (by omega)
    have e14 := f 102 14 (by omega) (by omega) (by omega)
    refine hk r I' (I 102 2) ⟨⟨a, ⟨a.1.1.1.2.2.2.2.2, a.2.1, a.2.2, by omega, by omega, fun u hu => by omega⟩, fun k hk => ?_, by rw [e2]; exact hu.2.2.2.1, by rw [e42]; exact hu.2.2.2.2.1, by rw [e14]; exact hu.2.2.2.2.2.1, fun j hj => ?_⟩, fun k j h => f k j (by omega) (by omega) (by omega), e2, fun i _ => f _ _ (by omega) (by omega) (by omega), fun j _ => f _ _ (by omega) (by omega) (by omega), fun j => f _ _ (by omega) (by omega) (by omega), fun j => ⟨f _ _ (by omega) (by omega) (by omega), f _ _ (by omega) (by omega) (by omega)⟩⟩ rfl (.inr ⟨c1, c2⟩) (.inr ⟨c1, k4 2 (by decide), k7⟩) (f 102 15 (by omega) (by omega) (by omega))
    · exact (hu.2.2.1 k hk).imp (fun e => by rw [f 125 k (by omega) (by omega) (by omega)]; exact e) (fun e => mKeR_cg e (fun j _ => f 123 _ (by omega) (by omega) (by omega)))
    · rw [f 122 j (by omega) (by omega) (by omega)]; exact hu.2.2.2.2.2.2 j hj
theorem v_143x (hc : cInv N T R I ns) {ch : Nat} {nm : Nat → Int} (L : cNm I 4 ch nm) (hk : ∀ (r : Int) (N' : Nat) (T' : Nat → Nat × Nat) (R' : Nat → Nat → Option Nat) (I' : Nat → Nat → Int) (ns' : Nat) (L : Int), cPo N T R I N' T' R' I' ns' L → L = 0 → ns' = ns → cLm I I' → r = kAnsP (zPl' (I 2) (I 1 1).toNat ch nm) → I' 1 10 = kFc (zPl' (I 2) (I 1 1).toNat ch nm) → K (some (yi r)) (N', T', R', I')) :
    yW l zSS D cy zFk z 60 143 bc bs K 0 0 0 [(0, yr (some 0))] [] (N, T, R, I) := by
  have hT := hc.2.1
  have hR := hc.2.2.1
  have h1 := hc.2.2.2.2.2.2.2.2.1
  refine x_143 (d := _) hT hR (n := (I 1 1).toNat) (by omega) (by omega) L (fun r I' er f q e10 _ _ => hk r N T R I' ns 0 (cPo_I hc q (by omega) ?_ (.inl (f _ _ (by omega))) (fun j _ => f 2 j (by omega)) (fun k j hk => f k j (by omega))) rfl rfl ⟨f _ _ (by omega), fun j => f _ _ (by omega)⟩ er e10)
  unfold cLd
  rw [f 4 0 (by omega), f 4 1 (by omega)]
  exact hc.2.2.2.2.2.2.2.2.2
theorem v_227x (hT : yLT T) (hR : yLR R) (hN : 126 ≤ N) (hu : uInv I) (hb : ∀ j : Nat, (j : Int) < I 102 2 → -128 ≤ I 103 j ∧ I 103 j < 128) (hw : ∀ i, i < 24 → I 108 i = rCd i) {ch : Nat} {nm : Nat → Int} (hc : I 104 2 = (ch : Int)) (L : mNm I 0 ch nm) (hk : ∀ (r : Int) (I' : Nat → Nat → Int) (L : Int), uPo I I' L → L = 0 → uLm I I' → r = kAnsP (zPl' (I 103) (I 102 2).toNat ch nm) → I' 102 15 = kFc (zPl' (I 103) (I 102 2).toNat ch nm) → K (some (yi r)) (N, T, R, I')) :
    yW l zSS D cy zFk z 60 227 bc bs K 0 0 0 [(0, yr (some 102))] [] (N, T, R, I) := by
  have hI := hu.1.1.1
  have hm := hu.1.1.2.1
  have h2 := hu.2.2.2.1
  refine x_227 (d := _) hT hR hN (n := (I 102 2).toNat) (by omega) (by omega) hu.2.2.2.2.2.1 (fun j hj => hb j (by omega)) hw hc L (fun r I' er q e15 c0 => ?_)
  have c : (∀ k j, ¬ mPw k j → I' k j = I k j) ∨ ((∀ k j, ¬ mPw k j → (k ≠ 104 ∨ j < 926 ∨ 1007 ≤ j) → I' k j = I k j) ∧ mPl I') := by
    rcases c0 with ⟨_, f⟩ | ⟨c, g, _, f, c40, e926, v⟩
    · exact .inl f
    · refine .inr ⟨f, by omega, by omega, fun i hi => ?_⟩
      obtain ⟨a, b, e1, e2, e3⟩ := v i (by omega)
      rw [a, b]
      exact ⟨⟨by omega, by omega⟩, e2, e3⟩
  refine hk r I' 0 ?_ rfl (by
    rcases c with f | ⟨f, g⟩
    · exact ⟨f 104 2 (by unfold mPw; omega), fun j => f 107 j (by unfold mPw; omega)⟩
    · exact ⟨f 104 2 (by unfold mPw; omega) (by omega), fun j => f 107 j (by unfold mPw; omega) (by omega)⟩) er e15
  rcases c with f | ⟨f, g⟩
  · have f : ∀ k j, ¬ mPw k j → I' k j = I k j := f
    have e42 := f 102 42 (by unfold mPw; omega)
    exact uPo_e hu (fun j => f _ _ (by unfold mPw; omega)) (fun i hi => by rw [f 111 i (by unfold mPw; omega), f 112 i (by unfold mPw; omega)]; exact hI.2.2.2.2.2.2 i hi) (fun j => f _ _ (by unfold mPw; omega)) (f _ _ (by unfold mPw; omega)) (fun j => f _ _ (by unfold mPw; omega)) (fun j => f _ _ (by unfold mPw; omega)) q.1 (by omega) (by rw [e42]; exact hu.2.2.2.2.1) q.2 (fun j hj => by rw [f 122 j (by unfold mPw; omega)]; exact hu.2.2.2.2.2.2 j hj) (fun j _ => f 103 j (by unfold mPw; omega)) (fun k j h => f k j (by unfold mPw; omega))
  · have e42 := f 102 42 (by unfold mPw; omega) (by omega)
    refine ⟨uInv_k hu (fun j h => f _ _ (by unfold mPw; omega) (by omega)) g (mCo_lt hu.1.1.2.2.2 (fun j a b => f _ _ (by unfold mPw; omega) (by omega))) (fun i hi => by rw [f 111 i (by unfold mPw; omega) (by omega), f 112 i (by unfold mPw; omega) (by omega)]; exact hI.2.2.2.2.2.2 i hi) (fun j => f _ _ (by unfold mPw; omega) (by omega)) (f _ _ (by unfold mPw; omega) (by omega)) (fun j => f _ _ (by unfold mPw; omega) (by omega)) (fun j => f _ _ (by unfold mPw; omega) (by omega)) (by omega) (by rw [e42]; exact hu.2.2.2.2.1) q.2 (fun j hj => by rw [f 122 j (by unfold mPw; omega) (by omega)]; exact hu.2.2.2.2.2.2 j hj), fun k j h => f k j (by unfold mPw; omega) (by omega), q.1, fun i _ => f _ _ (by unfold mPw; omega) (by omega), fun j _ => f _ _ (by unfold mPw; omega) (by omega), fun j => f _ _ (by unfold mPw; omega) (by omega), fun j => ⟨f _ _ (by unfold mPw; omega) (by omega), f _ _ (by unfold mPw; omega) (by omega)⟩⟩
theorem v_146x (hc : cInv N T R I ns) {ch : Nat} {nm : Nat → Int} (L : cNm I 4 ch nm) (hk : ∀ (r : Int) (N' : Nat) (T' : Nat → Nat × Nat) (R' : Nat → Nat → Option Nat) (I' : Nat → Nat → Int) (ns' : Nat) (L : Int), cPo N T R I N' T' R' I' ns' L → L = 0 → ns' = ns → cLm I I' → r = kAnsS (zSe (I 2) (I 1 1).toNat ch nm) → I' 1 10 = kFc (zSe (I 2) (I 1 1).toNat ch nm) → K (some (yi r)) (N', T', R', I')) :
    yW l zSS D cy zFk z 60 146 bc bs K 0 0 0 [(0, yr (some 0))] [] (N, T, R, I) := by
  have hT := hc.2.1
  have hR := hc.2.2.1
  have h1 := hc.2.2.2.2.2.2.2.2.1
  refine x_146 (d := _) hT hR (n := (I 1 1).toNat) (by omega) (by omega) L (fun r I' er f q e10 _ _ => hk r N T R I' ns 0 (cPo_I hc q (by omega) ?_ (.inl (f _ _ (by omega))) (fun j _ => f 2 j (by omega)) (fun k j hk => f k j (by omega))) rfl rfl ⟨f _ _ (by omega), fun j => f _ _ (by omega)⟩ er e10)
  unfold cLd
  rw [f 4 0 (by omega), f 4 1 (by omega)]
  exact hc.2.2.2.2.2.2.2.2.2
theorem v_234x (hT : yLT T) (hR : yLR R) (hN : 126 ≤ N) (hu : uInv I) (hb : ∀ j : Nat, (j : Int) < I 102 2 → -128 ≤ I 103 j ∧ I 103 j < 128) (hw : ∀ i, i < 24 → I 108 i = rCd i) {ch : Nat} {nm : Nat → Int} (hc : I 104 2 = (ch : Int)) (L : mNm I 0 ch nm) (hk : ∀ (r : Int) (I' : Nat → Nat → Int) (L : Int), uPo I I' L → L = 0 → uLm I I' → r = kAnsS (zSe (I 103) (I 102 2).toNat ch nm) → I' 102 15 = kFc (zSe (I 103) (I 102 2).toNat ch nm) → K (some (yi r)) (N, T, R, I')) :
    yW l zSS D cy zFk z 60 234 bc bs K 0 0 0 [(0, yr (some 102))] [] (N, T, R, I) := by
  have hI := hu.1.1.1
  have hm := hu.1.1.2.1
  have h2 := hu.2.2.2.1
  refine x_234 (d := _) hT hR hN (n := (I 102 2).toNat) (by omega) (by omega) hu.2.2.2.2.2.1 (fun j hj => hb j (by omega)) hw hc L (fun r I' er q e15 c0 => ?_)
  have c : (∀ k j, ¬ mSw k j → I' k j = I k j) ∨ ((∀ k j, ¬ mSw k j → (k ≠ 104 ∨ j < 1007 ∨ 1188 ≤ j) → I' k j = I k j) ∧ mCo I') := by
    rcases c0 with ⟨_, f⟩ | ⟨c, ec, f, c39, e1007, v⟩
    · exact .inl f
    · exact .inr ⟨f, mCo_sn (kSent_wf (S := nLd ch nm) L.1 ec) c39 e1007 v⟩
  refine hk r I' 0 ?_ rfl (by
    rcases c with f | ⟨f, g⟩
    · exact ⟨f 104 2 (by unfold mSw; omega), fun j => f 107 j (by unfold mSw; omega)⟩
    · exact ⟨f 104 2 (by unfold mSw; omega) (by omega), fun j => f 107 j (by unfold mSw; omega) (by omega)⟩) er e15
  rcases c with f | ⟨f, g⟩
  · have f : ∀ k j, ¬ mSw k j → I' k j = I k j := f
    have e42 := f 102 42 (by unfold mSw; omega)
    exact uPo_e hu (fun j => f _ _ (by unfold mSw; omega)) (fun i hi => by rw [f 111 i (by unfold mSw; omega), f 112 i (by unfold mSw; omega)]; exact hI.2.2.2.2.2.2 i hi) (fun j => f _ _ (by unfold mSw; omega)) (f _ _ (by unfold mSw; omega)) (fun j => f _ _ (by unfold mSw; omega)) (fun j => f _ _ (by unfold mSw; omega)) q.1 (by omega) (by rw [e42]; exact hu.2.2.2.2.1) q.2 (fun j hj => by rw [f 122 j (by unfold mSw; omega)]; exact hu.2.2.2.2.2.2 j hj) (fun j _ => f 103 j (by unfold mSw; omega)) (fun k j h => f k j (by unfold mSw; omega))
  · have e42 := f 102 42 (by unfold mSw; omega) (by omega)
    refine ⟨uInv_k hu (fun j h => f _ _ (by unfold mSw; omega) (by omega)) (mPl_lt hu.1.1.2.2.1 (fun j a b => f _ _ (by unfold mSw; omega) (by omega))) g (fun i hi => by rw [f 111 i (by unfold mSw; omega) (by omega), f 112 i (by unfold mSw; omega) (by omega)]; exact hI.2.2.2.2.2.2 i hi) (fun j => f _ _ (by unfold mSw; omega) (by omega)) (f _ _ (by unfold mSw; omega) (by omega)) (fun j => f _ _ (by unfold mSw; omega) (by omega)) (fun j => f _ _ (by unfold mSw; omega) (by omega)) (by omega) (by rw [e42]; exact hu.2.2.2.2.1) q.2 (fun j hj => by rw [f 122 j (by unfold mSw; omega) (by omega)]; exact hu.2.2.2.2.2.2 j hj), fun k j h => f k j (by unfold mSw; omega) (by omega), q.1, fun i _ => f _ _ (by unfold mSw; omega) (by omega), fun j _ => f _ _ (by unfold mSw; omega) (by omega), fun j => f _ _ (by unfold mSw; omega) (by omega), fun j => ⟨f _ _ (by unfold mSw; omega) (by omega), f _ _ (by unfold mSw; omega) (by omega)⟩⟩
theorem v_121x (hc : cInv N T R I ns) (hk : ∀ (r : Int) (N' : Nat) (T' : Nat → Nat × Nat) (R' : Nat → Nat → Option Nat) (I' : Nat → Nat → Int) (ns' : Nat) (L : Int), cPo N T R I N' T' R' I' ns' L → L = I 1 1 → ns' = ns → cLn I I' → r = I 1 10 → K (some (yi r)) (N', T', R', I')) :
    yW l zSS D cy zFk z 60 121 bc bs K 0 0 0 [(0, yr (some 0))] [] (N, T, R, I) := by
  have hT := hc.2.1
  have hR := hc.2.2.1
  exact B_121_0 hT hR (hk _ _ _ _ _ _ _ (cPo_s hc (fun _ _ _ => rfl)) rfl rfl (cLn_s (fun _ _ _ => rfl)) rfl)
theorem v_178x (hT : yLT T) (hR : yLR R) (hN : 126 ≤ N) (hu : uInv I) (hk : ∀ (r : Int) (I' : Nat → Nat → Int) (L : Int), uPo I I' L → L = I 102 2 → uLn I I' → r = I 102 15 → K (some (yi r)) (N, T, R, I')) :
    yW l zSS D cy zFk z 60 178 bc bs K 0 0 0 [(0, yr (some 102))] [] (N, T, R, I) := by
  have hI := hu.1.1.1
  have hm := hu.1.1.2.1
  refine B_178_0 hT hR (fun I1 e1 => ?_)
  have f : ∀ k j, ¬ (k = 102 ∧ j = 0) → I1 k j = I k j := fun k j h => by rw [e1, yU_ne _ _ h]
  exact hk _ I1 _ (uPo_x hu (fun i hi => by rw [f 111 i (by omega), f 112 i (by omega)]; exact hI.2.2.2.2.2.2 i hi) (fun k j h => f k j (by omega))) rfl (uLn_x (fun k j h => f k j (by omega))) (f 102 15 (by omega))
end Xp
