/-! ALLEYS of both under the one invariant, with its answer (printed by wip/whole/y/gen203.py) -/
/-- what ALLEYS answers to a text -/
noncomputable def zAns (t : Nat → Int) (n : Nat) : Int := kAns (kAll (tk t n 900) 941 Ld0 0 0)
theorem zAns_cg {t t' : Nat → Int} {n : Nat} (h : ∀ j, j < n → t j = t' j) : zAns t n = zAns t' n := by
  unfold zAns
  rw [tk_cg h]
section Xp
variable {l : Launch} {D : va_G} {cy : Nat → ClassId} {z d bc bs N ns : Nat} {T : Nat → Nat × Nat} {R : Nat → Nat → Option Nat} {I : Nat → Nat → Int} {K : yKo}
theorem v_114x (hc : cInv N T R I ns) (hk : ∀ (r : Int) (N' : Nat) (T' : Nat → Nat × Nat) (R' : Nat → Nat → Option Nat) (I' : Nat → Nat → Int) (ns' : Nat) (L : Int), cPo N T R I N' T' R' I' ns' L → L = 0 → ns' = ns → r = zAns (I 2) (I 1 1).toNat → K (some (yi r)) (N', T', R', I')) :
    yW l zSS D cy zFk z 60 114 bc bs K 0 0 0 [(0, yr (some 0))] [] (N, T, R, I) := by
  have hT := hc.2.1
  have hR := hc.2.2.1
  have h1 := hc.2.2.2.2.2.2.2.2.1
  have h4 := hc.2.2.2.2.2.2.2.2.2
  unfold cLd at h4
  refine x_114 (d := _) hT hR (n := (I 1 1).toNat) (by omega) (by omega) h4 (fun r I' e f q => hk r N T R I' ns 0 (cPo_I hc q.1 (by omega) ?_ (by omega) (fun j _ => f 2 j (by omega)) (fun k j hk => f k j (by omega))) rfl rfl e)
  exact ⟨q.2.1, q.2.2.1, q.2.2.2.1, q.2.2.2.2.1⟩
theorem v_156x (hT : yLT T) (hR : yLR R) (hN : 126 ≤ N) (hu : uInv I) (hb : ∀ j : Nat, (j : Int) < I 102 2 → -128 ≤ I 103 j ∧ I 103 j < 128) (hw : ∀ i, i < 24 → I 108 i = rCd i) (hk : ∀ (r : Int) (I' : Nat → Nat → Int) (L : Int), uPo I I' L → L = 0 → r = zAns (I 103) (I 102 2).toNat → K (some (yi r)) (N, T, R, I')) :
    yW l zSS D cy zFk z 60 156 bc bs K 0 0 0 [(0, yr (some 102))] [] (N, T, R, I) := by
  have hI := hu.1.1.1
  have hm := hu.1.1.2.1
  have h2 := hu.2.2.2.1
  refine x_156 (d := _) hT hR hN (n := (I 102 2).toNat) (by omega) (by omega) hu.2.2.2.2.2.1 hI.2.2.2.2.2.2 (fun j hj => hb j (by omega)) hw (fun r I' e q c => hk r I' 0 ?_ rfl e)
  rcases c with f | ⟨f, i, e35, H, hH, hA⟩
  · have e42 := f 102 42 (by unfold mAw; omega)
    exact uPo_e hu (fun j => f _ _ (by unfold mAw; omega)) (fun i hi => by rw [f 111 i (by unfold mAw; omega), f 112 i (by unfold mAw; omega)]; exact hI.2.2.2.2.2.2 i hi) (fun j => f _ _ (by unfold mAw; omega)) (f _ _ (by unfold mAw; omega)) (fun j => f _ _ (by unfold mAw; omega)) (fun j => f _ _ (by unfold mAw; omega)) q.1 (by omega) (by rw [e42]; exact hu.2.2.2.2.1) q.2 (fun j hj => by rw [f 122 j (by unfold mAw; omega)]; exact hu.2.2.2.2.2.2 j hj) (fun j _ => f 103 j (by unfold mAw; omega)) (fun k j h => f k j (by unfold mAw; omega))
  · have e42 := f 102 42 (by unfold mAw; omega) (by omega) (by omega)
    obtain ⟨ro, nb⟩ := mAl_ro hH i.2.2.2.2.2.2 hA
    have z458 : I' 104 458 = 0 := by rw [hA 458 (by omega)]; unfold mAl mBg; rw [if_pos (by omega)]
    have z926 : I' 104 926 = 0 := by
      rw [hA 926 (by omega)]; unfold mAl mBg
      rw [if_neg (by omega), if_neg (by omega), if_neg (by omega), if_neg (by omega), if_neg (by omega), if_neg (by omega), if_neg (by omega), if_neg (by omega)]
      show (if (926 : Nat) < 458 then H 105 926 else if 462 ≤ (926 : Nat) ∧ (926 : Nat) < 470 then H 105 (350 + (926 - 462)) else if 526 ≤ (926 : Nat) ∧ (926 : Nat) < 626 then H 105 (358 + (926 - 526)) else 0) = 0
      rw [if_neg (by omega), if_neg (by omega), if_neg (by omega)]
    have z1007 : I' 104 1007 = 0 := by
      rw [hA 1007 (by omega)]; unfold mAl mBg
      rw [if_neg (by omega), if_neg (by omega), if_neg (by omega), if_neg (by omega), if_neg (by omega), if_neg (by omega), if_neg (by omega), if_neg (by omega)]
      show (if (1007 : Nat) < 458 then H 105 1007 else if 462 ≤ (1007 : Nat) ∧ (1007 : Nat) < 470 then H 105 (350 + (1007 - 462)) else if 526 ≤ (1007 : Nat) ∧ (1007 : Nat) < 626 then H 105 (358 + (1007 - 526)) else 0) = 0
      rw [if_neg (by omega), if_neg (by omega), if_neg (by omega)]
    refine ⟨⟨⟨⟨i, by omega, ⟨by omega, by omega, fun k hk => by omega⟩, ⟨0, 0, by rw [z1007]; rfl, by omega, fun i hi => by omega, rfl⟩⟩, ro, nb⟩, ⟨i.1.2.2.2.2.2, ro, nb, by omega, by omega, fun u hu => by omega⟩, fun k hk => ?_, by omega, by rw [e42]; exact hu.2.2.2.2.1, q.2, fun j hj => ?_⟩, fun k j h => f k j (by unfold mAw; omega) (by omega) (by omega), q.1, fun i _ => f _ _ (by unfold mAw; omega) (by omega) (by omega), fun j _ => f _ _ (by unfold mAw; omega) (by omega) (by omega), fun j => f _ _ (by unfold mAw; omega) (by omega) (by omega)⟩
    · exact (hu.2.2.1 k hk).imp (fun e => by rw [f 125 k (by unfold mAw; omega) (by omega) (by omega)]; exact e) (fun e => mKeR_cg e (fun j _ => f 123 _ (by unfold mAw; omega) (by omega) (by omega)))
    · rw [f 122 j (by unfold mAw; omega) (by omega) (by omega)]; exact hu.2.2.2.2.2.2 j hj
end Xp
