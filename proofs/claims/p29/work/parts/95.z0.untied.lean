/-! CONTRACTS of the class: the UNTIER, 6: all of it; step. -/
/-- the UNTIER's three rows, as they are between calls; ns: how long the marks are -/
def cUi (N : Nat) (T : Nat → Nat × Nat) (R : Nat → Nat → Option Nat) (ns : Nat) : Prop := ∃ vs vq vt nt, cU T R vs ns vq ns vt nt ∧ vs < N ∧ vq < N ∧ vt < N ∧ vt ≠ vq ∧ ns ≤ 50653 ∧ nt ≤ 4431 ∧ (ns = 0 ∨ (126 ≤ vs ∧ 126 ≤ vq)) ∧ (nt = 0 ∨ 126 ≤ vt)
/-- cells are made, and no reference changes but those that may -/
def cGr (Ok : Nat → Nat → Prop) (N : Nat) (T : Nat → Nat × Nat) (R : Nat → Nat → Option Nat) (N' : Nat) (T' : Nat → Nat × Nat) (R' : Nat → Nat → Option Nat) : Prop := N ≤ N' ∧ (∀ k, k < N → T' k = T k) ∧ ∀ k j, k < N → ¬ Ok k j → R' k j = R k j
theorem cGr_rfl {Ok : Nat → Nat → Prop} {N : Nat} {T : Nat → Nat × Nat} {R : Nat → Nat → Option Nat} : cGr Ok N T R N T R := ⟨Nat.le_refl _, fun _ _ => rfl, fun _ _ _ _ => rfl⟩
theorem cGr_tr {Ok : Nat → Nat → Prop} {N N' N2 : Nat} {T T' T2 : Nat → Nat × Nat} {R R' R2 : Nat → Nat → Option Nat} (h1 : cGr Ok N T R N' T' R') (h2 : cGr Ok N' T' R' N2 T2 R2) : cGr Ok N T R N2 T2 R2 :=
  ⟨Nat.le_trans h1.1 h2.1, fun k hk => (h2.2.1 k (by have := h1.1; omega)).trans (h1.2.1 k hk), fun k j hk ho => (h2.2.2 k j (by have := h1.1; omega) ho).trans (h1.2.2 k j hk ho)⟩
abbrev cUk (k j : Nat) : Prop := k = 91 ∧ (j = 9 ∨ j = 10 ∨ j = 12)
/-- how many knots the world's state has -/
def cKt (I : Nat → Nat → Int) : Nat := if (I 4 0).toNat * (I 4 1).toNat ≤ 36 ∧ cOt I (cNc I) ≤ 3 then cM ((I 4 0).toNat * (I 4 1).toNat + 1) (cOt I (cNc I)) else 0
section Cu
variable {l : Launch} {D : va_G} {cy : Nat → ClassId} {z d bc bs N : Nat} {T : Nat → Nat × Nat} {R : Nat → Nat → Option Nat} {I : Nat → Nat → Int} {K : yKo} {vs ns vq nq vt nt : Nat}
theorem w_78 (hT : yLT T) (hR : yLR R) (h126 : 126 ≤ N) (hUi : cUi N T R ns) (hl4 : 0 ≤ I 4 0 ∧ I 4 0 ≤ 10 ∧ 0 ≤ I 4 1 ∧ I 4 1 ≤ 10) (hb1 : 3 ≤ bc) (hb2 : (if ns < cKt I then 2 * cKt I else 0) + 4431 ≤ bs)
    (hk : ∀ (r : Int) (N' : Nat) (T' : Nat → Nat × Nat) (R' : Nat → Nat → Option Nat) (I' : Nat → Nat → Int) (ns' : Nat), yLT T' → yLR R' → cUi N' T' R' ns' → cGr cUk N T R N' T' R' → (∀ k j, k < N → (k < 91 ∨ (101 ≤ k ∧ k < 126) ∨ (126 ≤ k ∧ 2 ≤ (T k).1)) → I' k j = I k j) → ((ns' = ns ∧ cKt I ≤ ns) ∨ (ns < cKt I ∧ ns' = cKt I)) → K (some (yi r)) (N', T', R', I')) :
    yW l zSS D cy zFk z (d + 3) 78 bc bs K 0 0 0 [(0, yr (some 91)), (1, yr (some 4)), (2, yr (some 16))] [] (N, T, R, I) := by
  have hUi0 := hUi
  obtain ⟨vs, vq, vt, nt, hU, lvs, lvq, lvt, nqt, n5, nt4, ap0, at0⟩ := hUi
  have hU0 := hU
  obtain ⟨u1, u2, u3, u4, u5, u6, u7, u8, u9⟩ := hU
  obtain ⟨W, hW⟩ : ∃ W : Nat, I 4 0 = (W : Int) := ⟨(I 4 0).toNat, by omega⟩
  obtain ⟨H, hH⟩ : ∃ H : Nat, I 4 1 = (H : Int) := ⟨(I 4 1).toNat, by omega⟩
  have W10 : W ≤ 10 := by omega
  have H10 : H ≤ 10 := by omega
  have p100 : W * H ≤ 10 * 10 := Nat.mul_le_mul W10 H10
  have em : ymul (I 4 0) (I 4 1) = ((W * H : Nat) : Int) := by rw [hW, hH, ymul_eq (by rw [← c_mulc]; omega) (by rw [← c_mulc]; omega), c_mulc]
  have ref : ¬ (W * H ≤ 36 ∧ cOt I (cNc I) ≤ 3) → ∀ r, K (some (yi r)) (N, T, R, I) := fun g r => hk r N T R I ns hT hR hUi0 cGr_rfl (fun _ _ _ _ => rfl) (.inl ⟨rfl, by
    unfold cKt
    rw [hW, hH, show ((W : Int)).toNat = W by omega, show ((H : Int)).toNat = H by omega, if_neg g]
    exact Nat.zero_le _⟩)
  refine Bd_78_0 (e1 := 2) (f1 := if ns < cKt I then 2 * cKt I else 0) (e2 := 1) (f2 := 4431) hT hR (Nat.zero_le _) (Nat.zero_le _) (by omega) (by omega) u1 u2 u3 u4 u5 u6 u7 u8 u9 ⟨fun c => ref (by rw [em] at c; omega) _, fun c36 => w_60x hT hR ⟨_, _, rfl, rfl, fun c3 X5 h5 X6 h6 => ?_, fun c => ref (by omega) _⟩⟩
  rw [em] at c36
  have A36 : W * H ≤ 36 := by omega
  have m3 : cOt I (cNc I) ≤ 3 := by omega
  have f5 : ∀ k j, ¬ (k = 91 ∧ j = 0) → X5 k j = I k j := fun k j g => by rw [h5, yU_ne _ _ g]
  rw [f5 4 0 (by omega), f5 4 1 (by omega), em] at h6
  have f6 : ∀ k j, ¬ (k = 91 ∧ j < 2) → X6 k j = I k j := fun k j g => by rw [h6, yU_ne _ _ (by omega)]; exact f5 k j (by omega)
  have q60 : X6 91 0 = (W : Int) := by rw [h6, yU_ne _ _ (by omega), h5, yU_eq]; exact hW
  have q61 : X6 91 1 = ((W * H : Nat) : Int) := by rw [h6, yU_eq]
  refine w_75 hT hR hU0 (by rw [f6 _ _ (by omega)]; exact hW) (by rw [f6 _ _ (by omega)]; exact hH) W10 H10 A36 q60 (fun X7 f7 g7 => ⟨_, rfl, rfl, ?_⟩)
  have e20 : ∀ j, X7 20 j = I 20 j := fun j => by rw [f7 _ _ (by omega), f6 _ _ (by omega)]
  have enc : cNc X7 = cNc I := by unfold cNc; rw [f7 4 5 (by omega), f6 4 5 (by omega)]
  have eot : cOt X7 (cNc X7) = cOt I (cNc I) := by rw [enc]; exact cOt_cg e20 _
  have q70 : X7 91 0 = (W : Int) := by rw [f7 _ _ (by omega)]; exact q60
  have q71 : X7 91 1 = ((W * H : Nat) : Int) := by rw [f7 _ _ (by omega)]; exact q61
  refine w_73 hT hR hU0 q70 W10 q71 A36 (by rw [eot]; exact m3) (fun X8 f8 g82 g8u => ⟨_, _, rfl, rfl, ?_⟩)
  rw [eot] at g82 g8u ⊢
  have q80 : X8 91 0 = (W : Int) := by rw [f8 _ _ (by omega)]; exact q70
  have kt : cKt I = cM (W * H + 1) (cOt I (cNc I)) := by
    unfold cKt
    rw [hW, hH, show ((W : Int)).toNat = W by omega, show ((H : Int)).toNat = H by omega, if_pos ⟨A36, m3⟩]
  refine w_72 hT hR hU0 q80 W10 g82 m3 (fun r11 => ⟨_, _, rfl, rfl, ?_⟩)
  rw [← kt]
  generalize hm : cOt I (cNc I) = m at *
  have M6 : cKt I ≤ 50653 := by rw [kt]; exact cM_le (by omega)
  have Mp : 0 < cKt I := by rw [kt]; exact cM_pos (by omega)
  have rw8 : cRw X8 W (W * H) m := by
    refine ⟨q80, W10, by rw [f8 _ _ (by omega)]; exact q71, A36, g82, m3, g8u, fun p hp => ?_, fun p dir hp hd => ?_⟩
    · rw [f8 _ _ (by omega)]; exact (g7 p hp).1
    · rw [f8 _ _ (by omega)]; exact (g7 p hp).2 dir hd
  have fI8 : ∀ k j, (k < 91 ∨ 98 ≤ k) → X8 k j = I k j := fun k j g => by rw [f8 _ _ (by omega), f7 _ _ (by omega), f6 _ _ (by omega)]
  refine w_74 hT hR h126 hU0 lvs lvq lvt M6 (by omega) (Nat.le_refl _) (fun N' T' R' I' vs' ns' vq' nq' hU' hz' hcase => ?_)
  -- what is so behind makeRows
  have st : yLT T' ∧ yLR R' ∧ cGr cUk N T R N' T' R' ∧ cAp vs' vq' ∧ vs' < N' ∧ vq' < N' ∧ vt < N' ∧ vt ≠ vq' ∧ nq' = ns' ∧ ns' ≤ 50653 ∧ cKt I ≤ ns' ∧ ((ns' = ns ∧ cKt I ≤ ns) ∨ (ns < cKt I ∧ ns' = cKt I)) ∧ 126 ≤ N' ∧ (∀ k j, k < N → k ≠ vs' → I' k j = X8 k j) := by
    rcases hcase with ⟨a0, rfl, rfl, rfl, rfl, rfl, rfl, rfl, a1⟩ | ⟨a0, rfl, rfl, rfl, rfl, rfl, rfl, rfl, a1⟩
    · exact ⟨hT, hR, cGr_rfl, ap0.resolve_left (by omega), lvs, lvq, lvt, nqt, rfl, n5, a0, .inl ⟨rfl, a0⟩, h126, fun k j _ g => a1 k j g⟩
    · refine ⟨yLT_nw (by omega) (yLT_nw h126 hT), yLR_up (by decide) (yLR_nw (by omega) (yLR_up (by decide) (yLR_nw h126 hR))), ⟨by omega, fun k hk => ?_, fun k j hk ho => ?_⟩, ⟨by omega, by omega⟩, by omega, by omega, by omega, by omega, rfl, M6, Nat.le_refl _, .inr ⟨a0, rfl⟩, by omega, fun k j hkN _ => a1 k j hkN⟩
      · rw [yNT_ne _ _ _ (by omega), yNT_ne _ _ _ (by omega)]
      · rw [yUR_ne _ _ (by omega), yNR_ne _ _ (by omega), yUR_ne _ _ (by omega), yNR_ne _ _ (by omega)]
  obtain ⟨hT', hR', gr, ap, lvs', lvq', lvt', nqt', enq, n5', kn', cs, h126', fI'⟩ := st
  have ap' : 126 ≤ vs' ∧ 126 ≤ vq' := ap
  have enq := enq.symm
  subst enq
  have rw9 : cRw I' W (W * H) m := cRw_cg rw8 (fI' _ _ (by omega) (by omega)) (fI' _ _ (by omega) (by omega)) (fI' _ _ (by omega) (by omega)) (fun j => fI' _ _ (by omega) (by omega)) (fun j => fI' _ _ (by omega) (by omega)) (fun j => fI' _ _ (by omega) (by omega))
  have tvs : ∀ k, k < N → 2 ≤ (T k).1 → k ≠ vs' ∧ k ≠ vq' ∧ k ≠ vt := fun k hkN h2 => by
    have e := gr.2.1 k hkN
    refine ⟨fun g => ?_, fun g => ?_, fun g => ?_⟩
    · subst g; rw [← e, hU'.2.1] at h2; exact absurd h2 (by show ¬ (2 ≤ 0); omega)
    · subst g; rw [← e, hU'.2.2.2.2.1] at h2; exact absurd h2 (by show ¬ (2 ≤ 1); omega)
    · subst g; rw [u8] at h2; exact absurd h2 (by show ¬ (2 ≤ 1); omega)
  have at1 : vt ≥ 126 ∨ nt = 0 := by omega
  have hfr : ∀ X : Nat → Nat → Int, (∀ k j, ¬ cWs vs' vq' k j → X k j = I' k j) → ∀ k j, k < N → (k < 91 ∨ (101 ≤ k ∧ k < 126) ∨ (126 ≤ k ∧ 2 ≤ (T k).1)) → X k j = I k j := fun X fX k j hkN hc => by
    have nv : k ≠ vs' ∧ k ≠ vq' := by
      rcases hc with e | e | e
      · omega
      · omega
      · exact ⟨(tvs k hkN e.2).1, (tvs k hkN e.2).2.1⟩
    rw [fX k j (by omega), fI' k j hkN nv.1]
    exact fI8 k j (by omega)
  refine ⟨N', T', R', I', rfl, rfl, hT', hR', ?_⟩
  rw [ysub_eq (by omega) (by omega), show ((cKt I : Nat) : Int) - 1 = ((cKt I - 1 : Nat) : Int) by omega]
  refine w_77 hT' hR' hU' ap rw9 kt (by omega) (by omega) kn' kn' hz' (fun r X fX hX => ⟨_, _, rfl, rfl, fun c => ?_, fun c => ?_⟩)
  · rcases hX with e | ⟨_, x0, q, pf, mf, h, e1, e2, e3, b, e4, e5, e6⟩
    · exact absurd e c
    · subst e1
      have rwX : cRw X W (W * H) m := cRw_ws rw9 ap fX
      have bX : cBf (cMv X (W * H) m) (cKt I) (X vq') (X vs') q pf mf h 0 := by
        have mc : ∀ x u y, cMv X (W * H) m x u y ↔ cMv I' (W * H) m x u y := fun x u y => cMv_cg (fun j => fX _ _ (by omega)) (fun j => fX _ _ (by omega)) (fun j => fX _ _ (by omega)) x u y
        have ef : cMv X (W * H) m = cMv I' (W * H) m := by
          funext x u y
          exact propext (mc x u y)
        rw [ef]; exact b
      refine w_82 hT' hR' h126' hU' ap lvs' lvq' lvt' nqt' (by omega) rwX kt kn' (by omega) bX e4 e5 e6 (Nat.le_refl _) (Nat.le_refl _) (fun N2 T2 R2 I2 vt2 nt2 hU2 hc2 f2 => ?_)
      have hT2 : yLT T2 := by
        rcases hc2 with ⟨_, e, -⟩ | ⟨_, _, _, e, -⟩
        · rw [e]; exact hT'
        · rw [e]; exact yLT_nw h126' hT'
      have hR2 : yLR R2 := by
        rcases hc2 with ⟨_, _, e, -⟩ | ⟨_, _, _, _, e, -⟩
        · rw [e]; exact hR'
        · rw [e]; exact yLR_up (by decide) (yLR_nw h126' hR')
      refine ⟨N2, T2, R2, I2, rfl, rfl, hT2, hR2, hk _ N2 T2 R2 I2 ns' hT2 hR2 ?_ (cGr_tr gr ?_) (fun k j hkN hc => ?_) cs⟩
      · rcases hc2 with ⟨rfl, rfl, rfl, rfl, rfl⟩ | ⟨a1, a2, e3, e4, e5, e6⟩
        · exact ⟨vs', vq', vt2, nt2, hU2, lvs', lvq', lvt', nqt', n5', nt4, .inr ap', at0⟩
        · exact ⟨vs', vq', vt2, nt2, hU2, by omega, by omega, by omega, by omega, n5', a2, .inr ap', .inr (by omega)⟩
      · rcases hc2 with ⟨rfl, rfl, rfl, -⟩ | ⟨_, _, rfl, rfl, rfl, -⟩
        · exact cGr_rfl
        · refine ⟨by omega, fun k hk => yNT_ne _ _ _ (by omega), fun k j hk ho => ?_⟩
          rw [yUR_ne _ _ (by omega), yNR_ne _ _ (by omega)]
      · have kN' : k < N' := by have := gr.1; omega
        have nvt : k ≠ vt := by
          rcases hc with e | e | e
          · rcases at1 with g | g
            · omega
            · intro e2
              subst e2
              have := hT k (Nat.ble_eq.mpr (by omega))
              rw [u8, g] at this
              have d : ∀ k : Fin 91, yT0 k.1 ≠ (1, 0) := by decide
              exact d ⟨k, e⟩ this.symm
          · rcases at1 with g | g
            · omega
            · intro e2
              subst e2
              have := hT k (Nat.ble_eq.mpr (by omega))
              rw [u8, g] at this
              have d : ∀ k : Fin 25, yT0 (101 + k.1) ≠ (1, 0) := by decide
              have d2 := d ⟨k - 101, by omega⟩
              simp only at d2
              rw [show 101 + (k - 101) = k by omega] at d2
              exact d2 this.symm
          · exact (tvs k hkN e.2).2.2
        rw [f2 k j kN' (by omega)]
        exact hfr X fX k j hkN hc
  · exact hk _ N' T' R' X ns' hT' hR' ⟨vs', vq', vt, nt, hU', lvs', lvq', lvt', nqt', n5', nt4, .inr ap', at0⟩ gr (hfr X fX) cs
theorem w_150 (hT : yLT T) (hR : yLR R) (h126 : 126 ≤ N) (hUi : cUi N T R ns) (hl4 : 0 ≤ I 4 0 ∧ I 4 0 ≤ 10 ∧ 0 ≤ I 4 1 ∧ I 4 1 ≤ 10) (hb1 : 3 ≤ bc) (hb2 : (if ns < cKt I then 2 * cKt I else 0) + 4431 ≤ bs)
    (hk : ∀ (r : Int) (N' : Nat) (T' : Nat → Nat × Nat) (R' : Nat → Nat → Option Nat) (I' : Nat → Nat → Int) (ns' : Nat), yLT T' → yLR R' → cUi N' T' R' ns' → cGr cUk N T R N' T' R' → (∀ k j, k < N → (k < 91 ∨ (101 ≤ k ∧ k < 126) ∨ (126 ≤ k ∧ 2 ≤ (T k).1)) → I' k j = I k j) → ((ns' = ns ∧ cKt I ≤ ns) ∨ (ns < cKt I ∧ ns' = cKt I)) → K (some (yi r)) (N', T', R', I')) :
    yW l zSS D cy zFk z (d + 4) 150 bc bs K 0 0 0 [(0, yr (some 0))] [] (N, T, R, I) := by
  obtain ⟨f, hf⟩ : ∃ f, f = (if ns < cKt I then 2 * cKt I else 0) + 4431 := ⟨_, rfl⟩
  rw [← hf] at hb2
  refine Bd_150_0 (e1 := 3) (f1 := f) hT hR (Nat.zero_le _) (Nat.zero_le _) (by omega) (by omega) (w_78 hT hR h126 hUi hl4 (Nat.le_refl _) (Nat.le_of_eq hf.symm) (fun r N' T' R' I' ns' a b c e f g => ⟨N', T', R', r, I', rfl, rfl, a, b, hk r N' T' R' I' ns' a b c e f g⟩))
theorem w_147 (hT : yLT T) (hR : yLR R) (hUi : cUi N T R ns) {x1 : Int} (hk : ∀ r, K (some (yi r)) (N, T, R, I)) : yW l zSS D cy zFk z d 147 bc bs K 0 0 0 [(0, yr (some 0)), (1, yi x1)] [] (N, T, R, I) := by
  obtain ⟨vs, vq, vt, nt, hU, -⟩ := hUi
  obtain ⟨u1, u2, u3, u4, u5, u6, u7, u8, u9⟩ := hU
  exact B_147_0 hT hR u1 u2 u3 u4 u5 u6 u7 u8 u9 ⟨fun _ => hk _, fun c => ⟨fun _ => hk _, fun _ => ⟨fun c2 => ⟨by omega, c2, hk _⟩, fun _ => hk _⟩⟩⟩
end Cu
