/-! THE REFERENCE's CONTRACTS: ROOM is kept, 9: what a PLAN does. -/
theorem mNb_upd {I I' : Nat → Nat → Int} {k : Nat} (h : mNb I) (low : ∀ j, j < 458 → I' 104 j = I 104 j) (ho : ∀ q, q < 8 → q ≠ k → I' 104 (470 + q) = I 104 (470 + q)) (hk : I' 104 (470 + k) < 0 ∨ I' 104 (470 + k) ≠ I 104 (334 + k)) : mNb I' := fun q q8 qn q0 => by
  rw [low 2 (by omega)] at qn
  rw [low (334 + q) (by omega)]
  by_cases e : q = k
  · subst e
    rcases hk with g | g
    · omega
    · exact g
  · rw [ho q q8 e] at q0 ⊢
    exact h q q8 qn q0
section Sm
variable {l : Launch} {D : va_G} {cy : Nat → ClassId} {z d bc bs N : Nat} {T : Nat → Nat × Nat} {R : Nat → Nat → Option Nat} {I : Nat → Nat → Int} {K : yKo}
theorem r_doesR (hT : yLT T) (hR : yLR R) {k : Nat} {x2 : Int} (hk8 : k < 8) (hkC : (k : Int) < 8) (h2 : 0 ≤ x2 ∧ x2 ≤ 3) (hI : mInv I) (hRo : mRo I) (hNb : mNb I) (hk : ∀ r I', mInv I' → mRo I' → mNb I' → (∀ q j, (q ≠ 104 ∨ j < 459 ∨ 926 ≤ j) → I' q j = I q j) → K (some (yi r)) (N, T, R, I')) : yW l zSS D cy zFk z (d + 3) 173 bc bs K 0 0 0 [(0, yr (some 102)), (1, yi (k : Int)), (2, yi x2)] [] (N, T, R, I) := by
  obtain ⟨a1, a2⟩ := hI.2.2.2.2.2.1 k hk8
  have ar := mInv_at hI a1
  have h8 := hI.1.2.2.2.2.2
  refine B_173_0 hT hR ?_
  rw [yadd_eq (x := 470) (by omega) (by omega), yadd_eq (x := 486) (by omega) (by omega), yadd_eq (x := 478) (by omega) (by omega), yadd_eq (x := 334) (by omega) (by omega), yadd_eq (x := 510) (by omega) (by omega)]
  rw [show ((470 : Int) + (k : Int)).toNat = 470 + k by omega, show ((486 : Int) + (k : Int)).toNat = 486 + k by omega, show ((478 : Int) + (k : Int)).toNat = 478 + k by omega, show ((334 : Int) + (k : Int)).toNat = 334 + k by omega, show ((510 : Int) + (k : Int)).toNat = 510 + k by omega]
  have out : ∀ r, K (some (yi r)) (N, T, R, I) := fun r => hk r I hI hRo hNb (fun _ _ _ => rfl)
  refine ⟨by omega, by omega, fun c1 => ⟨by omega, by omega, ?_⟩, fun _ => out _⟩
  have hst := @mStep_rng I hI.1 (I 104 (470 + k)) x2
  refine r_stepTo (d := d) hT hR hI.1 c1 ar.2 (by omega) (by omega) ⟨_, _, rfl, rfl, fun c7 => ?_, fun _ => out _⟩
  generalize hto : mStep I (I 104 (470 + k)) x2 = to at *
  have hc : mCell (I 104 0) (I 104 1) to ∧ to < 100 := by rcases hst with e | e; omega; exact e
  have hroom := hI.2.2.1 to.toNat (by omega)
  refine r_hasRoom (d := d + 1) hT hR hI.1.2.2.2.2 c7 hc.2 hroom.1 hroom.2 (fun r10 hrr => ⟨_, _, rfl, rfl, fun rne => ?_, fun _ => out _⟩)
  refine ⟨by omega, by omega, by omega, by omega, ?_⟩
  have hbk : mOn I to (I 104 2).toNat < 1 + I 104 (210 + to.toNat) := by
    rcases hrr with ⟨_, g⟩ | ⟨g, _⟩
    · exact g
    · exact absurd g rne
  intro I16 e16
  rw [ynar1_eq (by omega) (by omega)] at e16
  have i16 : mInv I16 := by rw [e16]; exact mInv_set hI (by omega) (by omega) (by omega) (by omega) (fun _ _ => a1)
  have r16 : mRo I16 := by rw [e16]; exact mRo_set hRo h8 (by omega) (by omega) (by omega)
  have room16 := mRo_room (I' := I16) h8 hc.2 (fun j hj => by rw [e16, yU_ne _ _ (by omega)]) hbk
  have s16 : ∀ q j, (q ≠ 104 ∨ j < 459 ∨ 926 ≤ j) → I16 q j = I q j := fun q j h => by rw [e16, yU_ne _ _ (by omega)]
  refine ⟨by omega, by omega, ?_⟩
  intro I19 e19
  rw [ynar1_eq (by omega) (by omega)] at e19
  have c16 : mAt I16 to := by
    right; left; rw [s16 104 0 (by omega), s16 104 1 (by omega)]; exact hc.1
  have i19 : mInv I19 := by rw [e19]; exact mInv_set i16 (by omega) (by omega) (by omega) (fun _ _ => c16) (by omega)
  have r19 : mRo I19 := by rw [e19]; exact mRo_set r16 i16.1.2.2.2.2.2 (by omega) (by omega) (fun _ _ => .inr room16)
  have s19 : ∀ q j, (q ≠ 104 ∨ j < 459 ∨ 926 ≤ j) → I19 q j = I q j := fun q j h => by rw [e19, yU_ne _ _ (by omega)]; exact s16 q j h
  refine ⟨by omega, by omega, by omega, by omega, ?_⟩
  intro I24 e24
  have i24 : mInv I24 := by rw [e24]; exact mInv_set i19 (by omega) (by omega) (by omega) (by omega) (by omega)
  have r24 : mRo I24 := by rw [e24]; exact mRo_set r19 i19.1.2.2.2.2.2 (by omega) (by omega) (by omega)
  have k24 : I24 104 (470 + k) = to := by rw [e24, yU_ne _ _ (by omega), e19, yU_eq]
  have o24 : ∀ q, q < 8 → q ≠ k → I24 104 (470 + q) = I 104 (470 + q) := fun q hq hne => by rw [e24, yU_ne _ _ (by omega), e19, yU_ne _ _ (by omega), e16, yU_ne _ _ (by omega)]
  have s24 : ∀ q j, (q ≠ 104 ∨ j < 459 ∨ 926 ≤ j) → I24 q j = I q j := fun q j h => by rw [e24, yU_ne _ _ (by omega)]; exact s19 q j h
  refine ⟨by omega, by omega, fun _ => ⟨by omega, by omega, ?_⟩, fun cne => hk _ I24 i24 r24 (mNb_upd (k := k) hNb (fun j hj => s24 104 j (by omega)) o24 (.inr (by rw [k24, ← s24 104 (334 + k) (by omega)]; exact cne))) s24⟩
  intro I30 e30
  rw [ynar1_eq (by omega) (by omega)] at e30
  have i30 : mInv I30 := by rw [e30]; exact mInv_set i24 (by omega) (by omega) (by omega) (fun _ _ => .inl rfl) (by omega)
  have r30 : mRo I30 := by rw [e30]; exact mRo_set r24 i24.1.2.2.2.2.2 (by omega) (by omega) (fun _ _ => .inl (by omega))
  have s30 : ∀ q j, (q ≠ 104 ∨ j < 459 ∨ 926 ≤ j) → I30 q j = I q j := fun q j h => by rw [e30, yU_ne _ _ (by omega)]; exact s24 q j h
  refine ⟨by omega, by omega, ?_⟩
  intro I33 e33
  exact hk _ I33 (by rw [e33]; exact mInv_set i30 (by omega) (by omega) (by omega) (by omega) (by omega)) (by rw [e33]; exact mRo_set r30 i30.1.2.2.2.2.2 (by omega) (by omega) (by omega)) (mNb_upd (k := k) hNb (fun j hj => by rw [e33, yU_ne _ _ (by omega)]; exact s30 104 j (by omega)) (fun q hq hne => by rw [e33, yU_ne _ _ (by omega), e30, yU_ne _ _ (by omega)]; exact o24 q hq hne) (.inl (by rw [e33, yU_ne _ _ (by omega), e30, yU_eq]; omega))) (fun q j h => by rw [e33, yU_ne _ _ (by omega)]; exact s30 q j h)
end Sm
