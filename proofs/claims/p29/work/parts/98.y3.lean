/-! THE REFERENCE's CONTRACTS: ROOM is kept, 4: a MINUTE; who is where it is bound is out no more. -/
theorem mNb_eq {I I' : Nat → Nat → Int} (h : mNb I) (h1 : ∀ j, j < 458 ∨ (470 ≤ j ∧ j < 478) → I' 104 j = I 104 j) : mNb I' := fun k k8 kn k0 => by
  rw [h1 2 (by omega)] at kn
  rw [h1 _ (by omega)] at k0
  rw [h1 _ (by omega), h1 _ (by omega)]
  exact h k k8 kn k0
section Sm
variable {l : Launch} {D : va_G} {cy : Nat → ClassId} {z d bc bs N : Nat} {T : Nat → Nat × Nat} {R : Nat → Nat → Option Nat} {I : Nat → Nat → Int} {K : yKo}
theorem r_minuteR (hT : yLT T) (hR : yLR R) (hI : mInv I) (hRo : mRo I) (hm0 : -2147483648 ≤ I 104 458) (hm1 : I 104 458 < 2147483647) (hk : ∀ I', mInv I' → mRo I' → mNb I' → mFm I I' → I' 104 458 = I 104 458 + 1 → K none (N, T, R, I')) : yW l zSS D cy zFk z (d + 5) 215 bc bs K 0 0 0 [(0, yr (some 102))] [] (N, T, R, I) := by
  have dim : ∀ {I'}, mFr I I' → I' 104 2 = I 104 2 := fun h => mFr_low h (by omega)
  have h0 := hI.1.2.2.2.2.1
  have h8 := hI.1.2.2.2.2.2
  have l107 : ∀ (m : Nat) (I' : Nat → Nat → Int) (k : Nat), k + m = 9 → mInv I' → mRo I' → mFr I I' → (k : Int) ≤ I 104 2 → (∀ q : Nat, q < k → (q : Int) < I 104 2 → 0 ≤ I' 104 (470 + q) → I' 104 (470 + q) ≠ I' 104 (334 + q)) → yW l zSS D cy zFk z (d + 5) 215 bc bs K 0 0 107 [(0, yr (some 102)), (1, yi (k : Int))] [] (N, T, R, I') := by
    intro m
    induction m with
    | zero => intro I' k h1 h2 hr h3 h4 hn; omega
    | succ m ih =>
      intro I' k h1 h2 hr h3 h4 hn
      have e2 := dim h3
      have e458 : I' 104 458 = I 104 458 := mFr_low h3 (by omega)
      have h82 := h2.1.2.2.2.2.2
      refine B_215_107 hT hR ⟨fun cend => ?_, fun c => ?_⟩
      · intro I2 g2
        rw [yadd_eq (by omega) (by omega), ynar1_eq (by omega) (by omega)] at g2
        refine hk I2 (by rw [g2]; exact mInv_set h2 (by omega) (by omega) (by omega) (by omega) (by omega)) (by rw [g2]; exact mRo_set hr h82 (by omega) (by omega) (by omega)) (fun q q8 qn q0 => ?_) (fun a b p q r s t u => ?_) (by rw [g2, yU_eq, e458])
        · rw [g2, yU_ne _ _ (by omega), e2] at qn
          rw [g2, yU_ne _ _ (by omega)] at q0
          rw [g2, yU_ne _ _ (by omega), yU_ne _ _ (by omega)]
          exact hn q (by omega) qn q0
        rw [g2, yU_ne _ _ (by omega)]
        exact mFm_fr h3 a b p q r s t u
      · have next : ∀ {I2}, mInv I2 → mRo I2 → mFr I I2 → (∀ q : Nat, q < k + 1 → (q : Int) < I 104 2 → 0 ≤ I2 104 (470 + q) → I2 104 (470 + q) ≠ I2 104 (334 + q)) → yW l zSS D cy zFk z (d + 5) 215 bc bs K 0 0 107 [(0, yr (some 102)), (1, yi ((k : Int) + 1))] [] (N, T, R, I2) := fun i2 r2 f2 n2 => ih _ (k + 1) (by omega) i2 r2 f2 (by omega) n2
        rw [yadd_eq (x := 470) (by omega) (by omega), yadd_eq (x := 334) (by omega) (by omega), yadd_eq (x := 510) (by omega) (by omega), yadd_eq (x := (k : Int)) (by omega) (by omega)]
        have e1 : ((470 : Int) + (k : Int)).toNat = 470 + k := by omega
        have e3 : ((510 : Int) + (k : Int)).toNat = 510 + k := by omega
        have e4 : ((334 : Int) + (k : Int)).toNat = 334 + k := by omega
        rw [e1, e3, e4]
        refine ⟨by omega, by omega, fun c1 => next h2 hr h3 (fun q hq a b => ?_), fun _ => ⟨by omega, by omega, by omega, by omega, fun _ => ⟨by omega, by omega, ?_⟩, fun c2 => next h2 hr h3 (fun q hq a b => ?_)⟩⟩
        · by_cases e : q = k
          · subst e; omega
          · exact hn q (by omega) a b
        rotate_left
        · by_cases e : q = k
          · subst e; exact c2
          · exact hn q (by omega) a b
        intro I13 g13
        refine ⟨by omega, by omega, ?_⟩
        intro I16 g16
        rw [ynar1_eq (by omega) (by omega)] at g16
        have i13 : mInv I13 := by rw [g13]; exact mInv_set h2 (by omega) (by omega) (by omega) (by omega) (by omega)
        have f13 : mFr I I13 := by rw [g13]; exact mFr_set h3 (by omega) (by omega) _
        have r13 : mRo I13 := by rw [g13]; exact mRo_set hr h82 (by omega) (by omega) (by omega)
        have r16 : mRo I16 := by rw [g16]; exact mRo_set r13 i13.1.2.2.2.2.2 (by omega) (by omega) (fun _ _ => .inl (by omega))
        exact next (by rw [g16]; exact mInv_set i13 (by omega) (by omega) (by omega) (fun _ _ => .inl rfl) (by omega)) r16 (by rw [g16]; exact mFr_set f13 (by omega) (by omega) _) (fun q hq a b => by
          by_cases e : q = k
          · subst e; rw [g16, yU_eq] at b; omega
          · rw [g16, yU_ne _ _ (by omega), g13, yU_ne _ _ (by omega)] at b
            rw [g16, yU_ne _ _ (by omega), yU_ne _ _ (by omega), g13, yU_ne _ _ (by omega), yU_ne _ _ (by omega)]
            exact hn q (by omega) a b)
  have l79 : ∀ (m : Nat) (I' : Nat → Nat → Int) (k : Nat), k + m = 9 → mInv I' → mRo I' → mFr I I' → (k : Int) ≤ I 104 2 → yW l zSS D cy zFk z (d + 5) 215 bc bs K 0 0 79 [(0, yr (some 102)), (1, yi (k : Int))] [] (N, T, R, I') := by
    intro m
    induction m with
    | zero => intro I' k h1 h2 hr h3 h4; omega
    | succ m ih =>
      intro I' k h1 h2 hr h3 h4
      have e2 := dim h3
      refine B_215_79 hT hR ⟨fun _ => l107 9 I' 0 rfl h2 hr h3 (by omega) (fun q hq => absurd hq (Nat.not_lt_zero _)), fun c => ⟨by omega, by omega, ?_⟩⟩
      have ek : ((k : Int)).toNat = k := by omega
      rw [yadd_eq (x := (k : Int)) (by omega) (by omega), ek]
      obtain ⟨o1, o2, _, _⟩ := h2.2.2.2.2.2.2 k (by omega)
      obtain ⟨o, ho⟩ : ∃ o : Nat, I' 111 k = (o : Int) := ⟨(I' 111 k).toNat, by omega⟩
      rw [ho]
      exact r_actsR (d := d) hT hR (by omega) h2 hr (fun I2 i2 r2 f2 => ⟨_, rfl, rfl, ih I2 (k + 1) (by omega) i2 r2 (mFr_tr h3 f2) (by omega)⟩)
  have l20 : ∀ (m : Nat) (I' : Nat → Nat → Int) (k : Nat), k + m = 9 → mInv I' → mRo I' → mFr I I' → (k : Int) ≤ I 104 2 → yW l zSS D cy zFk z (d + 5) 215 bc bs K 0 0 20 [(0, yr (some 102)), (1, yi (k : Int))] [] (N, T, R, I') := by
    intro m
    induction m with
    | zero => intro I' k h1 h2 hr h3 h4; omega
    | succ m ih =>
      intro I' k h1 h2 hr h3 h4
      have e2 := dim h3
      refine B_215_20 hT hR ⟨fun _ => l79 9 I' 0 rfl h2 hr h3 (by omega), fun c => ?_⟩
      rw [yadd_eq (x := 518) (by omega) (by omega), yadd_eq (x := (k : Int)) (by omega) (by omega)]
      have e1 : ((518 : Int) + (k : Int)).toNat = 518 + k := by omega
      rw [e1]
      have both : ∀ v w : Int, yW l zSS D cy zFk z (d + 5) 215 bc bs K 0 0 20 [(0, yr (some 102)), (1, yi ((k : Int) + 1))] [] (N, T, R, yU (yU I' 102 32 v) 104 (518 + k) w) := fun v w =>
        ih _ (k + 1) (by omega) (mInv_set (mInv_fld h2 _ _ _ (by decide) (by decide) (by decide)) (by omega) (by omega) (by omega) (by omega) (by omega)) (mRo_set (mRo_fld hr h2.1.2.2.2.2.2 102 32 v (by decide)) (mInv_fld h2 102 32 v (by decide) (by decide) (by decide)).1.2.2.2.2.2 (by omega) (by omega) (by omega)) (mFr_set (mFr_fld h3 (by omega) (by omega) _) (by omega) (by omega) _) (by omega)
      refine ⟨by omega, by omega, fun _ => ?_, fun _ => ?_⟩
      · intro I5 g5
        refine ⟨by omega, by omega, ?_⟩
        intro I8 g8
        rw [g8, g5]; exact both _ _
      · intro I9 g9
        refine ⟨by omega, by omega, ?_⟩
        intro I12 g12
        rw [g12, g9]; exact both _ _
  refine B_215_0 hT hR (r_setsOutR (d := d + 2) hT hR hI hRo (fun I1 i1 r1 f1 => ⟨_, rfl, rfl, ?_⟩))
  refine r_orders (d := d + 3) hT hR i1.1.2.2.2.2 i1.2.1 i1.2.2.2.2.2.2 (fun I2 f2 o2 => ⟨_, rfl, rfl, ?_⟩)
  intro I3 g3 I4 g4
  have i2 : mInv I2 := mInv_eq i1 (fun j => f2 104 j (by decide) (by decide)) o2
  have fr2 : mFr I I2 := fun a b p q r s t u => by rw [f2 a b s t]; exact f1 a b p q r s t u
  have r2 : mRo I2 := mRo_eq r1 i1.1.2.2.2.2.2 (fun j _ => f2 104 j (by decide) (by decide))
  refine l20 9 I4 0 rfl ?_ (by rw [g4, g3]; exact mRo_fld (mRo_fld r2 i2.1.2.2.2.2.2 _ _ _ (by decide)) (mInv_fld i2 _ _ _ (by decide) (by decide) (by decide)).1.2.2.2.2.2 _ _ _ (by decide)) ?_ (by omega)
  · rw [g4, g3]; exact mInv_fld (mInv_fld i2 _ _ _ (by decide) (by decide) (by decide)) _ _ _ (by decide) (by decide) (by decide)
  · rw [g4, g3]; exact mFr_fld (mFr_fld fr2 (by omega) (by omega) _) (by omega) (by omega) _
theorem r_runsR (hT : yLT T) (hR : yLR R) (hI : mInv I) (hRo : mRo I) (hNb : mNb I) (hm0 : 0 ≤ I 104 458) (hk : ∀ I', mInv I' → mRo I' → mNb I' → mFm I I' → K none (N, T, R, I')) : yW l zSS D cy zFk z (d + 6) 232 bc bs K 0 0 0 [(0, yr (some 102))] [] (N, T, R, I) := by
  have loop : ∀ (m : Nat) (I' : Nat → Nat → Int), 500 ≤ I' 104 458 + (m : Int) → mInv I' → mRo I' → mNb I' → mFm I I' → 0 ≤ I' 104 458 → yW l zSS D cy zFk z (d + 6) 232 bc bs K 0 0 4 [(0, yr (some 102))] [] (N, T, R, I') := by
    intro m
    induction m with
    | zero => intro I' h1 h2 hr hn h3 h4; exact B_232_4 hT hR ⟨fun _ => hk I' h2 hr hn h3, fun c => absurd c (by omega)⟩
    | succ m ih =>
      intro I' h1 h2 hr hn h3 h4
      refine B_232_4 hT hR ⟨fun _ => hk I' h2 hr hn h3, fun c => ?_⟩
      refine r_areAllThere (d := d + 3) hT hR h2.1.2.2.2.2 (fun r _ => ⟨_, _, rfl, rfl, fun _ => hk I' h2 hr hn h3, fun _ => ?_⟩)
      exact r_minuteR (d := d) hT hR h2 hr (by omega) (by omega) (fun I2 i2 r2 n2 f2 e2 => ⟨_, rfl, rfl, ih I2 (by omega) i2 r2 n2 (mFm_tr h3 f2) (by omega)⟩)
  refine B_232_0 hT hR (r_ways (d := d + 1) hT hR hI.1 (fun I1 w1 => ⟨_, rfl, rfl, ?_⟩))
  have e : I1 104 458 = I 104 458 := w1 104 458 (by decide) (by decide)
  exact loop 500 I1 (by omega) (mInv_wy hI w1) (mRo_eq hRo hI.1.2.2.2.2.2 (fun j _ => w1 104 j (by decide) (by decide))) (mNb_eq hNb (fun j _ => w1 104 j (by decide) (by decide))) (mFm_wy w1) (by omega)
end Sm
