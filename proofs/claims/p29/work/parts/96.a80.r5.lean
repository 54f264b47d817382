/-! THE REFERENCE's CONTRACTS, 5: the next STEP, who acts. -/
theorem mAt_fr {I I' : Nat → Nat → Int} (h : mFr I I') {v : Int} : mAt I' v ↔ mAt I v := by
  unfold mAt
  rw [h 104 0 (.inr (.inl (by decide))) (by decide) (by decide) (by decide) (by decide) (.inl (by decide)), h 104 1 (.inr (.inl (by decide))) (by decide) (by decide) (by decide) (by decide) (.inl (by decide))]
theorem mFr_low {I I' : Nat → Nat → Int} (h : mFr I I') {j : Nat} (hj : j < 459) : I' 104 j = I 104 j := h 104 j (.inr (.inl hj)) (by decide) (by decide) (by decide) (by decide) (.inl (by decide))
theorem mOn_ex {I : Nat → Nat → Int} {c : Int} : ∀ n, 1 ≤ mOn I c n → ∃ q, q < n ∧ I 104 (470 + q) = c := by
  intro n
  induction n with
  | zero => intro h; have h : (1 : Int) ≤ 0 := h; omega
  | succ n ih =>
    intro h
    unfold mOn at h
    by_cases e : I 104 (470 + n) = c
    · exact ⟨n, by omega, e⟩
    · rw [if_neg e] at h
      obtain ⟨q, h1, h2⟩ := ih (by omega)
      exact ⟨q, by omega, h2⟩
section Sm
variable {l : Launch} {D : va_G} {cy : Nat → ClassId} {z d bc bs N : Nat} {T : Nat → Nat × Nat} {R : Nat → Nat → Option Nat} {I : Nat → Nat → Int} {K : yKo}
theorem r_stepOf (hT : yLT T) (hR : yLR R) {k : Nat} (hk8 : k < 8) (hI : mInv I) (hk : ∀ r, (r = -1 ∨ mCell (I 104 0) (I 104 1) r) → K (some (yi r)) (N, T, R, I)) : yW l zSS D cy zFk z (d + 3) 241 bc bs K 0 0 0 [(0, yr (some 102)), (1, yi (k : Int))] [] (N, T, R, I) := by
  have ha := (hI.2.2.2.2.2.1 k hk8).1
  have ar := mInv_at hI ha
  have em : ymul 100 (k : Int) = 100 * (k : Int) := ymul_eq (by omega) (by omega)
  have loop : ∀ (m dir : Nat), dir + m = 4 → 0 ≤ I 104 (470 + k) → yW l zSS D cy zFk z (d + 3) 241 bc bs K 0 0 34 [(0, yr (some 102)), (1, yi (k : Int)), (2, yi (I 104 (470 + k))), (3, yi (dir : Int))] [] (N, T, R, I) := by
    intro m
    induction m with
    | zero => intro dir h1 h2; exact B_241_34 hT hR ⟨fun _ => hk _ (.inl rfl), fun c => absurd c (by omega)⟩
    | succ m ih =>
      intro dir h1 h2
      have next := ih (dir + 1) (by omega) h2
      refine B_241_34 hT hR ⟨fun c => absurd c (by omega), fun _ => ?_⟩
      rw [yadd_eq (x := (dir : Int)) (by omega) (by omega)]
      refine r_stepTo (d := d) hT hR hI.1 h2 ar.2 (by omega) (by omega) ⟨_, _, rfl, rfl, fun _ => next, fun c => ?_⟩
      have hr := @mStep_rng I hI.1 (I 104 (470 + k)) (dir : Int)
      generalize mStep I (I 104 (470 + k)) (dir : Int) = t at *
      have ht : t < 100 := by rcases hr with g | g; omega; exact g.2
      rw [em, yadd_eq (x := 100 * (k : Int)) (y := t) (by omega) (by omega), yadd_eq (x := 100 * (k : Int)) (y := I 104 (470 + k)) (by omega) (by omega)]
      refine ⟨by omega, by omega, fun _ => next, fun _ => ⟨by omega, by omega, by omega, by omega, fun _ => next, fun _ => hk t ?_⟩⟩
      rcases hr with g | g
      · exact .inl g
      · exact .inr g.1
  refine B_241_0 hT hR ?_
  rw [yadd_eq (x := 470) (by omega) (by omega)]
  have e : ((470 : Int) + (k : Int)).toNat = 470 + k := by omega
  rw [e, em]
  refine ⟨by omega, by omega, fun _ => hk _ (.inl rfl), fun c => ?_⟩
  rw [yadd_eq (x := 100 * (k : Int)) (by omega) (by omega)]
  exact ⟨by omega, by omega, fun _ => loop 4 0 rfl (by omega), fun _ => hk _ (.inl rfl)⟩
/-- a CHAIR acts -/
theorem r_acts (hT : yLT T) (hR : yLR R) {k : Nat} (hk8 : k < 8) (hI : mInv I) (hk : ∀ I', mInv I' → mFr I I' → K none (N, T, R, I')) : yW l zSS D cy zFk z (d + 4) 155 bc bs K 0 0 0 [(0, yr (some 102)), (1, yi (k : Int))] [] (N, T, R, I) := by
  have wait : ∀ {I'}, mInv I' → mFr I I' → mInv (yU I' 104 (502 + k) (ynar 1 (yadd (I' 104 (502 + k)) 1))) ∧ mFr I (yU I' 104 (502 + k) (ynar 1 (yadd (I' 104 (502 + k)) 1))) := fun h h' =>
    ⟨mInv_set h (by omega) (by omega) (by omega) (by omega) (by omega), mFr_set h' (by omega) (by omega) _⟩
  have e502 : ((502 : Int) + (k : Int)).toNat = 502 + k := by omega
  have l86 : ∀ {I'}, mInv I' → mFr I I' → yW l zSS D cy zFk z (d + 4) 155 bc bs K 0 0 86 [(0, yr (some 102)), (1, yi (k : Int))] [] (N, T, R, I') := by
    intro I' h h'
    refine B_155_86 hT hR ?_
    rw [yadd_eq (x := 502) (by omega) (by omega), e502]
    refine ⟨by omega, by omega, by omega, by omega, ?_⟩
    intro I5 e5
    rw [e5]
    exact hk _ (wait h h').1 (wait h h').2
  have hC := hI.1.2.2.2.2
  -- it waits before another one
  have l324 : ∀ (o : Nat) (x2 : Int), o < 8 → yW l zSS D cy zFk z (d + 4) 155 bc bs K 0 0 324 [(0, yr (some 102)), (1, yi (k : Int)), (2, yi x2), (3, yi (o : Int))] [] (N, T, R, I) := by
    intro o x2 ho
    refine B_155_324 hT hR ?_
    rw [yadd_eq (x := 502) (by omega) (by omega), e502]
    refine ⟨by omega, by omega, by omega, by omega, ?_⟩
    intro I5 e5
    obtain ⟨i5, f5⟩ := wait hI (mFr_rf I)
    rw [← e5] at i5 f5
    refine r_stepOf (d := d) hT hR ho i5 (fun r _ => ⟨_, _, rfl, rfl, ?_⟩)
    rw [yadd_eq (x := 470) (by omega) (by omega)]
    exact ⟨by omega, by omega, fun _ => B_155_364 hT hR (hk _ i5 f5), fun _ => r_meets hT hR i5 (fun I6 i6 f6 _ _ => ⟨_, rfl, rfl, B_155_364 hT hR (hk _ i6 (mFr_tr f5 f6))⟩)⟩
  -- it looks for the later one of those there
  have l121 : ∀ (to : Int), mCell (I 104 0) (I 104 1) to → 1 ≤ mOn I to (I 104 2).toNat → ∀ (m q : Nat) (x3 : Int), q + m = (I 104 2).toNat → ((x3 = -1 ∧ ∀ j, j < q → I 104 (470 + j) ≠ to) ∨ (0 ≤ x3 ∧ x3 < 8)) → yW l zSS D cy zFk z (d + 4) 155 bc bs K 0 0 121 [(0, yr (some 102)), (1, yi (k : Int)), (2, yi to), (3, yi x3), (4, yi (q : Int))] [] (N, T, R, I) := by
    intro to hto hon m
    induction m with
    | zero =>
      intro q x3 hq hx
      refine B_155_121 hT hR ⟨fun _ => ?_, fun c => absurd c (by omega)⟩
      have hx3 : 0 ≤ x3 ∧ x3 < 8 := by
        rcases hx with ⟨_, g⟩ | g
        · obtain ⟨j, h1, h2⟩ := mOn_ex _ hon
          exact absurd h2 (g j (by omega))
        · exact g
      obtain ⟨o, ho⟩ : ∃ o : Nat, x3 = (o : Int) := ⟨x3.toNat, by omega⟩
      subst ho
      have ho8 : o < 8 := by omega
      have g324 := l324 o to ho8
      have hback := (hI.2.2.2.2.2.1 o ho8).2
      have br := mInv_at hI hback
      rw [yadd_eq (x := 486) (by omega) (by omega)]
      have e1 : ((486 : Int) + (o : Int)).toNat = 486 + o := by omega
      rw [e1]
      refine ⟨by omega, by omega, by omega, by omega, by omega, by omega, fun _ => g324, fun _ => ?_⟩
      refine r_bitOf hT hR ⟨_, _, rfl, rfl, fun _ => g324, fun _ => ⟨fun _ => g324, fun hb => ?_⟩⟩
      have hbr : 0 ≤ I 104 (210 + (I 104 (486 + o)).toNat) ∧ I 104 (210 + (I 104 (486 + o)).toNat) ≤ 1 := hI.2.2.1 _ (by omega)
      refine r_hasRoom (d := d + 2) hT hR hC (by omega) br.2 hbr.1 hbr.2 (fun r _ => ⟨_, _, rfl, rfl, fun _ => g324, fun _ => ?_⟩)
      refine r_meets hT hR hI (fun I16 i16 f16 u1 u2 => ⟨_, rfl, rfl, ?_⟩)
      intro I17 e17
      have i17 : mInv I17 := by rw [e17]; exact mInv_set i16 (by omega) (by omega) (by omega) (by omega) (by omega)
      have f17 : mFr I I17 := by rw [e17]; exact mFr_set f16 (by omega) (by omega) _
      rw [yadd_eq (x := 494) (by omega) (by omega), yadd_eq (x := 470) (by omega) (by omega), yadd_eq (x := 518) (by omega) (by omega), yadd_eq (x := 110) (by omega) (by omega)]
      have e2 : ((494 : Int) + (o : Int)).toNat = 494 + o := by omega
      have e3 : ((470 : Int) + (o : Int)).toNat = 470 + o := by omega
      have e4 : ((518 : Int) + (o : Int)).toNat = 518 + o := by omega
      rw [e2, e3, e4]
      refine ⟨by omega, by omega, by omega, by omega, ?_⟩
      intro I22 e22
      have i22 : mInv I22 := by rw [e22]; exact mInv_set i17 (by omega) (by omega) (by omega) (by omega) (by omega)
      have f22 : mFr I I22 := by rw [e22]; exact mFr_set f17 (by omega) (by omega) _
      refine ⟨by omega, by omega, ?_⟩
      intro I25 e25
      rw [ynar1_eq (by omega) (by omega)] at e25
      have i25 : mInv I25 := by rw [e25]; exact mInv_set i22 (by omega) (by omega) (by omega) (fun _ _ => (mAt_fr f22).mpr hback) (by omega)
      have f25 : mFr I I25 := by rw [e25]; exact mFr_set f22 (by omega) (by omega) _
      refine ⟨by omega, by omega, ?_⟩
      intro I28 e28
      rw [ynar1_eq (by omega) (by omega)] at e28
      have i28 : mInv I28 := by rw [e28]; exact mInv_set i25 (by omega) (by omega) (by omega) (by omega) (fun _ _ => .inl rfl)
      have f28 : mFr I I28 := by rw [e28]; exact mFr_set f25 (by omega) (by omega) _
      refine ⟨by omega, by omega, by omega, by omega, ?_⟩
      intro I33 e33 I34 e34
      have i33 : mInv I33 := by rw [e33]; exact mInv_set i28 (by omega) (by omega) (by omega) (by omega) (by omega)
      have f33 : mFr I I33 := by rw [e33]; exact mFr_set f28 (by omega) (by omega) _
      have i34 : mInv I34 := by rw [e34]; exact mInv_fld i33 _ _ _ (by decide) (by decide) (by decide)
      have f34 : mFr I I34 := by rw [e34]; exact mFr_fld f33 (by omega) (by omega) _
      refine r_steps hT hR hk8 ?_ i34 (fun I35 i35 f35 _ => ⟨_, rfl, rfl, hk _ i35 (mFr_tr f34 f35)⟩)
      rw [mFr_low f34 (by omega), mFr_low f34 (by omega)]; exact hto
    | succ m ih =>
      intro q x3 hq hx
      refine B_155_121 hT hR ⟨fun c => absurd c (by omega), fun _ => ?_⟩
      rw [yadd_eq (x := 470) (by omega) (by omega)]
      have e1 : ((470 : Int) + (q : Int)).toNat = 470 + q := by omega
      have e2 : ((q : Int)).toNat = q := by omega
      rw [e1]
      have l170 : ∀ v : Int, ((v = -1 ∧ ∀ j, j < q + 1 → I 104 (470 + j) ≠ to) ∨ (0 ≤ v ∧ v < 8)) → yW l zSS D cy zFk z (d + 4) 155 bc bs K 0 0 170 [(0, yr (some 102)), (1, yi (k : Int)), (2, yi to), (3, yi v), (4, yi (q : Int))] [] (N, T, R, I) := by
        intro v hv
        refine B_155_170 hT hR ?_
        rw [yadd_eq (x := (q : Int)) (by omega) (by omega)]
        exact ih (q + 1) v (by omega) hv
      have l167 : yW l zSS D cy zFk z (d + 4) 155 bc bs K 0 0 167 [(0, yr (some 102)), (1, yi (k : Int)), (2, yi to), (4, yi (q : Int))] [] (N, T, R, I) :=
        B_155_167 hT hR (l170 _ (.inr (by omega)))
      refine ⟨by omega, by omega, fun c => l170 x3 ?_, fun c => ⟨fun _ => l167, fun c2 => ?_⟩⟩
      · rcases hx with ⟨g1, g2⟩ | g
        · refine .inl ⟨g1, fun j hj => ?_⟩
          by_cases e : j = q
          · rw [e]; exact c
          · exact g2 j (by omega)
        · exact .inr g
      · have hx3 : 0 ≤ x3 ∧ x3 < 8 := by rcases hx with ⟨g, _⟩ | g; omega; exact g
        exact ⟨by omega, by omega, by omega, by omega, fun _ => l170 x3 (.inr hx3), fun _ => l167⟩
  have l68 : yW l zSS D cy zFk z (d + 4) 155 bc bs K 0 0 68 [(0, yr (some 102)), (1, yi (k : Int))] [] (N, T, R, I) := by
    refine B_155_68 hT hR (r_stepOf (d := d) hT hR hk8 hI (fun r hr => ⟨_, _, rfl, rfl, fun _ => l86 hI (mFr_rf I), fun c => ⟨fun _ => ?_, fun _ => l86 hI (mFr_rf I)⟩⟩))
    have hcell : mCell (I 104 0) (I 104 1) r := by rcases hr with g | g; exact absurd g c; exact g
    obtain ⟨c0, c1⟩ := mCell_100 hI.1.2.1 hI.1.2.2.2.1 hcell
    have hrm := hI.2.2.1 r.toNat (by omega)
    refine r_hasRoom (d := d + 2) hT hR hC c0 c1 hrm.1 hrm.2 (fun v hv => ⟨_, _, rfl, rfl, fun hv0 => ?_, fun _ => ?_⟩)
    · rcases hv with ⟨g, _⟩ | ⟨_, g⟩
      · omega
      · exact l121 r hcell (by omega) _ 0 (-1) (Nat.zero_add _) (.inl ⟨rfl, fun j hj => absurd hj (by omega)⟩)
    · exact r_steps hT hR hk8 hcell hI (fun I8 i8 f8 _ => ⟨_, rfl, rfl, hk _ i8 f8⟩)
  have l35 : yW l zSS D cy zFk z (d + 4) 155 bc bs K 0 0 35 [] [] (N, T, R, I) := B_155_35 hT hR (hk I hI (mFr_rf I))
  refine B_155_0 hT hR ?_
  rw [yadd_eq (x := 470) (by omega) (by omega)]
  refine ⟨by omega, by omega, fun _ => l35, fun _ => ?_⟩
  refine r_bitOf hT hR ⟨_, _, rfl, rfl, fun _ => l35, fun _ => ?_⟩
  refine r_bitOf hT hR ⟨_, _, rfl, rfl, fun _ => ?_, fun _ => l35⟩
  exact r_bitOf hT hR ⟨_, _, rfl, rfl, fun _ => l68, fun _ => ⟨fun _ => l68, fun _ => l86 hI (mFr_rf I)⟩⟩
end Sm
