/-! THE LAW: from its entry to its loop; the pair is made (printed by wip/whole/y/gen200.py) -/
set_option maxRecDepth 100000 in
theorem yS0_102 : ∀ j, j < 57 → yS0 102 j = true → j ∈ ([1, 6, 7, 8, 9, 10, 24, 25, 26, 27, 33, 34, 36, 37, 38, 39, 43, 45, 47, 53, 54, 55, 56] : List Nat) := by decide +kernel
set_option maxRecDepth 100000 in
theorem yS0_rows : ∀ k, k < 23 → ∀ j, j < 57 → yS0 (103 + k) j = false := by decide +kernel
set_option maxRecDepth 100000 in
theorem yS0_k {k j : Nat} (h : yS0 k j = true) : k < 103 := by
  apply Classical.byContradiction
  intro c
  have h57 := yS0_57 h
  by_cases g : k < 126
  · obtain ⟨q, rfl⟩ : ∃ q, k = 103 + q := ⟨k - 103, by omega⟩
    rw [yS0_rows q (by omega) j h57] at h
    cases h
  · have e : ∀ l : List (List Bool), l.length ≤ 126 → (l.getD k []).getD j false = false := fun l hl => by
      have e3 : l.getD k [] = (l[k]?).getD [] := rfl
      rw [e3, List.getElem?_eq_none (by omega)]
      rfl
    unfold yS0 at h
    rw [e _ (by decide)] at h
    cases h
section Sy
variable {l : Launch} {D : va_G} {cy : Nat → ClassId} {z d bc bs N : Nat} {T : Nat → Nat × Nat} {R : Nat → Nat → Option Nat} {I : Nat → Nat → Int} {K : yKo}
set_option maxRecDepth 100000 in
theorem w_154x (hp : T 102 = (21, 57)) (hb1 : 23 ≤ bc) (hb2 : 112093 ≤ bs) (hk : ∀ T' R' I', (∀ k, 102 < k → k < 126 → T' k = yT0 k) → (∀ j, yS0 102 j = true → R' 102 j = yR0 102 j) → cMk 102 T R I T' R' I' → (∀ k j, 102 < k → k < 126 → k ≠ 108 → I' k j = 0) → (∀ i, i < 24 → I' 108 i = rCd i) → K none (126, T', R', I')) :
    yW l zSS D cy zFk z (d + 1) 154 bc bs K 0 0 0 [(0, yr (some 102))] [] (103, T, R, I) := by
  refine w_154 hp hb1 hb2 (fun T' R' I' t103 t104 t105 t106 t107 t108 t109 t110 t111 t112 t113 t114 t115 t116 t117 t118 t119 t120 t121 t122 t123 t124 t125 r1 r6 r7 r8 r9 r10 r24 r25 r26 r27 r33 r34 r36 r37 r38 r39 r43 r45 r47 r53 r54 r55 r56 mk zz ww => hk T' R' I' (fun k h1 h2 => ?_) (fun j hj => ?_) mk zz ww)
  · rcases (show k = 103 ∨ k = 104 ∨ k = 105 ∨ k = 106 ∨ k = 107 ∨ k = 108 ∨ k = 109 ∨ k = 110 ∨ k = 111 ∨ k = 112 ∨ k = 113 ∨ k = 114 ∨ k = 115 ∨ k = 116 ∨ k = 117 ∨ k = 118 ∨ k = 119 ∨ k = 120 ∨ k = 121 ∨ k = 122 ∨ k = 123 ∨ k = 124 ∨ k = 125 by omega) with rfl | rfl | rfl | rfl | rfl | rfl | rfl | rfl | rfl | rfl | rfl | rfl | rfl | rfl | rfl | rfl | rfl | rfl | rfl | rfl | rfl | rfl | rfl
    · exact t103
    · exact t104
    · exact t105
    · exact t106
    · exact t107
    · exact t108
    · exact t109
    · exact t110
    · exact t111
    · exact t112
    · exact t113
    · exact t114
    · exact t115
    · exact t116
    · exact t117
    · exact t118
    · exact t119
    · exact t120
    · exact t121
    · exact t122
    · exact t123
    · exact t124
    · exact t125
  · have g := yS0_102 j (yS0_57 hj) hj
    simp only [List.mem_cons, List.not_mem_nil, or_false] at g
    rcases g with rfl | rfl | rfl | rfl | rfl | rfl | rfl | rfl | rfl | rfl | rfl | rfl | rfl | rfl | rfl | rfl | rfl | rfl | rfl | rfl | rfl | rfl | rfl
    · exact r1
    · exact r6
    · exact r7
    · exact r8
    · exact r9
    · exact r10
    · exact r24
    · exact r25
    · exact r26
    · exact r27
    · exact r33
    · exact r34
    · exact r36
    · exact r37
    · exact r38
    · exact r39
    · exact r43
    · exact r45
    · exact r47
    · exact r53
    · exact r54
    · exact r55
    · exact r56
end Sy
set_option maxRecDepth 100000 in
/-- the heap when the loop begins -/
theorem wInv_0 {T1 T2 T3 T4 : Nat → Nat × Nat} {R1 R2 R3 R4 : Nat → Nat → Option Nat} {I1 I2 I3 I4 : Nat → Nat → Int}
    (f1 : ∀ k, k < 102 → T1 k = yT0 k) (f2 : ∀ k j, k < 102 → yS0 k j = true → R1 k j = yR0 k j) (f3 : cLd I1 4) (f45 : I1 4 5 = 0) (f4 : I1 1 1 = 0) (f4f : I1 1 10 = 0) (f5 : I1 89 1 = 0) (f6 : ∀ j, R1 90 j = none) (f7 : ∀ j, R1 101 j = none) (f8 : R1 91 9 = some 98) (f9 : R1 91 10 = some 99) (f10 : R1 91 12 = some 100)
    (e1 : ∀ k, T2 k = if k = 102 then (21, 57) else T1 k) (e2 : ∀ k j, R2 k j = if k = 102 then none else R1 k j) (e3 : ∀ k j, I2 k j = if k = 102 then 0 else I1 k j)
    (t3 : ∀ k, 102 < k → k < 126 → T3 k = yT0 k) (r3 : ∀ j, yS0 102 j = true → R3 102 j = yR0 102 j) (mk : cMk 102 T2 R2 I2 T3 R3 I3) (z3 : ∀ k j, 102 < k → k < 126 → k ≠ 108 → I3 k j = 0) (z4 : ∀ i, i < 24 → I3 108 i = rCd i)
    (g1 : ∀ k, T4 k = if k = 126 then (2, 1) else T3 k) (g2 : ∀ k j, R4 k j = if k = 126 then none else R3 k j) (g3 : ∀ k j, I4 k j = if k = 126 then 0 else I3 k j) : wInv 127 T4 R4 I4 0 := by
  have lT : ∀ k, k < 102 → T4 k = yT0 k := fun k h => by rw [g1, if_neg (by omega), mk.1 k (by omega), e1, if_neg (by omega)]; exact f1 k h
  have lR : ∀ k j, k < 102 → R4 k j = R1 k j := fun k j h => by rw [g2, if_neg (by omega), mk.2.1 k j (by omega), e2, if_neg (by omega)]
  have lI : ∀ k j, k < 102 → I4 k j = I1 k j := fun k j h => by rw [g3, if_neg (by omega), mk.2.2 k j (by omega), e3, if_neg (by omega)]
  have hT : yLT T4 := fun k h => by
    have h := Nat.le_of_ble_eq_true h
    by_cases h2 : k < 102
    · exact lT k h2
    · rw [g1, if_neg (by omega)]
      by_cases h3 : k = 102
      · subst h3; rw [mk.1 102 (Nat.le_refl _), e1, if_pos rfl]; rfl
      · exact t3 k (by omega) (by omega)
  have hR : yLR R4 := fun k j h => by
    have hk := yS0_k h
    by_cases h2 : k < 102
    · rw [lR k j h2]; exact f2 k j h2 h
    · have h3 : k = 102 := by omega
      subst h3
      rw [g2, if_neg (by decide)]
      exact r3 j h
  have hi : ∀ k j, 102 ≤ k → k < 126 → k ≠ 108 → I4 k j = 0 := fun k j h1 h2 h3 => by
    rw [g3, if_neg (by omega)]
    by_cases h4 : k = 102
    · subst h4; rw [mk.2.2 102 j (Nat.le_refl _), e3, if_pos rfl]
    · exact z3 k j (by omega) h2 h3
  have r101 : ∀ j, R4 101 j = none := fun j => by rw [lR 101 j (by decide)]; exact f7 j
  have r90 : ∀ j, R4 90 j = none := fun j => by rw [lR 90 j (by decide)]; exact f6 j
  have i11 : I4 1 1 = 0 := by rw [lI 1 1 (by decide)]; exact f4
  refine ⟨⟨by decide, hT, hR, ⟨98, 99, 100, 0, ⟨by rw [lR 91 9 (by decide)]; exact f8, lT 98 (by decide), by decide, by rw [lR 91 10 (by decide)]; exact f9, lT 99 (by decide), by decide, by rw [lR 91 12 (by decide)]; exact f10, lT 100 (by decide), by decide⟩, by decide, by decide, by decide, by decide, by decide, by decide, .inl rfl, .inl rfl⟩, fun i _ => .inl (r90 i), fun i _ h => ?_, fun i _ => .inl (r101 i), fun i p _ h => ?_, by rw [i11]; decide, ?_⟩, uInv_0 hi, ⟨?_, fun j hj => ?_, fun i hi2 => ?_, (fun p q _ => by rw [r101 0] at q; cases q), ⟨⟨by rw [lI 4 5 (by decide), hi 104 2 (by decide) (by decide) (by decide)]; exact f45, by rw [hi 104 2 (by decide) (by decide) (by decide)]; decide, by rw [hi 104 2 (by decide) (by decide) (by decide)]; decide⟩, fun i hi2 => by rw [hi 104 2 (by decide) (by decide) (by decide)] at hi2; omega⟩, (fun i p _ q => by rw [r101 i] at q; cases q)⟩, fun i _ => ⟨fun _ => hi 125 i (by decide) (by decide) (by decide), fun _ => r101 i⟩, by rw [g1, if_pos rfl], Nat.le_refl _, by rw [lI 1 10 (by decide), hi 102 15 (by decide) (by decide) (by decide)]; exact f4f⟩
  · rw [lI 89 1 (by decide), f5] at h; omega
  · rw [r101 i] at h; cases h
  · unfold cLd at f3 ⊢
    rw [lI 4 0 (by decide), lI 4 1 (by decide)]
    exact f3
  · rw [i11, hi 102 2 (by decide) (by decide) (by decide)]
  · rw [hi 102 2 (by decide) (by decide) (by decide)] at hj; omega
  · rw [g3, if_neg (by decide)]; exact z4 i hi2
section Yi
variable {p : Program} {l : Launch} {e : Env} {s : State} {m : MethodId} {below : List Frame} {meth : Method} {c : Code} {b L : Nat} {xs : Nat → Int32} {D : va_G} {cy : Nat → ClassId} {Q : State → Prop}
set_option maxHeartbeats 4000000 in
set_option maxRecDepth 100000 in
theorem yl_init (X : lwX p l s m c b L xs D cy)
    (kk : ∀ (ad : Nat → Nat) (T : Nat → Nat × Nat) (R : Nat → Nat → Option Nat) (I : Nat → Nat → Int) (H : Heap) (ls : Array Slot) (locs : List Loc), lwS s D cy ad (127, T, R, I) H locs → wInv 127 T R I 0 → lv_has ls 7 [(4, .int (nI 0)), (3, .ref (ad 126)), (2, .ref (ad 102)), (1, .ref (ad 0)), (0, .ref b)] → W p l e room_1 s m #[Value.ref b] below meth c H locs 127 117458 Q (F0 m 23 ls [])) :
    W p l e room_1 s m #[Value.ref b] below meth c s.heap [] 0 0 Q (entryFrame m ([Value.ref b] : List Value).toArray 7) := by
  have hx := X.1
  have hb := X.2.1
  have S0 : lwS s D cy (fun _ => 0) ((0, fun _ => (0, 0), fun _ _ => none, fun _ _ => 0) : yHp) s.heap [] := ⟨[], ⟨rfl, fun k p h => by simp at h, fun k h => absurd h (Nat.not_lt_zero k)⟩, fun k q h => by simp at h, ⟨fun i j p q h => by simp at h, fun k q h => by simp at h⟩, va_S.rf⟩
  have hl := lv_entry ([.ref b]) (n := 7) (Nat.le_of_ble_eq_true rfl)
  rw [lg_entry_eq]
  generalize (lg_sl ([.ref b]) ++ List.replicate (7 - (lg_sl ([.ref b])).length) Slot.unset).toArray = ls at hl ⊢
  have hl : lv_has ls 7 [(0, .ref b)] := hl
  refine yl_new X (ci := 10) (C0 := RX10) (T0 := TX10) (N := 10) (by decide) rfl (List.mem_of_getElem? (i := 137) rfl) S0 (show decode code 0 = .ok (.new 8, 3) by decide +kernel) (Nat.le_of_ble_eq_true rfl) (Nat.le_of_ble_eq_true rfl) (fun q0 H1 S1 => ?_)
  generalize hadn : yAd (fun _ => 0) 0 q0 = ad1 at S1
  have hq0 : ad1 0 = q0 := by rw [← hadn]; exact yAd_new
  rw [← hq0]
  refine lv_dup hx hb (show decode code 3 = .ok (.dup, 1) by decide +kernel) rfl ?_
  refine yl_callI X (a := 113) (ml := 1) (q := 0) (mc := 101) (ms := 5297) (ad := ad1) (h := (1, fun a => if a = 0 then (20, 10) else (0, 0), fun a b => if a = 0 then none else none, fun a b => if a = 0 then 0 else 0)) (K' := fun r h' => r = none ∧ ∃ T' R' I', h' = (102, T', R', I') ∧ (∀ k, k < 102 → T' k = yT0 k) ∧ (∀ k j, k < 102 → yS0 k j = true → R' k j = yR0 k j) ∧ cLd I' 4 ∧ I' 4 5 = 0 ∧ I' 1 1 = 0 ∧ I' 1 10 = 0 ∧ I' 89 1 = 0 ∧ (∀ j, R' 90 j = none) ∧ (∀ j, R' 101 j = none) ∧ R' 91 9 = some 98 ∧ R' 91 10 = some 99 ∧ R' 91 12 = some 100) rfl zm_113 (by decide) (w_113 (d := 56) (if_pos rfl) (Nat.le_refl _) (Nat.le_refl _) (fun T' R' I' f1 f2 f3 f45 f4 f4f f5 f6 f7 f8 f9 f10 => ⟨rfl, T', R', I', rfl, f1, f2, f3, f45, f4, f4f, f5, f6, f7, f8, f9, f10⟩)) (Nat.zero_lt_one) rfl rfl (List.mem_of_getElem? (i := 139) rfl) (List.mem_of_getElem? (i := 140) rfl) (by decide +kernel) S1 hl.1 (Nat.le_of_ble_eq_true rfl) (show decode code 4 = .ok (.invokespecial 18, 3) by decide +kernel) ⟨Nat.le_of_ble_eq_true rfl, Nat.le_of_ble_eq_true rfl⟩ (fun r h' g => g.1) (fun h' ad2 H2 locs2 hK hA hN S2 => ?_)
  obtain ⟨-, T1, R1, I1, rfl, f1, f2, f3, f45, f4, f4f, f5, f6, f7, f8, f9, f10⟩ := hK
  have h01 : ad2 0 = ad1 0 := hA 0 Nat.zero_lt_one
  rw [← h01]
  refine lv_astore_n (lv' := [(1, .ref (ad2 0)), (0, .ref b)]) hx hb (show decode code 7 = .ok (.astore_n 1, 1) by decide +kernel) rfl hl (by decide) rfl (fun ls hl => ?_)
  refine yl_new X (ci := 11) (C0 := RX11) (T0 := TX11) (N := 57) (by decide) rfl (List.mem_of_getElem? (i := 1347) rfl) S2 (show decode code 8 = .ok (.new 19, 3) by decide +kernel) (Nat.le_of_ble_eq_true rfl) (Nat.le_of_ble_eq_true rfl) (fun q1 H3 S3 => ?_)
  obtain ⟨T2, R2, I2, eh, e1, e2, e3⟩ : ∃ T2 R2 I2, yNw (102, T1, R1, I1) (10 + 11) 57 = (103, T2, R2, I2) ∧ (∀ k, T2 k = if k = 102 then (21, 57) else T1 k) ∧ (∀ k j, R2 k j = if k = 102 then none else R1 k j) ∧ (∀ k j, I2 k j = if k = 102 then 0 else I1 k j) := ⟨_, _, _, rfl, fun _ => rfl, fun _ _ => rfl, fun _ _ => rfl⟩
  rw [eh] at S3
  generalize hadn2 : yAd ad2 102 q1 = ad3 at S3
  have hq1 : ad3 102 = q1 := by rw [← hadn2]; exact yAd_new
  have h02 : ad3 0 = ad2 0 := by rw [← hadn2]; exact yAd_old 0 (by decide)
  rw [← hq1]
  rw [← h02] at hl
  refine lv_dup hx hb (show decode code 11 = .ok (.dup, 1) by decide +kernel) rfl ?_
  refine yl_callI X (a := 154) (ml := 1) (q := 102) (mc := 23) (ms := 112093) (ad := ad3) (h := (103, T2, R2, I2)) (K' := fun r h' => r = none ∧ ∃ T' R' I', h' = (126, T', R', I') ∧ (∀ k, 102 < k → k < 126 → T' k = yT0 k) ∧ (∀ j, yS0 102 j = true → R' 102 j = yR0 102 j) ∧ cMk 102 T2 R2 I2 T' R' I' ∧ (∀ k j, 102 < k → k < 126 → k ≠ 108 → I' k j = 0) ∧ (∀ i, i < 24 → I' 108 i = rCd i)) rfl zm_154 (by decide) (w_154x (d := 59) (by rw [e1]; exact if_pos rfl) (Nat.le_refl _) (Nat.le_refl _) (fun T' R' I' g1 g2 g3 g4 g5 => ⟨rfl, T', R', I', rfl, g1, g2, g3, g4, g5⟩)) (show 102 < 103 by decide) rfl rfl (List.mem_of_getElem? (i := 1348) rfl) (List.mem_of_getElem? (i := 1349) rfl) (by decide +kernel) S3 hl.1 (Nat.le_of_ble_eq_true rfl) (show decode code 12 = .ok (.invokespecial 21, 3) by decide +kernel) ⟨Nat.le_of_ble_eq_true rfl, Nat.le_of_ble_eq_true rfl⟩ (fun r h' g => g.1) (fun h' ad4 H4 locs4 hK hA2 hN2 S4 => ?_)
  obtain ⟨-, T3, R3, I3, rfl, t3, r3, mk, z3, z4⟩ := hK
  have h03 : ad4 0 = ad3 0 := hA2 0 (show 0 < 103 by decide)
  have h13 : ad4 102 = ad3 102 := hA2 102 (show 102 < 103 by decide)
  rw [← h13]
  rw [← h03] at hl
  refine lv_astore_n (lv' := [(2, .ref (ad4 102)), (1, .ref (ad4 0)), (0, .ref b)]) hx hb (show decode code 15 = .ok (.astore_n 2, 1) by decide +kernel) rfl hl (by decide) rfl (fun ls hl => ?_)
  refine lv_iconst (v := 1) hx hb (show decode code 16 = .ok (.iconst 1, 1) by decide +kernel) (by decide) ?_
  refine yl_row X S4 (show decode code 17 = .ok (.newarray .long, 2) by decide +kernel) (Nat.le_of_ble_eq_true rfl) (Nat.le_of_ble_eq_true rfl) (fun q9 H5 S5 => ?_)
  obtain ⟨T4, R4, I4, eh2, g1, g2, g3⟩ : ∃ T4 R4 I4, yNw (126, T3, R3, I3) 2 1 = (127, T4, R4, I4) ∧ (∀ k, T4 k = if k = 126 then (2, 1) else T3 k) ∧ (∀ k j, R4 k j = if k = 126 then none else R3 k j) ∧ (∀ k j, I4 k j = if k = 126 then 0 else I3 k j) := ⟨_, _, _, rfl, fun _ => rfl, fun _ _ => rfl, fun _ _ => rfl⟩
  rw [eh2] at S5
  generalize hadn3 : yAd ad4 126 q9 = ad5 at S5
  have hq9 : ad5 126 = q9 := by rw [← hadn3]; exact yAd_new
  have h04 : ad5 0 = ad4 0 := by rw [← hadn3]; exact yAd_old 0 (by decide)
  have h14 : ad5 102 = ad4 102 := by rw [← hadn3]; exact yAd_old 102 (by decide)
  rw [← hq9]
  rw [← h04, ← h14] at hl
  refine lv_astore_n (lv' := [(3, .ref (ad5 126)), (2, .ref (ad5 102)), (1, .ref (ad5 0)), (0, .ref b)]) hx hb (show decode code 19 = .ok (.astore_n 3, 1) by decide +kernel) rfl hl (by decide) rfl (fun ls hl => ?_)
  refine lv_iconst (v := nI 0) hx hb (show decode code 20 = .ok (.iconst 0, 1) by decide +kernel) (by decide) ?_
  refine lv_istore (lv' := [(4, .int (nI 0)), (3, .ref (ad5 126)), (2, .ref (ad5 102)), (1, .ref (ad5 0)), (0, .ref b)]) hx hb (show decode code 21 = .ok (.istore 4, 2) by decide +kernel) hl (by decide) rfl (fun ls hl => ?_)
  exact kk ad5 T4 R4 I4 H5 ls locs4 S5 (wInv_0 f1 f2 f3 f45 f4 f4f f5 f6 f7 f8 f9 f10 e1 e2 e3 t3 r3 mk z3 z4 g1 g2 g3) hl
end Yi
