/-! THE LAW's calls, 2 (printed by wip/whole/y/gen200.py) -/
section Yo
variable {p : Program} {l : Launch} {e : Env} {s : State} {m : MethodId} {below : List Frame} {meth : Method} {c : Code} {b L : Nat} {xs : Nat → Int32} {D : va_G} {cy : Nat → ClassId} {Q : State → Prop}
set_option maxHeartbeats 4000000 in
set_option maxRecDepth 100000 in
theorem yl_op_lane {ad : Nat → Nat} {N ns i cells slots : Nat} {T : Nat → Nat × Nat} {R : Nat → Nat → Option Nat} {I : Nat → Nat → Int} {H : Heap} {locs : List Loc} {ls : Array Slot} (X : lwX p l s m c b L xs D cy) (hi : i + 6 ≤ L) (S : lwS s D cy ad (N, T, R, I) H locs) (w : wInv N T R I ns) (hl : lv_has ls 7 [(4, .int (nI i)), (3, .ref (ad 126)), (2, .ref (ad 102)), (1, .ref (ad 0)), (0, .ref b)]) (hc : cells + 32 ≤ 601024) (hs : slots + gPt ns + 4431 ≤ 7293034)
    (ex : lwEx p l e s m below meth c b D cy Q i cells (slots + gPt ns + 4431)) : W p l e room_1 s m #[Value.ref b] below meth c H locs cells slots Q (F0 m 587 ls []) := by
  have hx := X.1
  have hb := X.2.1
  have h127 := w.2.2.2.2.2.1
  refine lv_aload_n (i := 1) (x := ad 0) hx hb (show decode code 587 = .ok (.aload_n 1, 1) by decide +kernel) rfl (lv_at hl 3 rfl) ?_
  refine yl_arg X S i 1 (by omega) (lv_at hl 4 rfl) (lv_at hl 0 rfl) (by decide +kernel) (by decide +kernel) (by decide +kernel) (by decide +kernel) (by decide +kernel) ?_
  refine yl_arg X S i 2 (by omega) (lv_at hl 4 rfl) (lv_at hl 0 rfl) (by decide +kernel) (by decide +kernel) (by decide +kernel) (by decide +kernel) (by decide +kernel) ?_
  refine yl_callV X (a := 130) (ml := 3) (n := 2) (q := 0) (nq := 10) (ec := 10) (mc := 13) (ms := 494) (T9 := TX10) (N9 := 10) (as := [yi (xs (i + 1)).toInt, yi (xs (i + 2)).toInt]) (As := [.int (xs (i + 1)), .int (xs (i + 2))]) (rest := []) (ad := ad) (h := (N, T, R, I)) (K' := fun r0 h' => ∃ (r : Int) (N' : Nat) (T' : Nat → Nat × Nat) (R' : Nat → Nat → Option Nat) (I' : Nat → Nat → Int) (ns' : Nat) (L : Int), r0 = some (yi r) ∧ h' = (N', T', R', I') ∧ cPo N T R I N' T' R' I' ns' L ∧ L = I 1 1 ∧ ns' = ns ∧ cLn I I')
    rfl zm_130 (v_130 w.1 (Nat.le_refl _) (Nat.le_refl _) (fun r N' T' R' I' ns' L hc q1 q2 q3 => ⟨r, N', T', R', I', ns', L, rfl, rfl, hc, q1, q2, q3⟩)) rfl (⟨_, _, rfl, yG_r (show 0 < N by omega), _, _, rfl, yG_i _, _, _, rfl, yG_i _, rfl⟩) (Nat.le_of_ble_eq_true rfl) (show 0 < N by omega) (w.1.2.1 0 rfl) rfl (List.mem_of_getElem? (i := 969) rfl) (List.mem_of_getElem? (i := 970) rfl) (List.mem_of_getElem? (i := 971) rfl) (by decide +kernel) rfl S hl.1 (Nat.zero_le _) (show decode code 600 = .ok (.invokevirtual 79, 3) by decide +kernel) ⟨(show cells + 13 ≤ 601024 by omega), (show slots + (494) ≤ 7293034 by omega)⟩ (fun r h' g => by obtain ⟨r, _, _, _, _, _, _, e, _⟩ := g; exact ⟨r, e⟩) (fun y1 h1 ad1 H1 locs1 hK hA hN S1 => ?_)
  obtain ⟨r1, N1, T1, R1, I1, ns1, L1, er, rfl, hc1, q1, q2, q3⟩ := hK
  have y1e : y1.toInt = r1 := by cases er; rfl
  have e0 : ad1 0 = ad 0 := hA 0 (show 0 < N by omega)
  have e102 : ad1 102 = ad 102 := hA 102 (show 102 < N by omega)
  have e126 : ad1 126 = ad 126 := hA 126 (show 126 < N by omega)
  have nN : N ≤ N1 := hc1.2.1.1
  rw [← e0, ← e102, ← e126] at hl
  refine lv_pop hx hb (show decode code 603 = .ok (.pop, 1) by decide +kernel) rfl ?_
  refine lv_aload_n (i := 2) (x := ad1 102) hx hb (show decode code 604 = .ok (.aload_n 2, 1) by decide +kernel) rfl (lv_at hl 2 rfl) ?_
  refine yl_arg X S1 i 1 (by omega) (lv_at hl 4 rfl) (lv_at hl 0 rfl) (by decide +kernel) (by decide +kernel) (by decide +kernel) (by decide +kernel) (by decide +kernel) ?_
  refine yl_arg X S1 i 2 (by omega) (lv_at hl 4 rfl) (lv_at hl 0 rfl) (by decide +kernel) (by decide +kernel) (by decide +kernel) (by decide +kernel) (by decide +kernel) ?_
  refine yl_callV X (a := 205) (ml := 3) (n := 2) (q := 102) (nq := 57) (ec := 11) (mc := 0) (ms := 0) (T9 := TX11) (N9 := 57) (as := [yi (xs (i + 1)).toInt, yi (xs (i + 2)).toInt]) (As := [.int (xs (i + 1)), .int (xs (i + 2))]) (rest := []) (ad := ad1) (h := (N1, T1, R1, I1)) (K' := fun r0 h' => ∃ (r : Int) (I' : Nat → Nat → Int) (L : Int), r0 = some (yi r) ∧ h' = (N1, T1, R1, I') ∧ uPo I1 I' L ∧ L = I1 102 2 ∧ uLn I1 I')
    rfl zm_205 (v_205 hc1.1.2.1 hc1.1.2.2.1 (show 126 ≤ N1 by omega) (uInv_cg w.2.1 hc1.2.2.1) (fun r I' L hu u1 u2 => ⟨r, I', L, rfl, rfl, hu, u1, u2⟩)) rfl (⟨_, _, rfl, yG_r (show 102 < N1 by omega), _, _, rfl, yG_i _, _, _, rfl, yG_i _, rfl⟩) (Nat.le_of_ble_eq_true rfl) (show 102 < N1 by omega) (hc1.1.2.1 102 rfl) rfl (List.mem_of_getElem? (i := 1746) rfl) (List.mem_of_getElem? (i := 1747) rfl) (List.mem_of_getElem? (i := 1748) rfl) (by decide +kernel) rfl S1 hl.1 (Nat.zero_le _) (show decode code 617 = .ok (.invokevirtual 83, 3) by decide +kernel) ⟨(show cells + 13 + 0 ≤ 601024 by omega), (show slots + (494) + 0 ≤ 7293034 by omega)⟩ (fun r h' g => by obtain ⟨r, _, _, e, _⟩ := g; exact ⟨r, e⟩) (fun y2 h2 ad2 H2 locs2 hK2 hA2 hN2 S2 => ?_)
  obtain ⟨r2, I2, L2, er2, rfl, hu, u1, u2⟩ := hK2
  have y2e : y2.toInt = r2 := by cases er2; rfl
  have f0 : ad2 0 = ad1 0 := hA2 0 (show 0 < N1 by omega)
  have f102 : ad2 102 = ad1 102 := hA2 102 (show 102 < N1 by omega)
  have f126 : ad2 126 = ad1 126 := hA2 126 (show 126 < N1 by omega)
  rw [← f0, ← f102, ← f126] at hl
  have eL : I1 102 2 = I 102 2 := hc1.2.2.1 102 2 (by decide) (by decide)
  have eW := w.2.2.1.1
  have wi : wInv N1 T1 R1 I2 ns1 := w_cu w hc1 hu (by omega) (fun j a b => absurd (show (j : Int) < I 1 1 by omega) b) (w_nk w hc1 q3.1 hu ⟨u2.1.1, fun j _ => u2.1.2 j⟩) (by rw [hu.2.1 1 10 (.inl (by decide)), q3.2, u2.2, hc1.2.2.1 102 15 (by decide) (by decide)]; exact w.2.2.2.2.2.2)
  refine lv_pop hx hb (show decode code 620 = .ok (.pop, 1) by decide +kernel) rfl ?_
  exact lv_goto (tgt := 1125) hx hb (show decode code 621 = .ok (.goto 504, 3) by decide +kernel) (by decide) (ex ad2 N1 ns1 _ _ T1 R1 I2 H2 locs2 ls S2 wi hl (show cells + 13 + 0 ≤ cells + 32 by omega) (show slots + (494) + 0 + gPt ns1 ≤ slots + gPt ns + 4431 by rw [(show ns1 = ns from q2)]; omega))
set_option maxHeartbeats 4000000 in
set_option maxRecDepth 100000 in
theorem yl_op_untied {ad : Nat → Nat} {N ns i cells slots : Nat} {T : Nat → Nat × Nat} {R : Nat → Nat → Option Nat} {I : Nat → Nat → Int} {H : Heap} {locs : List Loc} {ls : Array Slot} (X : lwX p l s m c b L xs D cy) (hi : i + 6 ≤ L) (S : lwS s D cy ad (N, T, R, I) H locs) (w : wInv N T R I ns) (hl : lv_has ls 7 [(4, .int (nI i)), (3, .ref (ad 126)), (2, .ref (ad 102)), (1, .ref (ad 0)), (0, .ref b)]) (hc : cells + 32 ≤ 601024) (hs : slots + gPt ns + 4431 ≤ 7293034)
    (ex : lwEx p l e s m below meth c b D cy Q i cells (slots + gPt ns + 4431)) : W p l e room_1 s m #[Value.ref b] below meth c H locs cells slots Q (F0 m 624 ls []) := by
  have hx := X.1
  have hb := X.2.1
  have h127 := w.2.2.2.2.2.1
  refine lv_aload_n (i := 1) (x := ad 0) hx hb (show decode code 624 = .ok (.aload_n 1, 1) by decide +kernel) rfl (lv_at hl 3 rfl) ?_
  refine yl_callV X (a := 150) (ml := 1) (n := 0) (q := 0) (nq := 10) (ec := 10) (mc := 3) (ms := (if ns < cKt I then 2 * cKt I else 0) + 4431) (T9 := TX10) (N9 := 10) (as := []) (As := []) (rest := []) (ad := ad) (h := (N, T, R, I)) (K' := fun r0 h' => ∃ (r : Int) (N' : Nat) (T' : Nat → Nat × Nat) (R' : Nat → Nat → Option Nat) (I' : Nat → Nat → Int) (ns' : Nat) (L : Int), r0 = some (yi r) ∧ h' = (N', T', R', I') ∧ cPo N T R I N' T' R' I' ns' L ∧ L = I 1 1 ∧ ((ns' = ns ∧ cKt I ≤ ns) ∨ (ns < cKt I ∧ ns' = cKt I)) ∧ cLn I I')
    rfl zm_150 (v_150 w.1 (Nat.le_refl _) (Nat.le_refl _) (fun r N' T' R' I' ns' L hc q1 q2 q3 => ⟨r, N', T', R', I', ns', L, rfl, rfl, hc, q1, q2, q3⟩)) rfl (⟨_, _, rfl, yG_r (show 0 < N by omega), rfl⟩) (Nat.le_of_ble_eq_true rfl) (show 0 < N by omega) (w.1.2.1 0 rfl) rfl (List.mem_of_getElem? (i := 974) rfl) (List.mem_of_getElem? (i := 975) rfl) (List.mem_of_getElem? (i := 976) rfl) (by decide +kernel) rfl S hl.1 (Nat.zero_le _) (show decode code 625 = .ok (.invokevirtual 84, 3) by decide +kernel) ⟨(show cells + 3 ≤ 601024 by omega), (show slots + ((if ns < cKt I then 2 * cKt I else 0) + 4431) ≤ 7293034 by have g := (gPt_kt (ns := ns) I).1; omega)⟩ (fun r h' g => by obtain ⟨r, _, _, _, _, _, _, e, _⟩ := g; exact ⟨r, e⟩) (fun y1 h1 ad1 H1 locs1 hK hA hN S1 => ?_)
  obtain ⟨r1, N1, T1, R1, I1, ns1, L1, er, rfl, hc1, q1, q2, q3⟩ := hK
  have y1e : y1.toInt = r1 := by cases er; rfl
  have e0 : ad1 0 = ad 0 := hA 0 (show 0 < N by omega)
  have e102 : ad1 102 = ad 102 := hA 102 (show 102 < N by omega)
  have e126 : ad1 126 = ad 126 := hA 126 (show 126 < N by omega)
  have nN : N ≤ N1 := hc1.2.1.1
  rw [← e0, ← e102, ← e126] at hl
  refine lv_pop hx hb (show decode code 628 = .ok (.pop, 1) by decide +kernel) rfl ?_
  refine lv_aload_n (i := 2) (x := ad1 102) hx hb (show decode code 629 = .ok (.aload_n 2, 1) by decide +kernel) rfl (lv_at hl 2 rfl) ?_
  refine yl_callV X (a := 251) (ml := 4) (n := 0) (q := 102) (nq := 57) (ec := 11) (mc := 0) (ms := 0) (T9 := TX11) (N9 := 57) (as := []) (As := []) (rest := []) (ad := ad1) (h := (N1, T1, R1, I1)) (K' := fun r0 h' => ∃ (r : Int) (I' : Nat → Nat → Int) (L : Int), r0 = some (yi r) ∧ h' = (N1, T1, R1, I') ∧ uPo I1 I' L ∧ L = I1 102 2 ∧ uLn I1 I')
    rfl zm_251 (v_251 hc1.1.2.1 hc1.1.2.2.1 (show 126 ≤ N1 by omega) (uInv_cg w.2.1 hc1.2.2.1) (fun r I' L hu u1 u2 => ⟨r, I', L, rfl, rfl, hu, u1, u2⟩)) rfl (⟨_, _, rfl, yG_r (show 102 < N1 by omega), rfl⟩) (Nat.le_of_ble_eq_true rfl) (show 102 < N1 by omega) (hc1.1.2.1 102 rfl) rfl (List.mem_of_getElem? (i := 1750) rfl) (List.mem_of_getElem? (i := 1751) rfl) (List.mem_of_getElem? (i := 1752) rfl) (by decide +kernel) rfl S1 hl.1 (Nat.zero_le _) (show decode code 630 = .ok (.invokevirtual 87, 3) by decide +kernel) ⟨(show cells + 3 + 0 ≤ 601024 by omega), (show slots + ((if ns < cKt I then 2 * cKt I else 0) + 4431) + 0 ≤ 7293034 by have g := (gPt_kt (ns := ns) I).1; omega)⟩ (fun r h' g => by obtain ⟨r, _, _, e, _⟩ := g; exact ⟨r, e⟩) (fun y2 h2 ad2 H2 locs2 hK2 hA2 hN2 S2 => ?_)
  obtain ⟨r2, I2, L2, er2, rfl, hu, u1, u2⟩ := hK2
  have y2e : y2.toInt = r2 := by cases er2; rfl
  have f0 : ad2 0 = ad1 0 := hA2 0 (show 0 < N1 by omega)
  have f102 : ad2 102 = ad1 102 := hA2 102 (show 102 < N1 by omega)
  have f126 : ad2 126 = ad1 126 := hA2 126 (show 126 < N1 by omega)
  rw [← f0, ← f102, ← f126] at hl
  have eL : I1 102 2 = I 102 2 := hc1.2.2.1 102 2 (by decide) (by decide)
  have eW := w.2.2.1.1
  have hg := gPt_kt (ns := ns) I
  have wi : wInv N1 T1 R1 I2 ns1 := w_cu w hc1 hu (by omega) (fun j a b => absurd (show (j : Int) < I 1 1 by omega) b) (w_nk w hc1 q3.1 hu ⟨u2.1.1, fun j _ => u2.1.2 j⟩) (by rw [hu.2.1 1 10 (.inl (by decide)), q3.2, u2.2, hc1.2.2.1 102 15 (by decide) (by decide)]; exact w.2.2.2.2.2.2)
  refine lv_pop hx hb (show decode code 633 = .ok (.pop, 1) by decide +kernel) rfl ?_
  exact lv_goto (tgt := 1125) hx hb (show decode code 634 = .ok (.goto 491, 3) by decide +kernel) (by decide) (ex ad2 N1 ns1 _ _ T1 R1 I2 H2 locs2 ls S2 wi hl (show cells + 3 + 0 ≤ cells + 32 by omega) (by
    show slots + ((if ns < cKt I then 2 * cKt I else 0) + 4431) + 0 + gPt ns1 ≤ slots + gPt ns + 4431
    rcases q2 with ⟨a1, a2⟩ | ⟨a1, a2⟩
    · rw [a1, if_neg (by omega)]; omega
    · have := hg.2 a1
      rw [a2, if_pos a1]; omega))
set_option maxHeartbeats 4000000 in
set_option maxRecDepth 100000 in
theorem yl_op_step {ad : Nat → Nat} {N ns i cells slots : Nat} {T : Nat → Nat × Nat} {R : Nat → Nat → Option Nat} {I : Nat → Nat → Int} {H : Heap} {locs : List Loc} {ls : Array Slot} (X : lwX p l s m c b L xs D cy) (hi : i + 6 ≤ L) (S : lwS s D cy ad (N, T, R, I) H locs) (w : wInv N T R I ns) (hl : lv_has ls 7 [(4, .int (nI i)), (3, .ref (ad 126)), (2, .ref (ad 102)), (1, .ref (ad 0)), (0, .ref b)]) (hc : cells + 32 ≤ 601024) (hs : slots + gPt ns + 4431 ≤ 7293034)
    (ex : lwEx p l e s m below meth c b D cy Q i cells (slots + gPt ns + 4431)) : W p l e room_1 s m #[Value.ref b] below meth c H locs cells slots Q (F0 m 637 ls []) := by
  have hx := X.1
  have hb := X.2.1
  have h127 := w.2.2.2.2.2.1
  refine lv_aload_n (i := 1) (x := ad 0) hx hb (show decode code 637 = .ok (.aload_n 1, 1) by decide +kernel) rfl (lv_at hl 3 rfl) ?_
  refine yl_arg X S i 1 (by omega) (lv_at hl 4 rfl) (lv_at hl 0 rfl) (by decide +kernel) (by decide +kernel) (by decide +kernel) (by decide +kernel) (by decide +kernel) ?_
  refine yl_callV X (a := 147) (ml := 2) (n := 1) (q := 0) (nq := 10) (ec := 10) (mc := 0) (ms := 0) (T9 := TX10) (N9 := 10) (as := [yi (xs (i + 1)).toInt]) (As := [.int (xs (i + 1))]) (rest := []) (ad := ad) (h := (N, T, R, I)) (K' := fun r0 h' => ∃ (r : Int) (N' : Nat) (T' : Nat → Nat × Nat) (R' : Nat → Nat → Option Nat) (I' : Nat → Nat → Int) (ns' : Nat) (L : Int), r0 = some (yi r) ∧ h' = (N', T', R', I') ∧ cPo N T R I N' T' R' I' ns' L ∧ L = I 1 1 ∧ ns' = ns ∧ cLn I I')
    rfl zm_147 (v_147 w.1 (fun r N' T' R' I' ns' L hc q1 q2 q3 => ⟨r, N', T', R', I', ns', L, rfl, rfl, hc, q1, q2, q3⟩)) rfl (⟨_, _, rfl, yG_r (show 0 < N by omega), _, _, rfl, yG_i _, rfl⟩) (Nat.le_of_ble_eq_true rfl) (show 0 < N by omega) (w.1.2.1 0 rfl) rfl (List.mem_of_getElem? (i := 1035) rfl) (List.mem_of_getElem? (i := 1036) rfl) (List.mem_of_getElem? (i := 1037) rfl) (by decide +kernel) rfl S hl.1 (Nat.zero_le _) (show decode code 644 = .ok (.invokevirtual 88, 3) by decide +kernel) ⟨(show cells + 0 ≤ 601024 by omega), (show slots + (0) ≤ 7293034 by omega)⟩ (fun r h' g => by obtain ⟨r, _, _, _, _, _, _, e, _⟩ := g; exact ⟨r, e⟩) (fun y1 h1 ad1 H1 locs1 hK hA hN S1 => ?_)
  obtain ⟨r1, N1, T1, R1, I1, ns1, L1, er, rfl, hc1, q1, q2, q3⟩ := hK
  have y1e : y1.toInt = r1 := by cases er; rfl
  have e0 : ad1 0 = ad 0 := hA 0 (show 0 < N by omega)
  have e102 : ad1 102 = ad 102 := hA 102 (show 102 < N by omega)
  have e126 : ad1 126 = ad 126 := hA 126 (show 126 < N by omega)
  have nN : N ≤ N1 := hc1.2.1.1
  rw [← e0, ← e102, ← e126] at hl
  refine lv_pop hx hb (show decode code 647 = .ok (.pop, 1) by decide +kernel) rfl ?_
  refine lv_aload_n (i := 2) (x := ad1 102) hx hb (show decode code 648 = .ok (.aload_n 2, 1) by decide +kernel) rfl (lv_at hl 2 rfl) ?_
  refine yl_arg X S1 i 1 (by omega) (lv_at hl 4 rfl) (lv_at hl 0 rfl) (by decide +kernel) (by decide +kernel) (by decide +kernel) (by decide +kernel) (by decide +kernel) ?_
  refine yl_callV X (a := 240) (ml := 2) (n := 1) (q := 102) (nq := 57) (ec := 11) (mc := 0) (ms := 0) (T9 := TX11) (N9 := 57) (as := [yi (xs (i + 1)).toInt]) (As := [.int (xs (i + 1))]) (rest := []) (ad := ad1) (h := (N1, T1, R1, I1)) (K' := fun r0 h' => ∃ (r : Int) (I' : Nat → Nat → Int) (L : Int), r0 = some (yi r) ∧ h' = (N1, T1, R1, I') ∧ uPo I1 I' L ∧ L = I1 102 2 ∧ uLn I1 I')
    rfl zm_240 (v_240 hc1.1.2.1 hc1.1.2.2.1 (show 126 ≤ N1 by omega) (uInv_cg w.2.1 hc1.2.2.1) (fun r I' L hu u1 u2 => ⟨r, I', L, rfl, rfl, hu, u1, u2⟩)) rfl (⟨_, _, rfl, yG_r (show 102 < N1 by omega), _, _, rfl, yG_i _, rfl⟩) (Nat.le_of_ble_eq_true rfl) (show 102 < N1 by omega) (hc1.1.2.1 102 rfl) rfl (List.mem_of_getElem? (i := 1778) rfl) (List.mem_of_getElem? (i := 1779) rfl) (List.mem_of_getElem? (i := 1780) rfl) (by decide +kernel) rfl S1 hl.1 (Nat.zero_le _) (show decode code 655 = .ok (.invokevirtual 91, 3) by decide +kernel) ⟨(show cells + 0 + 0 ≤ 601024 by omega), (show slots + (0) + 0 ≤ 7293034 by omega)⟩ (fun r h' g => by obtain ⟨r, _, _, e, _⟩ := g; exact ⟨r, e⟩) (fun y2 h2 ad2 H2 locs2 hK2 hA2 hN2 S2 => ?_)
  obtain ⟨r2, I2, L2, er2, rfl, hu, u1, u2⟩ := hK2
  have y2e : y2.toInt = r2 := by cases er2; rfl
  have f0 : ad2 0 = ad1 0 := hA2 0 (show 0 < N1 by omega)
  have f102 : ad2 102 = ad1 102 := hA2 102 (show 102 < N1 by omega)
  have f126 : ad2 126 = ad1 126 := hA2 126 (show 126 < N1 by omega)
  rw [← f0, ← f102, ← f126] at hl
  have eL : I1 102 2 = I 102 2 := hc1.2.2.1 102 2 (by decide) (by decide)
  have eW := w.2.2.1.1
  have wi : wInv N1 T1 R1 I2 ns1 := w_cu w hc1 hu (by omega) (fun j a b => absurd (show (j : Int) < I 1 1 by omega) b) (w_nk w hc1 q3.1 hu ⟨u2.1.1, fun j _ => u2.1.2 j⟩) (by rw [hu.2.1 1 10 (.inl (by decide)), q3.2, u2.2, hc1.2.2.1 102 15 (by decide) (by decide)]; exact w.2.2.2.2.2.2)
  refine lv_pop hx hb (show decode code 658 = .ok (.pop, 1) by decide +kernel) rfl ?_
  exact lv_goto (tgt := 1125) hx hb (show decode code 659 = .ok (.goto 466, 3) by decide +kernel) (by decide) (ex ad2 N1 ns1 _ _ T1 R1 I2 H2 locs2 ls S2 wi hl (show cells + 0 + 0 ≤ cells + 32 by omega) (show slots + (0) + 0 + gPt ns1 ≤ slots + gPt ns + 4431 by rw [(show ns1 = ns from q2)]; omega))
set_option maxHeartbeats 4000000 in
set_option maxRecDepth 100000 in
theorem yl_op_oneWay {ad : Nat → Nat} {N ns i cells slots : Nat} {T : Nat → Nat × Nat} {R : Nat → Nat → Option Nat} {I : Nat → Nat → Int} {H : Heap} {locs : List Loc} {ls : Array Slot} (X : lwX p l s m c b L xs D cy) (hi : i + 6 ≤ L) (S : lwS s D cy ad (N, T, R, I) H locs) (w : wInv N T R I ns) (hl : lv_has ls 7 [(4, .int (nI i)), (3, .ref (ad 126)), (2, .ref (ad 102)), (1, .ref (ad 0)), (0, .ref b)]) (hc : cells + 32 ≤ 601024) (hs : slots + gPt ns + 4431 ≤ 7293034)
    (ex : lwEx p l e s m below meth c b D cy Q i cells (slots + gPt ns + 4431)) : W p l e room_1 s m #[Value.ref b] below meth c H locs cells slots Q (F0 m 662 ls []) := by
  have hx := X.1
  have hb := X.2.1
  have h127 := w.2.2.2.2.2.1
  refine lv_aload_n (i := 1) (x := ad 0) hx hb (show decode code 662 = .ok (.aload_n 1, 1) by decide +kernel) rfl (lv_at hl 3 rfl) ?_
  refine yl_callV X (a := 141) (ml := 8) (n := 0) (q := 0) (nq := 10) (ec := 10) (mc := 0) (ms := 0) (T9 := TX10) (N9 := 10) (as := []) (As := []) (rest := []) (ad := ad) (h := (N, T, R, I)) (K' := fun r0 h' => ∃ (r : Int) (N' : Nat) (T' : Nat → Nat × Nat) (R' : Nat → Nat → Option Nat) (I' : Nat → Nat → Int) (ns' : Nat) (L : Int), r0 = some (yi r) ∧ h' = (N', T', R', I') ∧ cPo N T R I N' T' R' I' ns' L ∧ L = I 1 1 ∧ ns' = ns ∧ cLn I I')
    rfl zm_141 (v_141 w.1 (fun r N' T' R' I' ns' L hc q1 q2 q3 => ⟨r, N', T', R', I', ns', L, rfl, rfl, hc, q1, q2, q3⟩)) rfl (⟨_, _, rfl, yG_r (show 0 < N by omega), rfl⟩) (Nat.le_of_ble_eq_true rfl) (show 0 < N by omega) (w.1.2.1 0 rfl) rfl (List.mem_of_getElem? (i := 1039) rfl) (List.mem_of_getElem? (i := 1040) rfl) (List.mem_of_getElem? (i := 1041) rfl) (by decide +kernel) rfl S hl.1 (Nat.zero_le _) (show decode code 663 = .ok (.invokevirtual 92, 3) by decide +kernel) ⟨(show cells + 0 ≤ 601024 by omega), (show slots + (0) ≤ 7293034 by omega)⟩ (fun r h' g => by obtain ⟨r, _, _, _, _, _, _, e, _⟩ := g; exact ⟨r, e⟩) (fun y1 h1 ad1 H1 locs1 hK hA hN S1 => ?_)
  obtain ⟨r1, N1, T1, R1, I1, ns1, L1, er, rfl, hc1, q1, q2, q3⟩ := hK
  have y1e : y1.toInt = r1 := by cases er; rfl
  have e0 : ad1 0 = ad 0 := hA 0 (show 0 < N by omega)
  have e102 : ad1 102 = ad 102 := hA 102 (show 102 < N by omega)
  have e126 : ad1 126 = ad 126 := hA 126 (show 126 < N by omega)
  have nN : N ≤ N1 := hc1.2.1.1
  rw [← e0, ← e102, ← e126] at hl
  refine lv_pop hx hb (show decode code 666 = .ok (.pop, 1) by decide +kernel) rfl ?_
  refine lv_aload_n (i := 2) (x := ad1 102) hx hb (show decode code 667 = .ok (.aload_n 2, 1) by decide +kernel) rfl (lv_at hl 2 rfl) ?_
  refine yl_callV X (a := 221) (ml := 8) (n := 0) (q := 102) (nq := 57) (ec := 11) (mc := 0) (ms := 0) (T9 := TX11) (N9 := 57) (as := []) (As := []) (rest := []) (ad := ad1) (h := (N1, T1, R1, I1)) (K' := fun r0 h' => ∃ (r : Int) (I' : Nat → Nat → Int) (L : Int), r0 = some (yi r) ∧ h' = (N1, T1, R1, I') ∧ uPo I1 I' L ∧ L = I1 102 2 ∧ uLn I1 I')
    rfl zm_221 (v_221 hc1.1.2.1 hc1.1.2.2.1 (show 126 ≤ N1 by omega) (uInv_cg w.2.1 hc1.2.2.1) (fun r I' L hu u1 u2 => ⟨r, I', L, rfl, rfl, hu, u1, u2⟩)) rfl (⟨_, _, rfl, yG_r (show 102 < N1 by omega), rfl⟩) (Nat.le_of_ble_eq_true rfl) (show 102 < N1 by omega) (hc1.1.2.1 102 rfl) rfl (List.mem_of_getElem? (i := 1810) rfl) (List.mem_of_getElem? (i := 1811) rfl) (List.mem_of_getElem? (i := 1812) rfl) (by decide +kernel) rfl S1 hl.1 (Nat.zero_le _) (show decode code 668 = .ok (.invokevirtual 95, 3) by decide +kernel) ⟨(show cells + 0 + 0 ≤ 601024 by omega), (show slots + (0) + 0 ≤ 7293034 by omega)⟩ (fun r h' g => by obtain ⟨r, _, _, e, _⟩ := g; exact ⟨r, e⟩) (fun y2 h2 ad2 H2 locs2 hK2 hA2 hN2 S2 => ?_)
  obtain ⟨r2, I2, L2, er2, rfl, hu, u1, u2⟩ := hK2
  have y2e : y2.toInt = r2 := by cases er2; rfl
  have f0 : ad2 0 = ad1 0 := hA2 0 (show 0 < N1 by omega)
  have f102 : ad2 102 = ad1 102 := hA2 102 (show 102 < N1 by omega)
  have f126 : ad2 126 = ad1 126 := hA2 126 (show 126 < N1 by omega)
  rw [← f0, ← f102, ← f126] at hl
  have eL : I1 102 2 = I 102 2 := hc1.2.2.1 102 2 (by decide) (by decide)
  have eW := w.2.2.1.1
  have wi : wInv N1 T1 R1 I2 ns1 := w_cu w hc1 hu (by omega) (fun j a b => absurd (show (j : Int) < I 1 1 by omega) b) (w_nk w hc1 q3.1 hu ⟨u2.1.1, fun j _ => u2.1.2 j⟩) (by rw [hu.2.1 1 10 (.inl (by decide)), q3.2, u2.2, hc1.2.2.1 102 15 (by decide) (by decide)]; exact w.2.2.2.2.2.2)
  refine lv_pop hx hb (show decode code 671 = .ok (.pop, 1) by decide +kernel) rfl ?_
  exact lv_goto (tgt := 1125) hx hb (show decode code 672 = .ok (.goto 453, 3) by decide +kernel) (by decide) (ex ad2 N1 ns1 _ _ T1 R1 I2 H2 locs2 ls S2 wi hl (show cells + 0 + 0 ≤ cells + 32 by omega) (show slots + (0) + 0 + gPt ns1 ≤ slots + gPt ns + 4431 by rw [(show ns1 = ns from q2)]; omega))
set_option maxHeartbeats 4000000 in
set_option maxRecDepth 100000 in
theorem yl_op_last {ad : Nat → Nat} {N ns i cells slots : Nat} {T : Nat → Nat × Nat} {R : Nat → Nat → Option Nat} {I : Nat → Nat → Int} {H : Heap} {locs : List Loc} {ls : Array Slot} (X : lwX p l s m c b L xs D cy) (hi : i + 6 ≤ L) (S : lwS s D cy ad (N, T, R, I) H locs) (w : wInv N T R I ns) (hl : lv_has ls 7 [(4, .int (nI i)), (3, .ref (ad 126)), (2, .ref (ad 102)), (1, .ref (ad 0)), (0, .ref b)]) (hc : cells + 32 ≤ 601024) (hs : slots + gPt ns + 4431 ≤ 7293034)
    (ex : lwEx p l e s m below meth c b D cy Q i cells (slots + gPt ns + 4431)) : W p l e room_1 s m #[Value.ref b] below meth c H locs cells slots Q (F0 m 675 ls []) := by
  have hx := X.1
  have hb := X.2.1
  have h127 := w.2.2.2.2.2.1
  refine lv_aload_n (i := 1) (x := ad 0) hx hb (show decode code 675 = .ok (.aload_n 1, 1) by decide +kernel) rfl (lv_at hl 3 rfl) ?_
  refine yl_callV X (a := 131) (ml := 1) (n := 0) (q := 0) (nq := 10) (ec := 10) (mc := 0) (ms := 0) (T9 := TX10) (N9 := 10) (as := []) (As := []) (rest := []) (ad := ad) (h := (N, T, R, I)) (K' := fun r0 h' => ∃ (r : Int) (N' : Nat) (T' : Nat → Nat × Nat) (R' : Nat → Nat → Option Nat) (I' : Nat → Nat → Int) (ns' : Nat) (L : Int), r0 = some (yi r) ∧ h' = (N', T', R', I') ∧ cPo N T R I N' T' R' I' ns' L ∧ L = I 1 1 ∧ ns' = ns ∧ cLn I I')
    rfl zm_131 (v_131 w.1 (fun r N' T' R' I' ns' L hc q1 q2 q3 => ⟨r, N', T', R', I', ns', L, rfl, rfl, hc, q1, q2, q3⟩)) rfl (⟨_, _, rfl, yG_r (show 0 < N by omega), rfl⟩) (Nat.le_of_ble_eq_true rfl) (show 0 < N by omega) (w.1.2.1 0 rfl) rfl (List.mem_of_getElem? (i := 1076) rfl) (List.mem_of_getElem? (i := 1077) rfl) (List.mem_of_getElem? (i := 1078) rfl) (by decide +kernel) rfl S hl.1 (Nat.zero_le _) (show decode code 676 = .ok (.invokevirtual 96, 3) by decide +kernel) ⟨(show cells + 0 ≤ 601024 by omega), (show slots + (0) ≤ 7293034 by omega)⟩ (fun r h' g => by obtain ⟨r, _, _, _, _, _, _, e, _⟩ := g; exact ⟨r, e⟩) (fun y1 h1 ad1 H1 locs1 hK hA hN S1 => ?_)
  obtain ⟨r1, N1, T1, R1, I1, ns1, L1, er, rfl, hc1, q1, q2, q3⟩ := hK
  have y1e : y1.toInt = r1 := by cases er; rfl
  have e0 : ad1 0 = ad 0 := hA 0 (show 0 < N by omega)
  have e102 : ad1 102 = ad 102 := hA 102 (show 102 < N by omega)
  have e126 : ad1 126 = ad 126 := hA 126 (show 126 < N by omega)
  have nN : N ≤ N1 := hc1.2.1.1
  rw [← e0, ← e102, ← e126] at hl
  refine lv_pop hx hb (show decode code 679 = .ok (.pop, 1) by decide +kernel) rfl ?_
  refine lv_aload_n (i := 2) (x := ad1 102) hx hb (show decode code 680 = .ok (.aload_n 2, 1) by decide +kernel) rfl (lv_at hl 2 rfl) ?_
  refine yl_callV X (a := 206) (ml := 2) (n := 0) (q := 102) (nq := 57) (ec := 11) (mc := 0) (ms := 0) (T9 := TX11) (N9 := 57) (as := []) (As := []) (rest := []) (ad := ad1) (h := (N1, T1, R1, I1)) (K' := fun r0 h' => ∃ (r : Int) (I' : Nat → Nat → Int) (L : Int), r0 = some (yi r) ∧ h' = (N1, T1, R1, I') ∧ uPo I1 I' L ∧ L = I1 102 2 ∧ uLn I1 I')
    rfl zm_206 (v_206 hc1.1.2.1 hc1.1.2.2.1 (show 126 ≤ N1 by omega) (uInv_cg w.2.1 hc1.2.2.1) (fun r I' L hu u1 u2 => ⟨r, I', L, rfl, rfl, hu, u1, u2⟩)) rfl (⟨_, _, rfl, yG_r (show 102 < N1 by omega), rfl⟩) (Nat.le_of_ble_eq_true rfl) (show 102 < N1 by omega) (hc1.1.2.1 102 rfl) rfl (List.mem_of_getElem? (i := 1782) rfl) (List.mem_of_getElem? (i := 1783) rfl) (List.mem_of_getElem? (i := 1784) rfl) (by decide +kernel) rfl S1 hl.1 (Nat.zero_le _) (show decode code 681 = .ok (.invokevirtual 99, 3) by decide +kernel) ⟨(show cells + 0 + 0 ≤ 601024 by omega), (show slots + (0) + 0 ≤ 7293034 by omega)⟩ (fun r h' g => by obtain ⟨r, _, _, e, _⟩ := g; exact ⟨r, e⟩) (fun y2 h2 ad2 H2 locs2 hK2 hA2 hN2 S2 => ?_)
  obtain ⟨r2, I2, L2, er2, rfl, hu, u1, u2⟩ := hK2
  have y2e : y2.toInt = r2 := by cases er2; rfl
  have f0 : ad2 0 = ad1 0 := hA2 0 (show 0 < N1 by omega)
  have f102 : ad2 102 = ad1 102 := hA2 102 (show 102 < N1 by omega)
  have f126 : ad2 126 = ad1 126 := hA2 126 (show 126 < N1 by omega)
  rw [← f0, ← f102, ← f126] at hl
  have eL : I1 102 2 = I 102 2 := hc1.2.2.1 102 2 (by decide) (by decide)
  have eW := w.2.2.1.1
  have wi : wInv N1 T1 R1 I2 ns1 := w_cu w hc1 hu (by omega) (fun j a b => absurd (show (j : Int) < I 1 1 by omega) b) (w_nk w hc1 q3.1 hu ⟨u2.1.1, fun j _ => u2.1.2 j⟩) (by rw [hu.2.1 1 10 (.inl (by decide)), q3.2, u2.2, hc1.2.2.1 102 15 (by decide) (by decide)]; exact w.2.2.2.2.2.2)
  refine lv_pop hx hb (show decode code 684 = .ok (.pop, 1) by decide +kernel) rfl ?_
  exact lv_goto (tgt := 1125) hx hb (show decode code 685 = .ok (.goto 440, 3) by decide +kernel) (by decide) (ex ad2 N1 ns1 _ _ T1 R1 I2 H2 locs2 ls S2 wi hl (show cells + 0 + 0 ≤ cells + 32 by omega) (show slots + (0) + 0 + gPt ns1 ≤ slots + gPt ns + 4431 by rw [(show ns1 = ns from q2)]; omega))
set_option maxHeartbeats 4000000 in
set_option maxRecDepth 100000 in
theorem yl_op_invited {ad : Nat → Nat} {N ns i cells slots : Nat} {T : Nat → Nat × Nat} {R : Nat → Nat → Option Nat} {I : Nat → Nat → Int} {H : Heap} {locs : List Loc} {ls : Array Slot} (X : lwX p l s m c b L xs D cy) (hi : i + 6 ≤ L) (S : lwS s D cy ad (N, T, R, I) H locs) (w : wInv N T R I ns) (hl : lv_has ls 7 [(4, .int (nI i)), (3, .ref (ad 126)), (2, .ref (ad 102)), (1, .ref (ad 0)), (0, .ref b)]) (hc : cells + 32 ≤ 601024) (hs : slots + gPt ns + 4431 ≤ 7293034)
    (ex : lwEx p l e s m below meth c b D cy Q i cells (slots + gPt ns + 4431)) : W p l e room_1 s m #[Value.ref b] below meth c H locs cells slots Q (F0 m 688 ls []) := by
  have hx := X.1
  have hb := X.2.1
  have h127 := w.2.2.2.2.2.1
  refine lv_aload_n (i := 1) (x := ad 0) hx hb (show decode code 688 = .ok (.aload_n 1, 1) by decide +kernel) rfl (lv_at hl 3 rfl) ?_
  refine yl_arg X S i 1 (by omega) (lv_at hl 4 rfl) (lv_at hl 0 rfl) (by decide +kernel) (by decide +kernel) (by decide +kernel) (by decide +kernel) (by decide +kernel) ?_
  refine yl_callV X (a := 124) (ml := 6) (n := 1) (q := 0) (nq := 10) (ec := 10) (mc := 0) (ms := 0) (T9 := TX10) (N9 := 10) (as := [yi (xs (i + 1)).toInt]) (As := [.int (xs (i + 1))]) (rest := []) (ad := ad) (h := (N, T, R, I)) (K' := fun r0 h' => ∃ (r : Int) (N' : Nat) (T' : Nat → Nat × Nat) (R' : Nat → Nat → Option Nat) (I' : Nat → Nat → Int) (ns' : Nat) (L : Int), r0 = some (yi r) ∧ h' = (N', T', R', I') ∧ cPo N T R I N' T' R' I' ns' L ∧ L = I 1 1 ∧ ns' = ns ∧ cLn I I')
    rfl zm_124 (v_124 w.1 (fun r N' T' R' I' ns' L hc q1 q2 q3 => ⟨r, N', T', R', I', ns', L, rfl, rfl, hc, q1, q2, q3⟩)) rfl (⟨_, _, rfl, yG_r (show 0 < N by omega), _, _, rfl, yG_i _, rfl⟩) (Nat.le_of_ble_eq_true rfl) (show 0 < N by omega) (w.1.2.1 0 rfl) rfl (List.mem_of_getElem? (i := 1080) rfl) (List.mem_of_getElem? (i := 1081) rfl) (List.mem_of_getElem? (i := 1082) rfl) (by decide +kernel) rfl S hl.1 (Nat.zero_le _) (show decode code 695 = .ok (.invokevirtual 100, 3) by decide +kernel) ⟨(show cells + 0 ≤ 601024 by omega), (show slots + (0) ≤ 7293034 by omega)⟩ (fun r h' g => by obtain ⟨r, _, _, _, _, _, _, e, _⟩ := g; exact ⟨r, e⟩) (fun y1 h1 ad1 H1 locs1 hK hA hN S1 => ?_)
  obtain ⟨r1, N1, T1, R1, I1, ns1, L1, er, rfl, hc1, q1, q2, q3⟩ := hK
  have y1e : y1.toInt = r1 := by cases er; rfl
  have e0 : ad1 0 = ad 0 := hA 0 (show 0 < N by omega)
  have e102 : ad1 102 = ad 102 := hA 102 (show 102 < N by omega)
  have e126 : ad1 126 = ad 126 := hA 126 (show 126 < N by omega)
  have nN : N ≤ N1 := hc1.2.1.1
  rw [← e0, ← e102, ← e126] at hl
  refine lv_pop hx hb (show decode code 698 = .ok (.pop, 1) by decide +kernel) rfl ?_
  refine lv_aload_n (i := 2) (x := ad1 102) hx hb (show decode code 699 = .ok (.aload_n 2, 1) by decide +kernel) rfl (lv_at hl 2 rfl) ?_
  refine yl_arg X S1 i 1 (by omega) (lv_at hl 4 rfl) (lv_at hl 0 rfl) (by decide +kernel) (by decide +kernel) (by decide +kernel) (by decide +kernel) (by decide +kernel) ?_
  refine yl_callV X (a := 185) (ml := 5) (n := 1) (q := 102) (nq := 57) (ec := 11) (mc := 0) (ms := 0) (T9 := TX11) (N9 := 57) (as := [yi (xs (i + 1)).toInt]) (As := [.int (xs (i + 1))]) (rest := []) (ad := ad1) (h := (N1, T1, R1, I1)) (K' := fun r0 h' => ∃ (r : Int) (I' : Nat → Nat → Int) (L : Int), r0 = some (yi r) ∧ h' = (N1, T1, R1, I') ∧ uPo I1 I' L ∧ L = I1 102 2 ∧ uLn I1 I')
    rfl zm_185 (v_185 hc1.1.2.1 hc1.1.2.2.1 (show 126 ≤ N1 by omega) (uInv_cg w.2.1 hc1.2.2.1) (fun r I' L hu u1 u2 => ⟨r, I', L, rfl, rfl, hu, u1, u2⟩)) rfl (⟨_, _, rfl, yG_r (show 102 < N1 by omega), _, _, rfl, yG_i _, rfl⟩) (Nat.le_of_ble_eq_true rfl) (show 102 < N1 by omega) (hc1.1.2.1 102 rfl) rfl (List.mem_of_getElem? (i := 1818) rfl) (List.mem_of_getElem? (i := 1819) rfl) (List.mem_of_getElem? (i := 1820) rfl) (by decide +kernel) rfl S1 hl.1 (Nat.zero_le _) (show decode code 706 = .ok (.invokevirtual 103, 3) by decide +kernel) ⟨(show cells + 0 + 0 ≤ 601024 by omega), (show slots + (0) + 0 ≤ 7293034 by omega)⟩ (fun r h' g => by obtain ⟨r, _, _, e, _⟩ := g; exact ⟨r, e⟩) (fun y2 h2 ad2 H2 locs2 hK2 hA2 hN2 S2 => ?_)
  obtain ⟨r2, I2, L2, er2, rfl, hu, u1, u2⟩ := hK2
  have y2e : y2.toInt = r2 := by cases er2; rfl
  have f0 : ad2 0 = ad1 0 := hA2 0 (show 0 < N1 by omega)
  have f102 : ad2 102 = ad1 102 := hA2 102 (show 102 < N1 by omega)
  have f126 : ad2 126 = ad1 126 := hA2 126 (show 126 < N1 by omega)
  rw [← f0, ← f102, ← f126] at hl
  have eL : I1 102 2 = I 102 2 := hc1.2.2.1 102 2 (by decide) (by decide)
  have eW := w.2.2.1.1
  have wi : wInv N1 T1 R1 I2 ns1 := w_cu w hc1 hu (by omega) (fun j a b => absurd (show (j : Int) < I 1 1 by omega) b) (w_nk w hc1 q3.1 hu ⟨u2.1.1, fun j _ => u2.1.2 j⟩) (by rw [hu.2.1 1 10 (.inl (by decide)), q3.2, u2.2, hc1.2.2.1 102 15 (by decide) (by decide)]; exact w.2.2.2.2.2.2)
  refine lv_pop hx hb (show decode code 709 = .ok (.pop, 1) by decide +kernel) rfl ?_
  exact lv_goto (tgt := 1125) hx hb (show decode code 710 = .ok (.goto 415, 3) by decide +kernel) (by decide) (ex ad2 N1 ns1 _ _ T1 R1 I2 H2 locs2 ls S2 wi hl (show cells + 0 + 0 ≤ cells + 32 by omega) (show slots + (0) + 0 + gPt ns1 ≤ slots + gPt ns + 4431 by rw [(show ns1 = ns from q2)]; omega))
set_option maxHeartbeats 4000000 in
set_option maxRecDepth 100000 in
theorem yl_op_began {ad : Nat → Nat} {N ns i cells slots : Nat} {T : Nat → Nat × Nat} {R : Nat → Nat → Option Nat} {I : Nat → Nat → Int} {H : Heap} {locs : List Loc} {ls : Array Slot} (X : lwX p l s m c b L xs D cy) (hi : i + 6 ≤ L) (S : lwS s D cy ad (N, T, R, I) H locs) (w : wInv N T R I ns) (hl : lv_has ls 7 [(4, .int (nI i)), (3, .ref (ad 126)), (2, .ref (ad 102)), (1, .ref (ad 0)), (0, .ref b)]) (hc : cells + 32 ≤ 601024) (hs : slots + gPt ns + 4431 ≤ 7293034)
    (ex : lwEx p l e s m below meth c b D cy Q i cells (slots + gPt ns + 4431)) : W p l e room_1 s m #[Value.ref b] below meth c H locs cells slots Q (F0 m 713 ls []) := by
  have hx := X.1
  have hb := X.2.1
  have h127 := w.2.2.2.2.2.1
  refine lv_aload_n (i := 1) (x := ad 0) hx hb (show decode code 713 = .ok (.aload_n 1, 1) by decide +kernel) rfl (lv_at hl 3 rfl) ?_
  refine yl_callV X (a := 115) (ml := 3) (n := 0) (q := 0) (nq := 10) (ec := 10) (mc := 0) (ms := 0) (T9 := TX10) (N9 := 10) (as := []) (As := []) (rest := []) (ad := ad) (h := (N, T, R, I)) (K' := fun r0 h' => ∃ (r : Int) (N' : Nat) (T' : Nat → Nat × Nat) (R' : Nat → Nat → Option Nat) (I' : Nat → Nat → Int) (ns' : Nat) (L : Int), r0 = some (yi r) ∧ h' = (N', T', R', I') ∧ cPo N T R I N' T' R' I' ns' L ∧ L = I 1 1 ∧ ns' = ns ∧ cLn I I')
    rfl zm_115 (v_115 w.1 (fun r N' T' R' I' ns' L hc q1 q2 q3 => ⟨r, N', T', R', I', ns', L, rfl, rfl, hc, q1, q2, q3⟩)) rfl (⟨_, _, rfl, yG_r (show 0 < N by omega), rfl⟩) (Nat.le_of_ble_eq_true rfl) (show 0 < N by omega) (w.1.2.1 0 rfl) rfl (List.mem_of_getElem? (i := 1093) rfl) (List.mem_of_getElem? (i := 1094) rfl) (List.mem_of_getElem? (i := 1095) rfl) (by decide +kernel) rfl S hl.1 (Nat.zero_le _) (show decode code 714 = .ok (.invokevirtual 104, 3) by decide +kernel) ⟨(show cells + 0 ≤ 601024 by omega), (show slots + (0) ≤ 7293034 by omega)⟩ (fun r h' g => by obtain ⟨r, _, _, _, _, _, _, e, _⟩ := g; exact ⟨r, e⟩) (fun y1 h1 ad1 H1 locs1 hK hA hN S1 => ?_)
  obtain ⟨r1, N1, T1, R1, I1, ns1, L1, er, rfl, hc1, q1, q2, q3⟩ := hK
  have y1e : y1.toInt = r1 := by cases er; rfl
  have e0 : ad1 0 = ad 0 := hA 0 (show 0 < N by omega)
  have e102 : ad1 102 = ad 102 := hA 102 (show 102 < N by omega)
  have e126 : ad1 126 = ad 126 := hA 126 (show 126 < N by omega)
  have nN : N ≤ N1 := hc1.2.1.1
  rw [← e0, ← e102, ← e126] at hl
  refine lv_pop hx hb (show decode code 717 = .ok (.pop, 1) by decide +kernel) rfl ?_
  refine lv_aload_n (i := 2) (x := ad1 102) hx hb (show decode code 718 = .ok (.aload_n 2, 1) by decide +kernel) rfl (lv_at hl 2 rfl) ?_
  refine yl_callV X (a := 160) (ml := 3) (n := 0) (q := 102) (nq := 57) (ec := 11) (mc := 0) (ms := 0) (T9 := TX11) (N9 := 57) (as := []) (As := []) (rest := []) (ad := ad1) (h := (N1, T1, R1, I1)) (K' := fun r0 h' => ∃ (r : Int) (I' : Nat → Nat → Int) (L : Int), r0 = some (yi r) ∧ h' = (N1, T1, R1, I') ∧ uPo I1 I' L ∧ L = I1 102 2 ∧ uLn I1 I')
    rfl zm_160 (v_160 hc1.1.2.1 hc1.1.2.2.1 (show 126 ≤ N1 by omega) (uInv_cg w.2.1 hc1.2.2.1) (fun r I' L hu u1 u2 => ⟨r, I', L, rfl, rfl, hu, u1, u2⟩)) rfl (⟨_, _, rfl, yG_r (show 102 < N1 by omega), rfl⟩) (Nat.le_of_ble_eq_true rfl) (show 102 < N1 by omega) (hc1.1.2.1 102 rfl) rfl (List.mem_of_getElem? (i := 1826) rfl) (List.mem_of_getElem? (i := 1827) rfl) (List.mem_of_getElem? (i := 1828) rfl) (by decide +kernel) rfl S1 hl.1 (Nat.zero_le _) (show decode code 719 = .ok (.invokevirtual 107, 3) by decide +kernel) ⟨(show cells + 0 + 0 ≤ 601024 by omega), (show slots + (0) + 0 ≤ 7293034 by omega)⟩ (fun r h' g => by obtain ⟨r, _, _, e, _⟩ := g; exact ⟨r, e⟩) (fun y2 h2 ad2 H2 locs2 hK2 hA2 hN2 S2 => ?_)
  obtain ⟨r2, I2, L2, er2, rfl, hu, u1, u2⟩ := hK2
  have y2e : y2.toInt = r2 := by cases er2; rfl
  have f0 : ad2 0 = ad1 0 := hA2 0 (show 0 < N1 by omega)
  have f102 : ad2 102 = ad1 102 := hA2 102 (show 102 < N1 by omega)
  have f126 : ad2 126 = ad1 126 := hA2 126 (show 126 < N1 by omega)
  rw [← f0, ← f102, ← f126] at hl
  have eL : I1 102 2 = I 102 2 := hc1.2.2.1 102 2 (by decide) (by decide)
  have eW := w.2.2.1.1
  have wi : wInv N1 T1 R1 I2 ns1 := w_cu w hc1 hu (by omega) (fun j a b => absurd (show (j : Int) < I 1 1 by omega) b) (w_nk w hc1 q3.1 hu ⟨u2.1.1, fun j _ => u2.1.2 j⟩) (by rw [hu.2.1 1 10 (.inl (by decide)), q3.2, u2.2, hc1.2.2.1 102 15 (by decide) (by decide)]; exact w.2.2.2.2.2.2)
  refine lv_pop hx hb (show decode code 722 = .ok (.pop, 1) by decide +kernel) rfl ?_
  exact lv_goto (tgt := 1125) hx hb (show decode code 723 = .ok (.goto 402, 3) by decide +kernel) (by decide) (ex ad2 N1 ns1 _ _ T1 R1 I2 H2 locs2 ls S2 wi hl (show cells + 0 + 0 ≤ cells + 32 by omega) (show slots + (0) + 0 + gPt ns1 ≤ slots + gPt ns + 4431 by rw [(show ns1 = ns from q2)]; omega))
set_option maxHeartbeats 4000000 in
set_option maxRecDepth 100000 in
theorem yl_op_lent {ad : Nat → Nat} {N ns i cells slots : Nat} {T : Nat → Nat × Nat} {R : Nat → Nat → Option Nat} {I : Nat → Nat → Int} {H : Heap} {locs : List Loc} {ls : Array Slot} (X : lwX p l s m c b L xs D cy) (hi : i + 6 ≤ L) (S : lwS s D cy ad (N, T, R, I) H locs) (w : wInv N T R I ns) (hl : lv_has ls 7 [(4, .int (nI i)), (3, .ref (ad 126)), (2, .ref (ad 102)), (1, .ref (ad 0)), (0, .ref b)]) (hc : cells + 32 ≤ 601024) (hs : slots + gPt ns + 4431 ≤ 7293034)
    (ex : lwEx p l e s m below meth c b D cy Q i cells (slots + gPt ns + 4431)) : W p l e room_1 s m #[Value.ref b] below meth c H locs cells slots Q (F0 m 726 ls []) := by
  have hx := X.1
  have hb := X.2.1
  have h127 := w.2.2.2.2.2.1
  refine lv_aload_n (i := 1) (x := ad 0) hx hb (show decode code 726 = .ok (.aload_n 1, 1) by decide +kernel) rfl (lv_at hl 3 rfl) ?_
  refine yl_arg X S i 1 (by omega) (lv_at hl 4 rfl) (lv_at hl 0 rfl) (by decide +kernel) (by decide +kernel) (by decide +kernel) (by decide +kernel) (by decide +kernel) ?_
  refine yl_arg X S i 2 (by omega) (lv_at hl 4 rfl) (lv_at hl 0 rfl) (by decide +kernel) (by decide +kernel) (by decide +kernel) (by decide +kernel) (by decide +kernel) ?_
  refine yl_callV X (a := 133) (ml := 4) (n := 2) (q := 0) (nq := 10) (ec := 10) (mc := 0) (ms := 0) (T9 := TX10) (N9 := 10) (as := [yi (xs (i + 1)).toInt, yi (xs (i + 2)).toInt]) (As := [.int (xs (i + 1)), .int (xs (i + 2))]) (rest := []) (ad := ad) (h := (N, T, R, I)) (K' := fun r0 h' => ∃ (r : Int) (N' : Nat) (T' : Nat → Nat × Nat) (R' : Nat → Nat → Option Nat) (I' : Nat → Nat → Int) (ns' : Nat) (L : Int), r0 = some (yi r) ∧ h' = (N', T', R', I') ∧ cPo N T R I N' T' R' I' ns' L ∧ L = I 1 1 ∧ ns' = ns ∧ cLn I I')
    rfl zm_133 (v_133 w.1 (fun r N' T' R' I' ns' L hc q1 q2 q3 => ⟨r, N', T', R', I', ns', L, rfl, rfl, hc, q1, q2, q3⟩)) rfl (⟨_, _, rfl, yG_r (show 0 < N by omega), _, _, rfl, yG_i _, _, _, rfl, yG_i _, rfl⟩) (Nat.le_of_ble_eq_true rfl) (show 0 < N by omega) (w.1.2.1 0 rfl) rfl (List.mem_of_getElem? (i := 1101) rfl) (List.mem_of_getElem? (i := 1102) rfl) (List.mem_of_getElem? (i := 1103) rfl) (by decide +kernel) rfl S hl.1 (Nat.zero_le _) (show decode code 739 = .ok (.invokevirtual 108, 3) by decide +kernel) ⟨(show cells + 0 ≤ 601024 by omega), (show slots + (0) ≤ 7293034 by omega)⟩ (fun r h' g => by obtain ⟨r, _, _, _, _, _, _, e, _⟩ := g; exact ⟨r, e⟩) (fun y1 h1 ad1 H1 locs1 hK hA hN S1 => ?_)
  obtain ⟨r1, N1, T1, R1, I1, ns1, L1, er, rfl, hc1, q1, q2, q3⟩ := hK
  have y1e : y1.toInt = r1 := by cases er; rfl
  have e0 : ad1 0 = ad 0 := hA 0 (show 0 < N by omega)
  have e102 : ad1 102 = ad 102 := hA 102 (show 102 < N by omega)
  have e126 : ad1 126 = ad 126 := hA 126 (show 126 < N by omega)
  have nN : N ≤ N1 := hc1.2.1.1
  rw [← e0, ← e102, ← e126] at hl
  refine lv_pop hx hb (show decode code 742 = .ok (.pop, 1) by decide +kernel) rfl ?_
  refine lv_aload_n (i := 2) (x := ad1 102) hx hb (show decode code 743 = .ok (.aload_n 2, 1) by decide +kernel) rfl (lv_at hl 2 rfl) ?_
  refine yl_arg X S1 i 1 (by omega) (lv_at hl 4 rfl) (lv_at hl 0 rfl) (by decide +kernel) (by decide +kernel) (by decide +kernel) (by decide +kernel) (by decide +kernel) ?_
  refine yl_arg X S1 i 2 (by omega) (lv_at hl 4 rfl) (lv_at hl 0 rfl) (by decide +kernel) (by decide +kernel) (by decide +kernel) (by decide +kernel) (by decide +kernel) ?_
  refine yl_callV X (a := 210) (ml := 6) (n := 2) (q := 102) (nq := 57) (ec := 11) (mc := 0) (ms := 0) (T9 := TX11) (N9 := 57) (as := [yi (xs (i + 1)).toInt, yi (xs (i + 2)).toInt]) (As := [.int (xs (i + 1)), .int (xs (i + 2))]) (rest := []) (ad := ad1) (h := (N1, T1, R1, I1)) (K' := fun r0 h' => ∃ (r : Int) (I' : Nat → Nat → Int) (L : Int), r0 = some (yi r) ∧ h' = (N1, T1, R1, I') ∧ uPo I1 I' L ∧ L = I1 102 2 ∧ uLn I1 I')
    rfl zm_210 (v_210 hc1.1.2.1 hc1.1.2.2.1 (show 126 ≤ N1 by omega) (uInv_cg w.2.1 hc1.2.2.1) (fun r I' L hu u1 u2 => ⟨r, I', L, rfl, rfl, hu, u1, u2⟩)) rfl (⟨_, _, rfl, yG_r (show 102 < N1 by omega), _, _, rfl, yG_i _, _, _, rfl, yG_i _, rfl⟩) (Nat.le_of_ble_eq_true rfl) (show 102 < N1 by omega) (hc1.1.2.1 102 rfl) rfl (List.mem_of_getElem? (i := 1838) rfl) (List.mem_of_getElem? (i := 1839) rfl) (List.mem_of_getElem? (i := 1840) rfl) (by decide +kernel) rfl S1 hl.1 (Nat.zero_le _) (show decode code 756 = .ok (.invokevirtual 111, 3) by decide +kernel) ⟨(show cells + 0 + 0 ≤ 601024 by omega), (show slots + (0) + 0 ≤ 7293034 by omega)⟩ (fun r h' g => by obtain ⟨r, _, _, e, _⟩ := g; exact ⟨r, e⟩) (fun y2 h2 ad2 H2 locs2 hK2 hA2 hN2 S2 => ?_)
  obtain ⟨r2, I2, L2, er2, rfl, hu, u1, u2⟩ := hK2
  have y2e : y2.toInt = r2 := by cases er2; rfl
  have f0 : ad2 0 = ad1 0 := hA2 0 (show 0 < N1 by omega)
  have f102 : ad2 102 = ad1 102 := hA2 102 (show 102 < N1 by omega)
  have f126 : ad2 126 = ad1 126 := hA2 126 (show 126 < N1 by omega)
  rw [← f0, ← f102, ← f126] at hl
  have eL : I1 102 2 = I 102 2 := hc1.2.2.1 102 2 (by decide) (by decide)
  have eW := w.2.2.1.1
  have wi : wInv N1 T1 R1 I2 ns1 := w_cu w hc1 hu (by omega) (fun j a b => absurd (show (j : Int) < I 1 1 by omega) b) (w_nk w hc1 q3.1 hu ⟨u2.1.1, fun j _ => u2.1.2 j⟩) (by rw [hu.2.1 1 10 (.inl (by decide)), q3.2, u2.2, hc1.2.2.1 102 15 (by decide) (by decide)]; exact w.2.2.2.2.2.2)
  refine lv_pop hx hb (show decode code 759 = .ok (.pop, 1) by decide +kernel) rfl ?_
  exact lv_goto (tgt := 1125) hx hb (show decode code 760 = .ok (.goto 365, 3) by decide +kernel) (by decide) (ex ad2 N1 ns1 _ _ T1 R1 I2 H2 locs2 ls S2 wi hl (show cells + 0 + 0 ≤ cells + 32 by omega) (show slots + (0) + 0 + gPt ns1 ≤ slots + gPt ns + 4431 by rw [(show ns1 = ns from q2)]; omega))
set_option maxHeartbeats 4000000 in
set_option maxRecDepth 100000 in
theorem yl_op_torches {ad : Nat → Nat} {N ns i cells slots : Nat} {T : Nat → Nat × Nat} {R : Nat → Nat → Option Nat} {I : Nat → Nat → Int} {H : Heap} {locs : List Loc} {ls : Array Slot} (X : lwX p l s m c b L xs D cy) (hi : i + 6 ≤ L) (S : lwS s D cy ad (N, T, R, I) H locs) (w : wInv N T R I ns) (hl : lv_has ls 7 [(4, .int (nI i)), (3, .ref (ad 126)), (2, .ref (ad 102)), (1, .ref (ad 0)), (0, .ref b)]) (hc : cells + 32 ≤ 601024) (hs : slots + gPt ns + 4431 ≤ 7293034)
    (ex : lwEx p l e s m below meth c b D cy Q i cells (slots + gPt ns + 4431)) : W p l e room_1 s m #[Value.ref b] below meth c H locs cells slots Q (F0 m 763 ls []) := by
  have hx := X.1
  have hb := X.2.1
  have h127 := w.2.2.2.2.2.1
  refine lv_aload_n (i := 1) (x := ad 0) hx hb (show decode code 763 = .ok (.aload_n 1, 1) by decide +kernel) rfl (lv_at hl 3 rfl) ?_
  refine yl_arg X S i 1 (by omega) (lv_at hl 4 rfl) (lv_at hl 0 rfl) (by decide +kernel) (by decide +kernel) (by decide +kernel) (by decide +kernel) (by decide +kernel) ?_
  refine yl_arg X S i 2 (by omega) (lv_at hl 4 rfl) (lv_at hl 0 rfl) (by decide +kernel) (by decide +kernel) (by decide +kernel) (by decide +kernel) (by decide +kernel) ?_
  refine yl_arg X S i 3 (by omega) (lv_at hl 4 rfl) (lv_at hl 0 rfl) (by decide +kernel) (by decide +kernel) (by decide +kernel) (by decide +kernel) (by decide +kernel) ?_
  refine yl_arg X S i 4 (by omega) (lv_at hl 4 rfl) (lv_at hl 0 rfl) (by decide +kernel) (by decide +kernel) (by decide +kernel) (by decide +kernel) (by decide +kernel) ?_
  refine yl_callV X (a := 148) (ml := 9) (n := 4) (q := 0) (nq := 10) (ec := 10) (mc := 2) (ms := 8) (T9 := TX10) (N9 := 10) (as := [yi (xs (i + 1)).toInt, yi (xs (i + 2)).toInt, yi (xs (i + 3)).toInt, yi (xs (i + 4)).toInt]) (As := [.int (xs (i + 1)), .int (xs (i + 2)), .int (xs (i + 3)), .int (xs (i + 4))]) (rest := []) (ad := ad) (h := (N, T, R, I)) (K' := fun r0 h' => ∃ (r : Int) (N' : Nat) (T' : Nat → Nat × Nat) (R' : Nat → Nat → Option Nat) (I' : Nat → Nat → Int) (ns' : Nat) (L : Int), r0 = some (yi r) ∧ h' = (N', T', R', I') ∧ cPo N T R I N' T' R' I' ns' L ∧ L = I 1 1 ∧ ns' = ns ∧ cLn I I')
    rfl zm_148 (v_148 w.1 (Nat.le_refl _) (Nat.le_refl _) (fun r N' T' R' I' ns' L hc q1 q2 q3 => ⟨r, N', T', R', I', ns', L, rfl, rfl, hc, q1, q2, q3⟩)) rfl (⟨_, _, rfl, yG_r (show 0 < N by omega), _, _, rfl, yG_i _, _, _, rfl, yG_i _, _, _, rfl, yG_i _, _, _, rfl, yG_i _, rfl⟩) (Nat.le_of_ble_eq_true rfl) (show 0 < N by omega) (w.1.2.1 0 rfl) rfl (List.mem_of_getElem? (i := 1110) rfl) (List.mem_of_getElem? (i := 1111) rfl) (List.mem_of_getElem? (i := 1112) rfl) (by decide +kernel) rfl S hl.1 (Nat.zero_le _) (show decode code 788 = .ok (.invokevirtual 112, 3) by decide +kernel) ⟨(show cells + 2 ≤ 601024 by omega), (show slots + (8) ≤ 7293034 by omega)⟩ (fun r h' g => by obtain ⟨r, _, _, _, _, _, _, e, _⟩ := g; exact ⟨r, e⟩) (fun y1 h1 ad1 H1 locs1 hK hA hN S1 => ?_)
  obtain ⟨r1, N1, T1, R1, I1, ns1, L1, er, rfl, hc1, q1, q2, q3⟩ := hK
  have y1e : y1.toInt = r1 := by cases er; rfl
  have e0 : ad1 0 = ad 0 := hA 0 (show 0 < N by omega)
  have e102 : ad1 102 = ad 102 := hA 102 (show 102 < N by omega)
  have e126 : ad1 126 = ad 126 := hA 126 (show 126 < N by omega)
  have nN : N ≤ N1 := hc1.2.1.1
  rw [← e0, ← e102, ← e126] at hl
  refine lv_pop hx hb (show decode code 791 = .ok (.pop, 1) by decide +kernel) rfl ?_
  refine lv_aload_n (i := 2) (x := ad1 102) hx hb (show decode code 792 = .ok (.aload_n 2, 1) by decide +kernel) rfl (lv_at hl 2 rfl) ?_
  refine yl_arg X S1 i 1 (by omega) (lv_at hl 4 rfl) (lv_at hl 0 rfl) (by decide +kernel) (by decide +kernel) (by decide +kernel) (by decide +kernel) (by decide +kernel) ?_
  refine yl_arg X S1 i 2 (by omega) (lv_at hl 4 rfl) (lv_at hl 0 rfl) (by decide +kernel) (by decide +kernel) (by decide +kernel) (by decide +kernel) (by decide +kernel) ?_
  refine yl_arg X S1 i 3 (by omega) (lv_at hl 4 rfl) (lv_at hl 0 rfl) (by decide +kernel) (by decide +kernel) (by decide +kernel) (by decide +kernel) (by decide +kernel) ?_
  refine yl_arg X S1 i 4 (by omega) (lv_at hl 4 rfl) (lv_at hl 0 rfl) (by decide +kernel) (by decide +kernel) (by decide +kernel) (by decide +kernel) (by decide +kernel) ?_
  refine yl_callV X (a := 248) (ml := 7) (n := 4) (q := 102) (nq := 57) (ec := 11) (mc := 0) (ms := 0) (T9 := TX11) (N9 := 57) (as := [yi (xs (i + 1)).toInt, yi (xs (i + 2)).toInt, yi (xs (i + 3)).toInt, yi (xs (i + 4)).toInt]) (As := [.int (xs (i + 1)), .int (xs (i + 2)), .int (xs (i + 3)), .int (xs (i + 4))]) (rest := []) (ad := ad1) (h := (N1, T1, R1, I1)) (K' := fun r0 h' => ∃ (r : Int) (I' : Nat → Nat → Int) (L : Int), r0 = some (yi r) ∧ h' = (N1, T1, R1, I') ∧ uPo I1 I' L ∧ L = I1 102 2 ∧ uLn I1 I')
    rfl zm_248 (v_248 hc1.1.2.1 hc1.1.2.2.1 (show 126 ≤ N1 by omega) (uInv_cg w.2.1 hc1.2.2.1) (fun r I' L hu u1 u2 => ⟨r, I', L, rfl, rfl, hu, u1, u2⟩)) rfl (⟨_, _, rfl, yG_r (show 102 < N1 by omega), _, _, rfl, yG_i _, _, _, rfl, yG_i _, _, _, rfl, yG_i _, _, _, rfl, yG_i _, rfl⟩) (Nat.le_of_ble_eq_true rfl) (show 102 < N1 by omega) (hc1.1.2.1 102 rfl) rfl (List.mem_of_getElem? (i := 1842) rfl) (List.mem_of_getElem? (i := 1843) rfl) (List.mem_of_getElem? (i := 1844) rfl) (by decide +kernel) rfl S1 hl.1 (Nat.zero_le _) (show decode code 817 = .ok (.invokevirtual 116, 3) by decide +kernel) ⟨(show cells + 2 + 0 ≤ 601024 by omega), (show slots + (8) + 0 ≤ 7293034 by omega)⟩ (fun r h' g => by obtain ⟨r, _, _, e, _⟩ := g; exact ⟨r, e⟩) (fun y2 h2 ad2 H2 locs2 hK2 hA2 hN2 S2 => ?_)
  obtain ⟨r2, I2, L2, er2, rfl, hu, u1, u2⟩ := hK2
  have y2e : y2.toInt = r2 := by cases er2; rfl
  have f0 : ad2 0 = ad1 0 := hA2 0 (show 0 < N1 by omega)
  have f102 : ad2 102 = ad1 102 := hA2 102 (show 102 < N1 by omega)
  have f126 : ad2 126 = ad1 126 := hA2 126 (show 126 < N1 by omega)
  rw [← f0, ← f102, ← f126] at hl
  have eL : I1 102 2 = I 102 2 := hc1.2.2.1 102 2 (by decide) (by decide)
  have eW := w.2.2.1.1
  have wi : wInv N1 T1 R1 I2 ns1 := w_cu w hc1 hu (by omega) (fun j a b => absurd (show (j : Int) < I 1 1 by omega) b) (w_nk w hc1 q3.1 hu ⟨u2.1.1, fun j _ => u2.1.2 j⟩) (by rw [hu.2.1 1 10 (.inl (by decide)), q3.2, u2.2, hc1.2.2.1 102 15 (by decide) (by decide)]; exact w.2.2.2.2.2.2)
  refine lv_pop hx hb (show decode code 820 = .ok (.pop, 1) by decide +kernel) rfl ?_
  exact lv_goto (tgt := 1125) hx hb (show decode code 821 = .ok (.goto 304, 3) by decide +kernel) (by decide) (ex ad2 N1 ns1 _ _ T1 R1 I2 H2 locs2 ls S2 wi hl (show cells + 2 + 0 ≤ cells + 32 by omega) (show slots + (8) + 0 + gPt ns1 ≤ slots + gPt ns + 4431 by rw [(show ns1 = ns from q2)]; omega))
set_option maxHeartbeats 4000000 in
set_option maxRecDepth 100000 in
theorem yl_op_voted {ad : Nat → Nat} {N ns i cells slots : Nat} {T : Nat → Nat × Nat} {R : Nat → Nat → Option Nat} {I : Nat → Nat → Int} {H : Heap} {locs : List Loc} {ls : Array Slot} (X : lwX p l s m c b L xs D cy) (hi : i + 6 ≤ L) (S : lwS s D cy ad (N, T, R, I) H locs) (w : wInv N T R I ns) (hl : lv_has ls 7 [(4, .int (nI i)), (3, .ref (ad 126)), (2, .ref (ad 102)), (1, .ref (ad 0)), (0, .ref b)]) (hc : cells + 32 ≤ 601024) (hs : slots + gPt ns + 4431 ≤ 7293034)
    (ex : lwEx p l e s m below meth c b D cy Q i cells (slots + gPt ns + 4431)) : W p l e room_1 s m #[Value.ref b] below meth c H locs cells slots Q (F0 m 824 ls []) := by
  have hx := X.1
  have hb := X.2.1
  have h127 := w.2.2.2.2.2.1
  refine lv_aload_n (i := 1) (x := ad 0) hx hb (show decode code 824 = .ok (.aload_n 1, 1) by decide +kernel) rfl (lv_at hl 3 rfl) ?_
  refine yl_arg X S i 1 (by omega) (lv_at hl 4 rfl) (lv_at hl 0 rfl) (by decide +kernel) (by decide +kernel) (by decide +kernel) (by decide +kernel) (by decide +kernel) ?_
  refine yl_callV X (a := 151) (ml := 6) (n := 1) (q := 0) (nq := 10) (ec := 10) (mc := 1) (ms := 8) (T9 := TX10) (N9 := 10) (as := [yi (xs (i + 1)).toInt]) (As := [.int (xs (i + 1))]) (rest := []) (ad := ad) (h := (N, T, R, I)) (K' := fun r0 h' => ∃ (r : Int) (N' : Nat) (T' : Nat → Nat × Nat) (R' : Nat → Nat → Option Nat) (I' : Nat → Nat → Int) (ns' : Nat) (L : Int), r0 = some (yi r) ∧ h' = (N', T', R', I') ∧ cPo N T R I N' T' R' I' ns' L ∧ L = I 1 1 ∧ ns' = ns ∧ cLn I I')
    rfl zm_151 (v_151 w.1 (Nat.le_refl _) (Nat.le_refl _) (fun r N' T' R' I' ns' L hc q1 q2 q3 => ⟨r, N', T', R', I', ns', L, rfl, rfl, hc, q1, q2, q3⟩)) rfl (⟨_, _, rfl, yG_r (show 0 < N by omega), _, _, rfl, yG_i _, rfl⟩) (Nat.le_of_ble_eq_true rfl) (show 0 < N by omega) (w.1.2.1 0 rfl) rfl (List.mem_of_getElem? (i := 1114) rfl) (List.mem_of_getElem? (i := 1115) rfl) (List.mem_of_getElem? (i := 1116) rfl) (by decide +kernel) rfl S hl.1 (Nat.zero_le _) (show decode code 831 = .ok (.invokevirtual 117, 3) by decide +kernel) ⟨(show cells + 1 ≤ 601024 by omega), (show slots + (8) ≤ 7293034 by omega)⟩ (fun r h' g => by obtain ⟨r, _, _, _, _, _, _, e, _⟩ := g; exact ⟨r, e⟩) (fun y1 h1 ad1 H1 locs1 hK hA hN S1 => ?_)
  obtain ⟨r1, N1, T1, R1, I1, ns1, L1, er, rfl, hc1, q1, q2, q3⟩ := hK
  have y1e : y1.toInt = r1 := by cases er; rfl
  have e0 : ad1 0 = ad 0 := hA 0 (show 0 < N by omega)
  have e102 : ad1 102 = ad 102 := hA 102 (show 102 < N by omega)
  have e126 : ad1 126 = ad 126 := hA 126 (show 126 < N by omega)
  have nN : N ≤ N1 := hc1.2.1.1
  rw [← e0, ← e102, ← e126] at hl
  refine lv_pop hx hb (show decode code 834 = .ok (.pop, 1) by decide +kernel) rfl ?_
  refine lv_aload_n (i := 2) (x := ad1 102) hx hb (show decode code 835 = .ok (.aload_n 2, 1) by decide +kernel) rfl (lv_at hl 2 rfl) ?_
  refine yl_arg X S1 i 1 (by omega) (lv_at hl 4 rfl) (lv_at hl 0 rfl) (by decide +kernel) (by decide +kernel) (by decide +kernel) (by decide +kernel) (by decide +kernel) ?_
  refine yl_callV X (a := 252) (ml := 5) (n := 1) (q := 102) (nq := 57) (ec := 11) (mc := 0) (ms := 0) (T9 := TX11) (N9 := 57) (as := [yi (xs (i + 1)).toInt]) (As := [.int (xs (i + 1))]) (rest := []) (ad := ad1) (h := (N1, T1, R1, I1)) (K' := fun r0 h' => ∃ (r : Int) (I' : Nat → Nat → Int) (L : Int), r0 = some (yi r) ∧ h' = (N1, T1, R1, I') ∧ uPo I1 I' L ∧ L = I1 102 2 ∧ uLn I1 I')
    rfl zm_252 (v_252 hc1.1.2.1 hc1.1.2.2.1 (show 126 ≤ N1 by omega) (uInv_cg w.2.1 hc1.2.2.1) (fun r I' L hu u1 u2 => ⟨r, I', L, rfl, rfl, hu, u1, u2⟩)) rfl (⟨_, _, rfl, yG_r (show 102 < N1 by omega), _, _, rfl, yG_i _, rfl⟩) (Nat.le_of_ble_eq_true rfl) (show 102 < N1 by omega) (hc1.1.2.1 102 rfl) rfl (List.mem_of_getElem? (i := 1846) rfl) (List.mem_of_getElem? (i := 1847) rfl) (List.mem_of_getElem? (i := 1848) rfl) (by decide +kernel) rfl S1 hl.1 (Nat.zero_le _) (show decode code 842 = .ok (.invokevirtual 120, 3) by decide +kernel) ⟨(show cells + 1 + 0 ≤ 601024 by omega), (show slots + (8) + 0 ≤ 7293034 by omega)⟩ (fun r h' g => by obtain ⟨r, _, _, e, _⟩ := g; exact ⟨r, e⟩) (fun y2 h2 ad2 H2 locs2 hK2 hA2 hN2 S2 => ?_)
  obtain ⟨r2, I2, L2, er2, rfl, hu, u1, u2⟩ := hK2
  have y2e : y2.toInt = r2 := by cases er2; rfl
  have f0 : ad2 0 = ad1 0 := hA2 0 (show 0 < N1 by omega)
  have f102 : ad2 102 = ad1 102 := hA2 102 (show 102 < N1 by omega)
  have f126 : ad2 126 = ad1 126 := hA2 126 (show 126 < N1 by omega)
  rw [← f0, ← f102, ← f126] at hl
  have eL : I1 102 2 = I 102 2 := hc1.2.2.1 102 2 (by decide) (by decide)
  have eW := w.2.2.1.1
  have wi : wInv N1 T1 R1 I2 ns1 := w_cu w hc1 hu (by omega) (fun j a b => absurd (show (j : Int) < I 1 1 by omega) b) (w_nk w hc1 q3.1 hu ⟨u2.1.1, fun j _ => u2.1.2 j⟩) (by rw [hu.2.1 1 10 (.inl (by decide)), q3.2, u2.2, hc1.2.2.1 102 15 (by decide) (by decide)]; exact w.2.2.2.2.2.2)
  refine lv_pop hx hb (show decode code 845 = .ok (.pop, 1) by decide +kernel) rfl ?_
  exact lv_goto (tgt := 1125) hx hb (show decode code 846 = .ok (.goto 279, 3) by decide +kernel) (by decide) (ex ad2 N1 ns1 _ _ T1 R1 I2 H2 locs2 ls S2 wi hl (show cells + 1 + 0 ≤ cells + 32 by omega) (show slots + (8) + 0 + gPt ns1 ≤ slots + gPt ns + 4431 by rw [(show ns1 = ns from q2)]; omega))
set_option maxHeartbeats 4000000 in
set_option maxRecDepth 100000 in
theorem yl_op_when {ad : Nat → Nat} {N ns i cells slots : Nat} {T : Nat → Nat × Nat} {R : Nat → Nat → Option Nat} {I : Nat → Nat → Int} {H : Heap} {locs : List Loc} {ls : Array Slot} (X : lwX p l s m c b L xs D cy) (hi : i + 6 ≤ L) (S : lwS s D cy ad (N, T, R, I) H locs) (w : wInv N T R I ns) (hl : lv_has ls 7 [(4, .int (nI i)), (3, .ref (ad 126)), (2, .ref (ad 102)), (1, .ref (ad 0)), (0, .ref b)]) (hc : cells + 32 ≤ 601024) (hs : slots + gPt ns + 4431 ≤ 7293034)
    (ex : lwEx p l e s m below meth c b D cy Q i cells (slots + gPt ns + 4431)) : W p l e room_1 s m #[Value.ref b] below meth c H locs cells slots Q (F0 m 849 ls []) := by
  have hx := X.1
  have hb := X.2.1
  have h127 := w.2.2.2.2.2.1
  refine lv_aload_n (i := 1) (x := ad 0) hx hb (show decode code 849 = .ok (.aload_n 1, 1) by decide +kernel) rfl (lv_at hl 3 rfl) ?_
  refine yl_arg X S i 1 (by omega) (lv_at hl 4 rfl) (lv_at hl 0 rfl) (by decide +kernel) (by decide +kernel) (by decide +kernel) (by decide +kernel) (by decide +kernel) ?_
  refine yl_callV X (a := 153) (ml := 2) (n := 1) (q := 0) (nq := 10) (ec := 10) (mc := 0) (ms := 0) (T9 := TX10) (N9 := 10) (as := [yi (xs (i + 1)).toInt]) (As := [.int (xs (i + 1))]) (rest := []) (ad := ad) (h := (N, T, R, I)) (K' := fun r0 h' => ∃ (r : Int) (N' : Nat) (T' : Nat → Nat × Nat) (R' : Nat → Nat → Option Nat) (I' : Nat → Nat → Int) (ns' : Nat) (L : Int), r0 = some (yi r) ∧ h' = (N', T', R', I') ∧ cPo N T R I N' T' R' I' ns' L ∧ L = I 1 1 ∧ ns' = ns ∧ cLn I I')
    rfl zm_153 (v_153 w.1 (fun r N' T' R' I' ns' L hc q1 q2 q3 => ⟨r, N', T', R', I', ns', L, rfl, rfl, hc, q1, q2, q3⟩)) rfl (⟨_, _, rfl, yG_r (show 0 < N by omega), _, _, rfl, yG_i _, rfl⟩) (Nat.le_of_ble_eq_true rfl) (show 0 < N by omega) (w.1.2.1 0 rfl) rfl (List.mem_of_getElem? (i := 1118) rfl) (List.mem_of_getElem? (i := 1119) rfl) (List.mem_of_getElem? (i := 1120) rfl) (by decide +kernel) rfl S hl.1 (Nat.zero_le _) (show decode code 856 = .ok (.invokevirtual 121, 3) by decide +kernel) ⟨(show cells + 0 ≤ 601024 by omega), (show slots + (0) ≤ 7293034 by omega)⟩ (fun r h' g => by obtain ⟨r, _, _, _, _, _, _, e, _⟩ := g; exact ⟨r, e⟩) (fun y1 h1 ad1 H1 locs1 hK hA hN S1 => ?_)
  obtain ⟨r1, N1, T1, R1, I1, ns1, L1, er, rfl, hc1, q1, q2, q3⟩ := hK
  have y1e : y1.toInt = r1 := by cases er; rfl
  have e0 : ad1 0 = ad 0 := hA 0 (show 0 < N by omega)
  have e102 : ad1 102 = ad 102 := hA 102 (show 102 < N by omega)
  have e126 : ad1 126 = ad 126 := hA 126 (show 126 < N by omega)
  have nN : N ≤ N1 := hc1.2.1.1
  rw [← e0, ← e102, ← e126] at hl
  refine lv_pop hx hb (show decode code 859 = .ok (.pop, 1) by decide +kernel) rfl ?_
  refine lv_aload_n (i := 2) (x := ad1 102) hx hb (show decode code 860 = .ok (.aload_n 2, 1) by decide +kernel) rfl (lv_at hl 2 rfl) ?_
  refine yl_arg X S1 i 1 (by omega) (lv_at hl 4 rfl) (lv_at hl 0 rfl) (by decide +kernel) (by decide +kernel) (by decide +kernel) (by decide +kernel) (by decide +kernel) ?_
  refine yl_callV X (a := 256) (ml := 2) (n := 1) (q := 102) (nq := 57) (ec := 11) (mc := 0) (ms := 0) (T9 := TX11) (N9 := 57) (as := [yi (xs (i + 1)).toInt]) (As := [.int (xs (i + 1))]) (rest := []) (ad := ad1) (h := (N1, T1, R1, I1)) (K' := fun r0 h' => ∃ (r : Int) (I' : Nat → Nat → Int) (L : Int), r0 = some (yi r) ∧ h' = (N1, T1, R1, I') ∧ uPo I1 I' L ∧ L = I1 102 2 ∧ uLn I1 I')
    rfl zm_256 (v_256 hc1.1.2.1 hc1.1.2.2.1 (show 126 ≤ N1 by omega) (uInv_cg w.2.1 hc1.2.2.1) (fun r I' L hu u1 u2 => ⟨r, I', L, rfl, rfl, hu, u1, u2⟩)) rfl (⟨_, _, rfl, yG_r (show 102 < N1 by omega), _, _, rfl, yG_i _, rfl⟩) (Nat.le_of_ble_eq_true rfl) (show 102 < N1 by omega) (hc1.1.2.1 102 rfl) rfl (List.mem_of_getElem? (i := 1830) rfl) (List.mem_of_getElem? (i := 1831) rfl) (List.mem_of_getElem? (i := 1832) rfl) (by decide +kernel) rfl S1 hl.1 (Nat.zero_le _) (show decode code 867 = .ok (.invokevirtual 124, 3) by decide +kernel) ⟨(show cells + 0 + 0 ≤ 601024 by omega), (show slots + (0) + 0 ≤ 7293034 by omega)⟩ (fun r h' g => by obtain ⟨r, _, _, e, _⟩ := g; exact ⟨r, e⟩) (fun y2 h2 ad2 H2 locs2 hK2 hA2 hN2 S2 => ?_)
  obtain ⟨r2, I2, L2, er2, rfl, hu, u1, u2⟩ := hK2
  have y2e : y2.toInt = r2 := by cases er2; rfl
  have f0 : ad2 0 = ad1 0 := hA2 0 (show 0 < N1 by omega)
  have f102 : ad2 102 = ad1 102 := hA2 102 (show 102 < N1 by omega)
  have f126 : ad2 126 = ad1 126 := hA2 126 (show 126 < N1 by omega)
  rw [← f0, ← f102, ← f126] at hl
  have eL : I1 102 2 = I 102 2 := hc1.2.2.1 102 2 (by decide) (by decide)
  have eW := w.2.2.1.1
  have wi : wInv N1 T1 R1 I2 ns1 := w_cu w hc1 hu (by omega) (fun j a b => absurd (show (j : Int) < I 1 1 by omega) b) (w_nk w hc1 q3.1 hu ⟨u2.1.1, fun j _ => u2.1.2 j⟩) (by rw [hu.2.1 1 10 (.inl (by decide)), q3.2, u2.2, hc1.2.2.1 102 15 (by decide) (by decide)]; exact w.2.2.2.2.2.2)
  refine lv_pop hx hb (show decode code 870 = .ok (.pop, 1) by decide +kernel) rfl ?_
  exact lv_goto (tgt := 1125) hx hb (show decode code 871 = .ok (.goto 254, 3) by decide +kernel) (by decide) (ex ad2 N1 ns1 _ _ T1 R1 I2 H2 locs2 ls S2 wi hl (show cells + 0 + 0 ≤ cells + 32 by omega) (show slots + (0) + 0 + gPt ns1 ≤ slots + gPt ns + 4431 by rw [(show ns1 = ns from q2)]; omega))
end Yo
