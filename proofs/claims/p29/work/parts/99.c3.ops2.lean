/-! THE LAW's calls, 3 (printed by wip/whole/y/gen200.py) -/
section Yo
variable {p : Program} {l : Launch} {e : Env} {s : State} {m : MethodId} {below : List Frame} {meth : Method} {c : Code} {b L : Nat} {xs : Nat → Int32} {D : va_G} {cy : Nat → ClassId} {Q : State → Prop}
set_option maxHeartbeats 4000000 in
set_option maxRecDepth 100000 in
theorem yl_op_latest {ad : Nat → Nat} {N ns i cells slots : Nat} {T : Nat → Nat × Nat} {R : Nat → Nat → Option Nat} {I : Nat → Nat → Int} {H : Heap} {locs : List Loc} {ls : Array Slot} (X : lwX p l s m c b L xs D cy) (hi : i + 6 ≤ L) (S : lwS s D cy ad (N, T, R, I) H locs) (w : wInv N T R I ns) (hl : lv_has ls 7 [(4, .int (nI i)), (3, .ref (ad 126)), (2, .ref (ad 102)), (1, .ref (ad 0)), (0, .ref b)]) (hc : cells + 32 ≤ 601024) (hs : slots + gPt ns + 4431 ≤ 7293034)
    (ex : lwEx p l e s m below meth c b D cy Q i cells (slots + gPt ns + 4431)) : W p l e room_1 s m #[Value.ref b] below meth c H locs cells slots Q (F0 m 874 ls []) := by
  have hx := X.1
  have hb := X.2.1
  have h127 := w.2.2.2.2.2.1
  refine lv_aload_n (i := 1) (x := ad 0) hx hb (show decode code 874 = .ok (.aload_n 1, 1) by decide +kernel) rfl (lv_at hl 3 rfl) ?_
  refine yl_callV X (a := 132) (ml := 3) (n := 0) (q := 0) (nq := 10) (ec := 10) (mc := 0) (ms := 0) (T9 := TX10) (N9 := 10) (as := []) (As := []) (rest := []) (ad := ad) (h := (N, T, R, I)) (K' := fun r0 h' => ∃ (r : Int) (N' : Nat) (T' : Nat → Nat × Nat) (R' : Nat → Nat → Option Nat) (I' : Nat → Nat → Int) (ns' : Nat) (L : Int), r0 = some (yi r) ∧ h' = (N', T', R', I') ∧ cPo N T R I N' T' R' I' ns' L ∧ L = I 1 1 ∧ ns' = ns ∧ cLn I I')
    rfl zm_132 (v_132 w.1 (fun r N' T' R' I' ns' L hc q1 q2 q3 => ⟨r, N', T', R', I', ns', L, rfl, rfl, hc, q1, q2, q3⟩)) rfl (⟨_, _, rfl, yG_r (show 0 < N by omega), rfl⟩) (Nat.le_of_ble_eq_true rfl) (show 0 < N by omega) (w.1.2.1 0 rfl) rfl (List.mem_of_getElem? (i := 1122) rfl) (List.mem_of_getElem? (i := 1123) rfl) (List.mem_of_getElem? (i := 1124) rfl) (by decide +kernel) rfl S hl.1 (Nat.zero_le _) (show decode code 875 = .ok (.invokevirtual 125, 3) by decide +kernel) ⟨(show cells + 0 ≤ 601024 by omega), (show slots + (0) ≤ 7293034 by omega)⟩ (fun r h' g => by obtain ⟨r, _, _, _, _, _, _, e, _⟩ := g; exact ⟨r, e⟩) (fun y1 h1 ad1 H1 locs1 hK hA hN S1 => ?_)
  obtain ⟨r1, N1, T1, R1, I1, ns1, L1, er, rfl, hc1, q1, q2, q3⟩ := hK
  have y1e : y1.toInt = r1 := by cases er; rfl
  have e0 : ad1 0 = ad 0 := hA 0 (show 0 < N by omega)
  have e102 : ad1 102 = ad 102 := hA 102 (show 102 < N by omega)
  have e126 : ad1 126 = ad 126 := hA 126 (show 126 < N by omega)
  have nN : N ≤ N1 := hc1.2.1.1
  rw [← e0, ← e102, ← e126] at hl
  refine lv_pop hx hb (show decode code 878 = .ok (.pop, 1) by decide +kernel) rfl ?_
  refine lv_aload_n (i := 2) (x := ad1 102) hx hb (show decode code 879 = .ok (.aload_n 2, 1) by decide +kernel) rfl (lv_at hl 2 rfl) ?_
  refine yl_callV X (a := 208) (ml := 3) (n := 0) (q := 102) (nq := 57) (ec := 11) (mc := 0) (ms := 0) (T9 := TX11) (N9 := 57) (as := []) (As := []) (rest := []) (ad := ad1) (h := (N1, T1, R1, I1)) (K' := fun r0 h' => ∃ (r : Int) (I' : Nat → Nat → Int) (L : Int), r0 = some (yi r) ∧ h' = (N1, T1, R1, I') ∧ uPo I1 I' L ∧ L = I1 102 2 ∧ uLn I1 I')
    rfl zm_208 (v_208 hc1.1.2.1 hc1.1.2.2.1 (show 126 ≤ N1 by omega) (uInv_cg w.2.1 hc1.2.2.1) (fun r I' L hu u1 u2 => ⟨r, I', L, rfl, rfl, hu, u1, u2⟩)) rfl (⟨_, _, rfl, yG_r (show 102 < N1 by omega), rfl⟩) (Nat.le_of_ble_eq_true rfl) (show 102 < N1 by omega) (hc1.1.2.1 102 rfl) rfl (List.mem_of_getElem? (i := 1850) rfl) (List.mem_of_getElem? (i := 1851) rfl) (List.mem_of_getElem? (i := 1852) rfl) (by decide +kernel) rfl S1 hl.1 (Nat.zero_le _) (show decode code 880 = .ok (.invokevirtual 128, 3) by decide +kernel) ⟨(show cells + 0 + 0 ≤ 601024 by omega), (show slots + (0) + 0 ≤ 7293034 by omega)⟩ (fun r h' g => by obtain ⟨r, _, _, e, _⟩ := g; exact ⟨r, e⟩) (fun y2 h2 ad2 H2 locs2 hK2 hA2 hN2 S2 => ?_)
  obtain ⟨r2, I2, L2, er2, rfl, hu, u1, u2⟩ := hK2
  have y2e : y2.toInt = r2 := by cases er2; rfl
  have f0 : ad2 0 = ad1 0 := hA2 0 (show 0 < N1 by omega)
  have f102 : ad2 102 = ad1 102 := hA2 102 (show 102 < N1 by omega)
  have f126 : ad2 126 = ad1 126 := hA2 126 (show 126 < N1 by omega)
  rw [← f0, ← f102, ← f126] at hl
  have eL : I1 102 2 = I 102 2 := hc1.2.2.1 102 2 (by decide) (by decide)
  have eW := w.2.2.1.1
  have wi : wInv N1 T1 R1 I2 ns1 := w_cu w hc1 hu (by omega) (fun j a b => absurd (show (j : Int) < I 1 1 by omega) b) (w_nk w hc1 q3.1 hu ⟨u2.1.1, fun j _ => u2.1.2 j⟩) (by rw [hu.2.1 1 10 (.inl (by decide)), q3.2, u2.2, hc1.2.2.1 102 15 (by decide) (by decide)]; exact w.2.2.2.2.2.2)
  refine lv_pop hx hb (show decode code 883 = .ok (.pop, 1) by decide +kernel) rfl ?_
  exact lv_goto (tgt := 1125) hx hb (show decode code 884 = .ok (.goto 241, 3) by decide +kernel) (by decide) (ex ad2 N1 ns1 _ _ T1 R1 I2 H2 locs2 ls S2 wi hl (show cells + 0 + 0 ≤ cells + 32 by omega) (show slots + (0) + 0 + gPt ns1 ≤ slots + gPt ns + 4431 by rw [(show ns1 = ns from q2)]; omega))
set_option maxHeartbeats 4000000 in
set_option maxRecDepth 100000 in
theorem yl_op_drawn {ad : Nat → Nat} {N ns i cells slots : Nat} {T : Nat → Nat × Nat} {R : Nat → Nat → Option Nat} {I : Nat → Nat → Int} {H : Heap} {locs : List Loc} {ls : Array Slot} (X : lwX p l s m c b L xs D cy) (hi : i + 6 ≤ L) (S : lwS s D cy ad (N, T, R, I) H locs) (w : wInv N T R I ns) (hl : lv_has ls 7 [(4, .int (nI i)), (3, .ref (ad 126)), (2, .ref (ad 102)), (1, .ref (ad 0)), (0, .ref b)]) (hc : cells + 32 ≤ 601024) (hs : slots + gPt ns + 4431 ≤ 7293034)
    (ex : lwEx p l e s m below meth c b D cy Q i cells (slots + gPt ns + 4431)) : W p l e room_1 s m #[Value.ref b] below meth c H locs cells slots Q (F0 m 887 ls []) := by
  have hx := X.1
  have hb := X.2.1
  have h127 := w.2.2.2.2.2.1
  refine lv_aload_n (i := 1) (x := ad 0) hx hb (show decode code 887 = .ok (.aload_n 1, 1) by decide +kernel) rfl (lv_at hl 3 rfl) ?_
  refine yl_arg X S i 1 (by omega) (lv_at hl 4 rfl) (lv_at hl 0 rfl) (by decide +kernel) (by decide +kernel) (by decide +kernel) (by decide +kernel) (by decide +kernel) ?_
  refine yl_callV X (a := 119) (ml := 2) (n := 1) (q := 0) (nq := 10) (ec := 10) (mc := 13) (ms := 494) (T9 := TX10) (N9 := 10) (as := [yi (xs (i + 1)).toInt]) (As := [.int (xs (i + 1))]) (rest := []) (ad := ad) (h := (N, T, R, I)) (K' := fun r0 h' => ∃ (r : Int) (N' : Nat) (T' : Nat → Nat × Nat) (R' : Nat → Nat → Option Nat) (I' : Nat → Nat → Int) (ns' : Nat) (L : Int), r0 = some (yi r) ∧ h' = (N', T', R', I') ∧ cPo N T R I N' T' R' I' ns' L ∧ L = I 1 1 ∧ ns' = ns ∧ cLn I I')
    rfl zm_119 (v_119 w.1 (Nat.le_refl _) (Nat.le_refl _) (fun r N' T' R' I' ns' L hc q1 q2 q3 => ⟨r, N', T', R', I', ns', L, rfl, rfl, hc, q1, q2, q3⟩)) rfl (⟨_, _, rfl, yG_r (show 0 < N by omega), _, _, rfl, yG_i _, rfl⟩) (Nat.le_of_ble_eq_true rfl) (show 0 < N by omega) (w.1.2.1 0 rfl) rfl (List.mem_of_getElem? (i := 1126) rfl) (List.mem_of_getElem? (i := 1127) rfl) (List.mem_of_getElem? (i := 1128) rfl) (by decide +kernel) rfl S hl.1 (Nat.zero_le _) (show decode code 894 = .ok (.invokevirtual 129, 3) by decide +kernel) ⟨(show cells + 13 ≤ 601024 by omega), (show slots + (494) ≤ 7293034 by omega)⟩ (fun r h' g => by obtain ⟨r, _, _, _, _, _, _, e, _⟩ := g; exact ⟨r, e⟩) (fun y1 h1 ad1 H1 locs1 hK hA hN S1 => ?_)
  obtain ⟨r1, N1, T1, R1, I1, ns1, L1, er, rfl, hc1, q1, q2, q3⟩ := hK
  have y1e : y1.toInt = r1 := by cases er; rfl
  have e0 : ad1 0 = ad 0 := hA 0 (show 0 < N by omega)
  have e102 : ad1 102 = ad 102 := hA 102 (show 102 < N by omega)
  have e126 : ad1 126 = ad 126 := hA 126 (show 126 < N by omega)
  have nN : N ≤ N1 := hc1.2.1.1
  rw [← e0, ← e102, ← e126] at hl
  refine lv_pop hx hb (show decode code 897 = .ok (.pop, 1) by decide +kernel) rfl ?_
  refine lv_aload_n (i := 2) (x := ad1 102) hx hb (show decode code 898 = .ok (.aload_n 2, 1) by decide +kernel) rfl (lv_at hl 2 rfl) ?_
  refine yl_arg X S1 i 1 (by omega) (lv_at hl 4 rfl) (lv_at hl 0 rfl) (by decide +kernel) (by decide +kernel) (by decide +kernel) (by decide +kernel) (by decide +kernel) ?_
  refine yl_callV X (a := 175) (ml := 2) (n := 1) (q := 102) (nq := 57) (ec := 11) (mc := 0) (ms := 0) (T9 := TX11) (N9 := 57) (as := [yi (xs (i + 1)).toInt]) (As := [.int (xs (i + 1))]) (rest := []) (ad := ad1) (h := (N1, T1, R1, I1)) (K' := fun r0 h' => ∃ (r : Int) (I' : Nat → Nat → Int) (L : Int), r0 = some (yi r) ∧ h' = (N1, T1, R1, I') ∧ uPo I1 I' L ∧ L = I1 102 2 ∧ uLn I1 I')
    rfl zm_175 (v_175 hc1.1.2.1 hc1.1.2.2.1 (show 126 ≤ N1 by omega) (uInv_cg w.2.1 hc1.2.2.1) (fun r I' L hu u1 u2 => ⟨r, I', L, rfl, rfl, hu, u1, u2⟩)) rfl (⟨_, _, rfl, yG_r (show 102 < N1 by omega), _, _, rfl, yG_i _, rfl⟩) (Nat.le_of_ble_eq_true rfl) (show 102 < N1 by omega) (hc1.1.2.1 102 rfl) rfl (List.mem_of_getElem? (i := 1854) rfl) (List.mem_of_getElem? (i := 1855) rfl) (List.mem_of_getElem? (i := 1856) rfl) (by decide +kernel) rfl S1 hl.1 (Nat.zero_le _) (show decode code 905 = .ok (.invokevirtual 132, 3) by decide +kernel) ⟨(show cells + 13 + 0 ≤ 601024 by omega), (show slots + (494) + 0 ≤ 7293034 by omega)⟩ (fun r h' g => by obtain ⟨r, _, _, e, _⟩ := g; exact ⟨r, e⟩) (fun y2 h2 ad2 H2 locs2 hK2 hA2 hN2 S2 => ?_)
  obtain ⟨r2, I2, L2, er2, rfl, hu, u1, u2⟩ := hK2
  have y2e : y2.toInt = r2 := by cases er2; rfl
  have f0 : ad2 0 = ad1 0 := hA2 0 (show 0 < N1 by omega)
  have f102 : ad2 102 = ad1 102 := hA2 102 (show 102 < N1 by omega)
  have f126 : ad2 126 = ad1 126 := hA2 126 (show 126 < N1 by omega)
  rw [← f0, ← f102, ← f126] at hl
  have eL : I1 102 2 = I 102 2 := hc1.2.2.1 102 2 (by decide) (by decide)
  have eW := w.2.2.1.1
  have wi : wInv N1 T1 R1 I2 ns1 := w_cu w hc1 hu (by omega) (fun j a b => absurd (show (j : Int) < I 1 1 by omega) b) (w_nk w hc1 q3.1 hu ⟨u2.1.1, fun j _ => u2.1.2 j⟩) (by rw [hu.2.1 1 10 (.inl (by decide)), q3.2, u2.2, hc1.2.2.1 102 15 (by decide) (by decide)]; exact w.2.2.2.2.2.2)
  refine lv_pop hx hb (show decode code 908 = .ok (.pop, 1) by decide +kernel) rfl ?_
  exact lv_goto (tgt := 1125) hx hb (show decode code 909 = .ok (.goto 216, 3) by decide +kernel) (by decide) (ex ad2 N1 ns1 _ _ T1 R1 I2 H2 locs2 ls S2 wi hl (show cells + 13 + 0 ≤ cells + 32 by omega) (show slots + (494) + 0 + gPt ns1 ≤ slots + gPt ns + 4431 by rw [(show ns1 = ns from q2)]; omega))
set_option maxHeartbeats 4000000 in
set_option maxRecDepth 100000 in
theorem yl_op_odds {ad : Nat → Nat} {N ns i cells slots : Nat} {T : Nat → Nat × Nat} {R : Nat → Nat → Option Nat} {I : Nat → Nat → Int} {H : Heap} {locs : List Loc} {ls : Array Slot} (X : lwX p l s m c b L xs D cy) (hi : i + 6 ≤ L) (S : lwS s D cy ad (N, T, R, I) H locs) (w : wInv N T R I ns) (hl : lv_has ls 7 [(4, .int (nI i)), (3, .ref (ad 126)), (2, .ref (ad 102)), (1, .ref (ad 0)), (0, .ref b)]) (hc : cells + 32 ≤ 601024) (hs : slots + gPt ns + 4431 ≤ 7293034)
    (ex : lwEx p l e s m below meth c b D cy Q i cells (slots + gPt ns + 4431)) : W p l e room_1 s m #[Value.ref b] below meth c H locs cells slots Q (F0 m 912 ls []) := by
  have hx := X.1
  have hb := X.2.1
  have h127 := w.2.2.2.2.2.1
  refine lv_aload_n (i := 1) (x := ad 0) hx hb (show decode code 912 = .ok (.aload_n 1, 1) by decide +kernel) rfl (lv_at hl 3 rfl) ?_
  refine yl_arg X S i 1 (by omega) (lv_at hl 4 rfl) (lv_at hl 0 rfl) (by decide +kernel) (by decide +kernel) (by decide +kernel) (by decide +kernel) (by decide +kernel) ?_
  refine yl_arg X S i 2 (by omega) (lv_at hl 4 rfl) (lv_at hl 0 rfl) (by decide +kernel) (by decide +kernel) (by decide +kernel) (by decide +kernel) (by decide +kernel) ?_
  refine yl_callV X (a := 139) (ml := 5) (n := 2) (q := 0) (nq := 10) (ec := 10) (mc := 0) (ms := 0) (T9 := TX10) (N9 := 10) (as := [yi (xs (i + 1)).toInt, yi (xs (i + 2)).toInt]) (As := [.int (xs (i + 1)), .int (xs (i + 2))]) (rest := []) (ad := ad) (h := (N, T, R, I)) (K' := fun r0 h' => ∃ (r : Int) (N' : Nat) (T' : Nat → Nat × Nat) (R' : Nat → Nat → Option Nat) (I' : Nat → Nat → Int) (ns' : Nat) (L : Int), r0 = some (yi r) ∧ h' = (N', T', R', I') ∧ cPo N T R I N' T' R' I' ns' L ∧ L = I 1 1 ∧ ns' = ns ∧ cLn I I')
    rfl zm_139 (v_139 w.1 (fun r N' T' R' I' ns' L hc q1 q2 q3 => ⟨r, N', T', R', I', ns', L, rfl, rfl, hc, q1, q2, q3⟩)) rfl (⟨_, _, rfl, yG_r (show 0 < N by omega), _, _, rfl, yG_i _, _, _, rfl, yG_i _, rfl⟩) (Nat.le_of_ble_eq_true rfl) (show 0 < N by omega) (w.1.2.1 0 rfl) rfl (List.mem_of_getElem? (i := 1136) rfl) (List.mem_of_getElem? (i := 1137) rfl) (List.mem_of_getElem? (i := 1138) rfl) (by decide +kernel) rfl S hl.1 (Nat.zero_le _) (show decode code 925 = .ok (.invokevirtual 133, 3) by decide +kernel) ⟨(show cells + 0 ≤ 601024 by omega), (show slots + (0) ≤ 7293034 by omega)⟩ (fun r h' g => by obtain ⟨r, _, _, _, _, _, _, e, _⟩ := g; exact ⟨r, e⟩) (fun y1 h1 ad1 H1 locs1 hK hA hN S1 => ?_)
  obtain ⟨r1, N1, T1, R1, I1, ns1, L1, er, rfl, hc1, q1, q2, q3⟩ := hK
  have y1e : y1.toInt = r1 := by cases er; rfl
  have e0 : ad1 0 = ad 0 := hA 0 (show 0 < N by omega)
  have e102 : ad1 102 = ad 102 := hA 102 (show 102 < N by omega)
  have e126 : ad1 126 = ad 126 := hA 126 (show 126 < N by omega)
  have nN : N ≤ N1 := hc1.2.1.1
  rw [← e0, ← e102, ← e126] at hl
  refine lv_pop hx hb (show decode code 928 = .ok (.pop, 1) by decide +kernel) rfl ?_
  refine lv_aload_n (i := 2) (x := ad1 102) hx hb (show decode code 929 = .ok (.aload_n 2, 1) by decide +kernel) rfl (lv_at hl 2 rfl) ?_
  refine yl_arg X S1 i 1 (by omega) (lv_at hl 4 rfl) (lv_at hl 0 rfl) (by decide +kernel) (by decide +kernel) (by decide +kernel) (by decide +kernel) (by decide +kernel) ?_
  refine yl_arg X S1 i 2 (by omega) (lv_at hl 4 rfl) (lv_at hl 0 rfl) (by decide +kernel) (by decide +kernel) (by decide +kernel) (by decide +kernel) (by decide +kernel) ?_
  refine yl_callV X (a := 219) (ml := 5) (n := 2) (q := 102) (nq := 57) (ec := 11) (mc := 0) (ms := 0) (T9 := TX11) (N9 := 57) (as := [yi (xs (i + 1)).toInt, yi (xs (i + 2)).toInt]) (As := [.int (xs (i + 1)), .int (xs (i + 2))]) (rest := []) (ad := ad1) (h := (N1, T1, R1, I1)) (K' := fun r0 h' => ∃ (r : Int) (I' : Nat → Nat → Int) (L : Int), r0 = some (yi r) ∧ h' = (N1, T1, R1, I') ∧ uPo I1 I' L ∧ L = I1 102 2 ∧ uLn I1 I')
    rfl zm_219 (v_219 hc1.1.2.1 hc1.1.2.2.1 (show 126 ≤ N1 by omega) (uInv_cg w.2.1 hc1.2.2.1) (fun r I' L hu u1 u2 => ⟨r, I', L, rfl, rfl, hu, u1, u2⟩)) rfl (⟨_, _, rfl, yG_r (show 102 < N1 by omega), _, _, rfl, yG_i _, _, _, rfl, yG_i _, rfl⟩) (Nat.le_of_ble_eq_true rfl) (show 102 < N1 by omega) (hc1.1.2.1 102 rfl) rfl (List.mem_of_getElem? (i := 1867) rfl) (List.mem_of_getElem? (i := 1868) rfl) (List.mem_of_getElem? (i := 1869) rfl) (by decide +kernel) rfl S1 hl.1 (Nat.zero_le _) (show decode code 942 = .ok (.invokevirtual 136, 3) by decide +kernel) ⟨(show cells + 0 + 0 ≤ 601024 by omega), (show slots + (0) + 0 ≤ 7293034 by omega)⟩ (fun r h' g => by obtain ⟨r, _, _, e, _⟩ := g; exact ⟨r, e⟩) (fun y2 h2 ad2 H2 locs2 hK2 hA2 hN2 S2 => ?_)
  obtain ⟨r2, I2, L2, er2, rfl, hu, u1, u2⟩ := hK2
  have y2e : y2.toInt = r2 := by cases er2; rfl
  have f0 : ad2 0 = ad1 0 := hA2 0 (show 0 < N1 by omega)
  have f102 : ad2 102 = ad1 102 := hA2 102 (show 102 < N1 by omega)
  have f126 : ad2 126 = ad1 126 := hA2 126 (show 126 < N1 by omega)
  rw [← f0, ← f102, ← f126] at hl
  have eL : I1 102 2 = I 102 2 := hc1.2.2.1 102 2 (by decide) (by decide)
  have eW := w.2.2.1.1
  have wi : wInv N1 T1 R1 I2 ns1 := w_cu w hc1 hu (by omega) (fun j a b => absurd (show (j : Int) < I 1 1 by omega) b) (w_nk w hc1 q3.1 hu ⟨u2.1.1, fun j _ => u2.1.2 j⟩) (by rw [hu.2.1 1 10 (.inl (by decide)), q3.2, u2.2, hc1.2.2.1 102 15 (by decide) (by decide)]; exact w.2.2.2.2.2.2)
  refine lv_pop hx hb (show decode code 945 = .ok (.pop, 1) by decide +kernel) rfl ?_
  exact lv_goto (tgt := 1125) hx hb (show decode code 946 = .ok (.goto 179, 3) by decide +kernel) (by decide) (ex ad2 N1 ns1 _ _ T1 R1 I2 H2 locs2 ls S2 wi hl (show cells + 0 + 0 ≤ cells + 32 by omega) (show slots + (0) + 0 + gPt ns1 ≤ slots + gPt ns + 4431 by rw [(show ns1 = ns from q2)]; omega))
set_option maxHeartbeats 4000000 in
set_option maxRecDepth 100000 in
theorem yl_op_plan {ad : Nat → Nat} {N ns i cells slots : Nat} {T : Nat → Nat × Nat} {R : Nat → Nat → Option Nat} {I : Nat → Nat → Int} {H : Heap} {locs : List Loc} {ls : Array Slot} (X : lwX p l s m c b L xs D cy) (hi : i + 6 ≤ L) (S : lwS s D cy ad (N, T, R, I) H locs) (w : wInv N T R I ns) (hl : lv_has ls 7 [(4, .int (nI i)), (3, .ref (ad 126)), (2, .ref (ad 102)), (1, .ref (ad 0)), (0, .ref b)]) (hc : cells + 32 ≤ 601024) (hs : slots + gPt ns + 4431 ≤ 7293034)
    (ex : lwEx p l e s m below meth c b D cy Q i cells (slots + gPt ns + 4431)) : W p l e room_1 s m #[Value.ref b] below meth c H locs cells slots Q (F0 m 949 ls []) := by
  have hx := X.1
  have hb := X.2.1
  have h127 := w.2.2.2.2.2.1
  refine lv_aload_n (i := 1) (x := ad 0) hx hb (show decode code 949 = .ok (.aload_n 1, 1) by decide +kernel) rfl (lv_at hl 3 rfl) ?_
  refine yl_callV X (a := 143) (ml := 1) (n := 0) (q := 0) (nq := 10) (ec := 10) (mc := 0) (ms := 0) (T9 := TX10) (N9 := 10) (as := []) (As := []) (rest := []) (ad := ad) (h := (N, T, R, I)) (K' := fun r0 h' => ∃ (r : Int) (N' : Nat) (T' : Nat → Nat × Nat) (R' : Nat → Nat → Option Nat) (I' : Nat → Nat → Int) (ns' : Nat) (L : Int), r0 = some (yi r) ∧ h' = (N', T', R', I') ∧ cPo N T R I N' T' R' I' ns' L ∧ L = 0 ∧ ns' = ns ∧ cLm I I' ∧ r = kAnsP (zPl' (I 2) (I 1 1).toNat (I 104 2).toNat (fun q => I 107 (0 + q))) ∧ I' 1 10 = kFc (zPl' (I 2) (I 1 1).toNat (I 104 2).toNat (fun q => I 107 (0 + q))))
    rfl zm_143 (v_143x w.1 (nmE_nm w.2.2.1.2.2.2.2.1).1 (fun r N' T' R' I' ns' L hc q1 q2 q3 q4 q5 => ⟨r, N', T', R', I', ns', L, rfl, rfl, hc, q1, q2, q3, q4, q5⟩)) rfl (⟨_, _, rfl, yG_r (show 0 < N by omega), rfl⟩) (Nat.le_of_ble_eq_true rfl) (show 0 < N by omega) (w.1.2.1 0 rfl) rfl (List.mem_of_getElem? (i := 1140) rfl) (List.mem_of_getElem? (i := 1141) rfl) (List.mem_of_getElem? (i := 1142) rfl) (by decide +kernel) rfl S hl.1 (Nat.zero_le _) (show decode code 950 = .ok (.invokevirtual 137, 3) by decide +kernel) ⟨(show cells + 0 ≤ 601024 by omega), (show slots + (0) ≤ 7293034 by omega)⟩ (fun r h' g => by obtain ⟨r, _, _, _, _, _, _, e, _⟩ := g; exact ⟨r, e⟩) (fun y1 h1 ad1 H1 locs1 hK hA hN S1 => ?_)
  obtain ⟨r1, N1, T1, R1, I1, ns1, L1, er, rfl, hc1, q1, q2, q3, q4, q5⟩ := hK
  have y1e : y1.toInt = r1 := by cases er; rfl
  have e0 : ad1 0 = ad 0 := hA 0 (show 0 < N by omega)
  have e102 : ad1 102 = ad 102 := hA 102 (show 102 < N by omega)
  have e126 : ad1 126 = ad 126 := hA 126 (show 126 < N by omega)
  have nN : N ≤ N1 := hc1.2.1.1
  rw [← e0, ← e102, ← e126] at hl
  refine lv_aload_n (i := 2) (x := ad1 102) hx hb (show decode code 953 = .ok (.aload_n 2, 1) by decide +kernel) rfl (lv_at hl 2 rfl) ?_
  refine yl_callV X (a := 227) (ml := 4) (n := 0) (q := 102) (nq := 57) (ec := 11) (mc := 0) (ms := 0) (T9 := TX11) (N9 := 57) (as := []) (As := []) (rest := [.int y1]) (ad := ad1) (h := (N1, T1, R1, I1)) (K' := fun r0 h' => ∃ (r : Int) (I' : Nat → Nat → Int) (L : Int), r0 = some (yi r) ∧ h' = (N1, T1, R1, I') ∧ uPo I1 I' L ∧ L = 0 ∧ uLm I1 I' ∧ r = kAnsP (zPl' (I1 103) (I1 102 2).toNat (I 104 2).toNat (fun q => I 107 (0 + q))) ∧ I' 102 15 = kFc (zPl' (I1 103) (I1 102 2).toNat (I 104 2).toNat (fun q => I 107 (0 + q))))
    rfl zm_227 (v_227x hc1.1.2.1 hc1.1.2.2.1 (show 126 ≤ N1 by omega) (uInv_cg w.2.1 hc1.2.2.1) (fun j hj => by rw [hc1.2.2.1 103 j (by decide) (by decide)]; exact (w.2.2.1.2.1 j (by rw [← hc1.2.2.1 102 2 (by decide) (by decide)]; exact hj)).2) (fun k hk => by rw [hc1.2.2.1 108 k (by decide) (by decide)]; exact w.2.2.1.2.2.1 k hk) (ch := (I 104 2).toNat) (nm := fun q => I 107 (0 + q)) (by have g := w.2.2.1.2.2.2.2.1.1; rw [hc1.2.2.1 104 2 (by decide) (by decide)]; omega) ⟨(nmE_nm w.2.2.1.2.2.2.2.1).2.1, fun q hq => by rw [hc1.2.2.1 107 (0 + q) (by decide) (by decide)]; exact (nmE_nm w.2.2.1.2.2.2.2.1).2.2 q hq⟩ (fun r I' L hu u1 u2 u3 u4 => ⟨r, I', L, rfl, rfl, hu, u1, u2, u3, u4⟩)) rfl (⟨_, _, rfl, yG_r (show 102 < N1 by omega), rfl⟩) (Nat.le_of_ble_eq_true rfl) (show 102 < N1 by omega) (hc1.1.2.1 102 rfl) rfl (List.mem_of_getElem? (i := 1871) rfl) (List.mem_of_getElem? (i := 1872) rfl) (List.mem_of_getElem? (i := 1873) rfl) (by decide +kernel) rfl S1 hl.1 (Nat.le_of_ble_eq_true rfl) (show decode code 954 = .ok (.invokevirtual 140, 3) by decide +kernel) ⟨(show cells + 0 + 0 ≤ 601024 by omega), (show slots + (0) + 0 ≤ 7293034 by omega)⟩ (fun r h' g => by obtain ⟨r, _, _, e, _⟩ := g; exact ⟨r, e⟩) (fun y2 h2 ad2 H2 locs2 hK2 hA2 hN2 S2 => ?_)
  obtain ⟨r2, I2, L2, er2, rfl, hu, u1, u2, u3, u4⟩ := hK2
  have y2e : y2.toInt = r2 := by cases er2; rfl
  have f0 : ad2 0 = ad1 0 := hA2 0 (show 0 < N1 by omega)
  have f102 : ad2 102 = ad1 102 := hA2 102 (show 102 < N1 by omega)
  have f126 : ad2 126 = ad1 126 := hA2 126 (show 126 < N1 by omega)
  rw [← f0, ← f102, ← f126] at hl
  have eL : I1 102 2 = I 102 2 := hc1.2.2.1 102 2 (by decide) (by decide)
  have eW := w.2.2.1.1
  have wi : wInv N1 T1 R1 I2 ns1 := w_cu w hc1 hu (by omega) (fun j a b => absurd (show (j : Int) < I 1 1 by omega) b) (w_nk w hc1 q3 hu ⟨u2.1, fun j _ => u2.2 j⟩) (by rw [hu.2.1 1 10 (.inl (by decide)), q5, u4, eL, eW, zPl_cg (n := (I 102 2).toNat) (t := I 2) (t' := I1 103) (fun j hj => by rw [hc1.2.2.1 103 j (by decide) (by decide)]; exact (w.2.2.1.2.1 j (by omega)).1)])
  have ey : y1 = y2 := Int32.toInt_inj.mp (by rw [y1e, y2e, q4, u3, eL, eW, zPl_cg (n := (I 102 2).toNat) (t := I 2) (t' := I1 103) (fun j hj => by rw [hc1.2.2.1 103 j (by decide) (by decide)]; exact (w.2.2.1.2.1 j (by omega)).1)])
  exact lv_icmp_eq (tgt := 1125) hx hb (show decode code 957 = .ok (.if_icmp .eq 168, 3) by decide +kernel) (by decide) (fun _ => ex ad2 N1 ns1 _ _ T1 R1 I2 H2 locs2 ls S2 wi hl (show cells + 0 + 0 ≤ cells + 32 by omega) (show slots + (0) + 0 + gPt ns1 ≤ slots + gPt ns + 4431 by rw [(show ns1 = ns from q2)]; omega)) (fun q => absurd ey q)
set_option maxHeartbeats 4000000 in
set_option maxRecDepth 100000 in
theorem yl_op_judge {ad : Nat → Nat} {N ns i cells slots : Nat} {T : Nat → Nat × Nat} {R : Nat → Nat → Option Nat} {I : Nat → Nat → Int} {H : Heap} {locs : List Loc} {ls : Array Slot} (X : lwX p l s m c b L xs D cy) (hi : i + 6 ≤ L) (S : lwS s D cy ad (N, T, R, I) H locs) (w : wInv N T R I ns) (hl : lv_has ls 7 [(4, .int (nI i)), (3, .ref (ad 126)), (2, .ref (ad 102)), (1, .ref (ad 0)), (0, .ref b)]) (hc : cells + 32 ≤ 601024) (hs : slots + gPt ns + 4431 ≤ 7293034)
    (ex : lwEx p l e s m below meth c b D cy Q i cells (slots + gPt ns + 4431)) : W p l e room_1 s m #[Value.ref b] below meth c H locs cells slots Q (F0 m 962 ls []) := by
  have hx := X.1
  have hb := X.2.1
  have h127 := w.2.2.2.2.2.1
  refine lv_aload_n (i := 1) (x := ad 0) hx hb (show decode code 962 = .ok (.aload_n 1, 1) by decide +kernel) rfl (lv_at hl 3 rfl) ?_
  refine yl_arg X S i 1 (by omega) (lv_at hl 4 rfl) (lv_at hl 0 rfl) (by decide +kernel) (by decide +kernel) (by decide +kernel) (by decide +kernel) (by decide +kernel) ?_
  refine yl_callV X (a := 128) (ml := 5) (n := 1) (q := 0) (nq := 10) (ec := 10) (mc := 13) (ms := 494) (T9 := TX10) (N9 := 10) (as := [yi (xs (i + 1)).toInt]) (As := [.int (xs (i + 1))]) (rest := []) (ad := ad) (h := (N, T, R, I)) (K' := fun r0 h' => ∃ (r : Int) (N' : Nat) (T' : Nat → Nat × Nat) (R' : Nat → Nat → Option Nat) (I' : Nat → Nat → Int) (ns' : Nat) (L : Int), r0 = some (yi r) ∧ h' = (N', T', R', I') ∧ cPo N T R I N' T' R' I' ns' L ∧ L = I 1 1 ∧ ns' = ns ∧ cLn I I')
    rfl zm_128 (v_128 w.1 (Nat.le_refl _) (Nat.le_refl _) (fun r N' T' R' I' ns' L hc q1 q2 q3 => ⟨r, N', T', R', I', ns', L, rfl, rfl, hc, q1, q2, q3⟩)) rfl (⟨_, _, rfl, yG_r (show 0 < N by omega), _, _, rfl, yG_i _, rfl⟩) (Nat.le_of_ble_eq_true rfl) (show 0 < N by omega) (w.1.2.1 0 rfl) rfl (List.mem_of_getElem? (i := 1163) rfl) (List.mem_of_getElem? (i := 1164) rfl) (List.mem_of_getElem? (i := 1165) rfl) (by decide +kernel) rfl S hl.1 (Nat.zero_le _) (show decode code 969 = .ok (.invokevirtual 141, 3) by decide +kernel) ⟨(show cells + 13 ≤ 601024 by omega), (show slots + (494) ≤ 7293034 by omega)⟩ (fun r h' g => by obtain ⟨r, _, _, _, _, _, _, e, _⟩ := g; exact ⟨r, e⟩) (fun y1 h1 ad1 H1 locs1 hK hA hN S1 => ?_)
  obtain ⟨r1, N1, T1, R1, I1, ns1, L1, er, rfl, hc1, q1, q2, q3⟩ := hK
  have y1e : y1.toInt = r1 := by cases er; rfl
  have e0 : ad1 0 = ad 0 := hA 0 (show 0 < N by omega)
  have e102 : ad1 102 = ad 102 := hA 102 (show 102 < N by omega)
  have e126 : ad1 126 = ad 126 := hA 126 (show 126 < N by omega)
  have nN : N ≤ N1 := hc1.2.1.1
  rw [← e0, ← e102, ← e126] at hl
  refine lv_pop hx hb (show decode code 972 = .ok (.pop, 1) by decide +kernel) rfl ?_
  refine lv_aload_n (i := 2) (x := ad1 102) hx hb (show decode code 973 = .ok (.aload_n 2, 1) by decide +kernel) rfl (lv_at hl 2 rfl) ?_
  refine yl_arg X S1 i 1 (by omega) (lv_at hl 4 rfl) (lv_at hl 0 rfl) (by decide +kernel) (by decide +kernel) (by decide +kernel) (by decide +kernel) (by decide +kernel) ?_
  refine yl_callV X (a := 201) (ml := 4) (n := 1) (q := 102) (nq := 57) (ec := 11) (mc := 0) (ms := 0) (T9 := TX11) (N9 := 57) (as := [yi (xs (i + 1)).toInt]) (As := [.int (xs (i + 1))]) (rest := []) (ad := ad1) (h := (N1, T1, R1, I1)) (K' := fun r0 h' => ∃ (r : Int) (I' : Nat → Nat → Int) (L : Int), r0 = some (yi r) ∧ h' = (N1, T1, R1, I') ∧ uPo I1 I' L ∧ L = I1 102 2 ∧ uLn I1 I')
    rfl zm_201 (v_201 hc1.1.2.1 hc1.1.2.2.1 (show 126 ≤ N1 by omega) (uInv_cg w.2.1 hc1.2.2.1) (fun r I' L hu u1 u2 => ⟨r, I', L, rfl, rfl, hu, u1, u2⟩)) rfl (⟨_, _, rfl, yG_r (show 102 < N1 by omega), _, _, rfl, yG_i _, rfl⟩) (Nat.le_of_ble_eq_true rfl) (show 102 < N1 by omega) (hc1.1.2.1 102 rfl) rfl (List.mem_of_getElem? (i := 1879) rfl) (List.mem_of_getElem? (i := 1880) rfl) (List.mem_of_getElem? (i := 1881) rfl) (by decide +kernel) rfl S1 hl.1 (Nat.zero_le _) (show decode code 980 = .ok (.invokevirtual 144, 3) by decide +kernel) ⟨(show cells + 13 + 0 ≤ 601024 by omega), (show slots + (494) + 0 ≤ 7293034 by omega)⟩ (fun r h' g => by obtain ⟨r, _, _, e, _⟩ := g; exact ⟨r, e⟩) (fun y2 h2 ad2 H2 locs2 hK2 hA2 hN2 S2 => ?_)
  obtain ⟨r2, I2, L2, er2, rfl, hu, u1, u2⟩ := hK2
  have y2e : y2.toInt = r2 := by cases er2; rfl
  have f0 : ad2 0 = ad1 0 := hA2 0 (show 0 < N1 by omega)
  have f102 : ad2 102 = ad1 102 := hA2 102 (show 102 < N1 by omega)
  have f126 : ad2 126 = ad1 126 := hA2 126 (show 126 < N1 by omega)
  rw [← f0, ← f102, ← f126] at hl
  have eL : I1 102 2 = I 102 2 := hc1.2.2.1 102 2 (by decide) (by decide)
  have eW := w.2.2.1.1
  have wi : wInv N1 T1 R1 I2 ns1 := w_cu w hc1 hu (by omega) (fun j a b => absurd (show (j : Int) < I 1 1 by omega) b) (w_nk w hc1 q3.1 hu ⟨u2.1.1, fun j _ => u2.1.2 j⟩) (by rw [hu.2.1 1 10 (.inl (by decide)), q3.2, u2.2, hc1.2.2.1 102 15 (by decide) (by decide)]; exact w.2.2.2.2.2.2)
  refine lv_pop hx hb (show decode code 983 = .ok (.pop, 1) by decide +kernel) rfl ?_
  exact lv_goto (tgt := 1125) hx hb (show decode code 984 = .ok (.goto 141, 3) by decide +kernel) (by decide) (ex ad2 N1 ns1 _ _ T1 R1 I2 H2 locs2 ls S2 wi hl (show cells + 13 + 0 ≤ cells + 32 by omega) (show slots + (494) + 0 + gPt ns1 ≤ slots + gPt ns + 4431 by rw [(show ns1 = ns from q2)]; omega))
set_option maxHeartbeats 4000000 in
set_option maxRecDepth 100000 in
theorem yl_op_judged {ad : Nat → Nat} {N ns i cells slots : Nat} {T : Nat → Nat × Nat} {R : Nat → Nat → Option Nat} {I : Nat → Nat → Int} {H : Heap} {locs : List Loc} {ls : Array Slot} (X : lwX p l s m c b L xs D cy) (hi : i + 6 ≤ L) (S : lwS s D cy ad (N, T, R, I) H locs) (w : wInv N T R I ns) (hl : lv_has ls 7 [(4, .int (nI i)), (3, .ref (ad 126)), (2, .ref (ad 102)), (1, .ref (ad 0)), (0, .ref b)]) (hc : cells + 32 ≤ 601024) (hs : slots + gPt ns + 4431 ≤ 7293034)
    (ex : lwEx p l e s m below meth c b D cy Q i cells (slots + gPt ns + 4431)) : W p l e room_1 s m #[Value.ref b] below meth c H locs cells slots Q (F0 m 987 ls []) := by
  have hx := X.1
  have hb := X.2.1
  have h127 := w.2.2.2.2.2.1
  refine lv_aload_n (i := 1) (x := ad 0) hx hb (show decode code 987 = .ok (.aload_n 1, 1) by decide +kernel) rfl (lv_at hl 3 rfl) ?_
  refine yl_arg X S i 1 (by omega) (lv_at hl 4 rfl) (lv_at hl 0 rfl) (by decide +kernel) (by decide +kernel) (by decide +kernel) (by decide +kernel) (by decide +kernel) ?_
  refine yl_callV X (a := 129) (ml := 2) (n := 1) (q := 0) (nq := 10) (ec := 10) (mc := 0) (ms := 0) (T9 := TX10) (N9 := 10) (as := [yi (xs (i + 1)).toInt]) (As := [.int (xs (i + 1))]) (rest := []) (ad := ad) (h := (N, T, R, I)) (K' := fun r0 h' => ∃ (r : Int) (N' : Nat) (T' : Nat → Nat × Nat) (R' : Nat → Nat → Option Nat) (I' : Nat → Nat → Int) (ns' : Nat) (L : Int), r0 = some (yi r) ∧ h' = (N', T', R', I') ∧ cPo N T R I N' T' R' I' ns' L ∧ L = I 1 1 ∧ ns' = ns ∧ cLn I I')
    rfl zm_129 (v_129 w.1 (fun r N' T' R' I' ns' L hc q1 q2 q3 => ⟨r, N', T', R', I', ns', L, rfl, rfl, hc, q1, q2, q3⟩)) rfl (⟨_, _, rfl, yG_r (show 0 < N by omega), _, _, rfl, yG_i _, rfl⟩) (Nat.le_of_ble_eq_true rfl) (show 0 < N by omega) (w.1.2.1 0 rfl) rfl (List.mem_of_getElem? (i := 1173) rfl) (List.mem_of_getElem? (i := 1174) rfl) (List.mem_of_getElem? (i := 1175) rfl) (by decide +kernel) rfl S hl.1 (Nat.zero_le _) (show decode code 994 = .ok (.invokevirtual 145, 3) by decide +kernel) ⟨(show cells + 0 ≤ 601024 by omega), (show slots + (0) ≤ 7293034 by omega)⟩ (fun r h' g => by obtain ⟨r, _, _, _, _, _, _, e, _⟩ := g; exact ⟨r, e⟩) (fun y1 h1 ad1 H1 locs1 hK hA hN S1 => ?_)
  obtain ⟨r1, N1, T1, R1, I1, ns1, L1, er, rfl, hc1, q1, q2, q3⟩ := hK
  have y1e : y1.toInt = r1 := by cases er; rfl
  have e0 : ad1 0 = ad 0 := hA 0 (show 0 < N by omega)
  have e102 : ad1 102 = ad 102 := hA 102 (show 102 < N by omega)
  have e126 : ad1 126 = ad 126 := hA 126 (show 126 < N by omega)
  have nN : N ≤ N1 := hc1.2.1.1
  rw [← e0, ← e102, ← e126] at hl
  refine lv_pop hx hb (show decode code 997 = .ok (.pop, 1) by decide +kernel) rfl ?_
  refine lv_aload_n (i := 2) (x := ad1 102) hx hb (show decode code 998 = .ok (.aload_n 2, 1) by decide +kernel) rfl (lv_at hl 2 rfl) ?_
  refine yl_arg X S1 i 1 (by omega) (lv_at hl 4 rfl) (lv_at hl 0 rfl) (by decide +kernel) (by decide +kernel) (by decide +kernel) (by decide +kernel) (by decide +kernel) ?_
  refine yl_callV X (a := 202) (ml := 2) (n := 1) (q := 102) (nq := 57) (ec := 11) (mc := 0) (ms := 0) (T9 := TX11) (N9 := 57) (as := [yi (xs (i + 1)).toInt]) (As := [.int (xs (i + 1))]) (rest := []) (ad := ad1) (h := (N1, T1, R1, I1)) (K' := fun r0 h' => ∃ (r : Int) (I' : Nat → Nat → Int) (L : Int), r0 = some (yi r) ∧ h' = (N1, T1, R1, I') ∧ uPo I1 I' L ∧ L = I1 102 2 ∧ uLn I1 I')
    rfl zm_202 (v_202 hc1.1.2.1 hc1.1.2.2.1 (show 126 ≤ N1 by omega) (uInv_cg w.2.1 hc1.2.2.1) (fun r I' L hu u1 u2 => ⟨r, I', L, rfl, rfl, hu, u1, u2⟩)) rfl (⟨_, _, rfl, yG_r (show 102 < N1 by omega), _, _, rfl, yG_i _, rfl⟩) (Nat.le_of_ble_eq_true rfl) (show 102 < N1 by omega) (hc1.1.2.1 102 rfl) rfl (List.mem_of_getElem? (i := 1887) rfl) (List.mem_of_getElem? (i := 1888) rfl) (List.mem_of_getElem? (i := 1889) rfl) (by decide +kernel) rfl S1 hl.1 (Nat.zero_le _) (show decode code 1005 = .ok (.invokevirtual 148, 3) by decide +kernel) ⟨(show cells + 0 + 0 ≤ 601024 by omega), (show slots + (0) + 0 ≤ 7293034 by omega)⟩ (fun r h' g => by obtain ⟨r, _, _, e, _⟩ := g; exact ⟨r, e⟩) (fun y2 h2 ad2 H2 locs2 hK2 hA2 hN2 S2 => ?_)
  obtain ⟨r2, I2, L2, er2, rfl, hu, u1, u2⟩ := hK2
  have y2e : y2.toInt = r2 := by cases er2; rfl
  have f0 : ad2 0 = ad1 0 := hA2 0 (show 0 < N1 by omega)
  have f102 : ad2 102 = ad1 102 := hA2 102 (show 102 < N1 by omega)
  have f126 : ad2 126 = ad1 126 := hA2 126 (show 126 < N1 by omega)
  rw [← f0, ← f102, ← f126] at hl
  have eL : I1 102 2 = I 102 2 := hc1.2.2.1 102 2 (by decide) (by decide)
  have eW := w.2.2.1.1
  have wi : wInv N1 T1 R1 I2 ns1 := w_cu w hc1 hu (by omega) (fun j a b => absurd (show (j : Int) < I 1 1 by omega) b) (w_nk w hc1 q3.1 hu ⟨u2.1.1, fun j _ => u2.1.2 j⟩) (by rw [hu.2.1 1 10 (.inl (by decide)), q3.2, u2.2, hc1.2.2.1 102 15 (by decide) (by decide)]; exact w.2.2.2.2.2.2)
  refine lv_pop hx hb (show decode code 1008 = .ok (.pop, 1) by decide +kernel) rfl ?_
  exact lv_goto (tgt := 1125) hx hb (show decode code 1009 = .ok (.goto 116, 3) by decide +kernel) (by decide) (ex ad2 N1 ns1 _ _ T1 R1 I2 H2 locs2 ls S2 wi hl (show cells + 0 + 0 ≤ cells + 32 by omega) (show slots + (0) + 0 + gPt ns1 ≤ slots + gPt ns + 4431 by rw [(show ns1 = ns from q2)]; omega))
set_option maxHeartbeats 4000000 in
set_option maxRecDepth 100000 in
theorem yl_op_sentence {ad : Nat → Nat} {N ns i cells slots : Nat} {T : Nat → Nat × Nat} {R : Nat → Nat → Option Nat} {I : Nat → Nat → Int} {H : Heap} {locs : List Loc} {ls : Array Slot} (X : lwX p l s m c b L xs D cy) (hi : i + 6 ≤ L) (S : lwS s D cy ad (N, T, R, I) H locs) (w : wInv N T R I ns) (hl : lv_has ls 7 [(4, .int (nI i)), (3, .ref (ad 126)), (2, .ref (ad 102)), (1, .ref (ad 0)), (0, .ref b)]) (hc : cells + 32 ≤ 601024) (hs : slots + gPt ns + 4431 ≤ 7293034)
    (ex : lwEx p l e s m below meth c b D cy Q i cells (slots + gPt ns + 4431)) : W p l e room_1 s m #[Value.ref b] below meth c H locs cells slots Q (F0 m 1012 ls []) := by
  have hx := X.1
  have hb := X.2.1
  have h127 := w.2.2.2.2.2.1
  refine lv_aload_n (i := 1) (x := ad 0) hx hb (show decode code 1012 = .ok (.aload_n 1, 1) by decide +kernel) rfl (lv_at hl 3 rfl) ?_
  refine yl_callV X (a := 146) (ml := 2) (n := 0) (q := 0) (nq := 10) (ec := 10) (mc := 0) (ms := 0) (T9 := TX10) (N9 := 10) (as := []) (As := []) (rest := []) (ad := ad) (h := (N, T, R, I)) (K' := fun r0 h' => ∃ (r : Int) (N' : Nat) (T' : Nat → Nat × Nat) (R' : Nat → Nat → Option Nat) (I' : Nat → Nat → Int) (ns' : Nat) (L : Int), r0 = some (yi r) ∧ h' = (N', T', R', I') ∧ cPo N T R I N' T' R' I' ns' L ∧ L = 0 ∧ ns' = ns ∧ cLm I I' ∧ r = kAnsS (zSe (I 2) (I 1 1).toNat (I 104 2).toNat (fun q => I 107 (0 + q))) ∧ I' 1 10 = kFc (zSe (I 2) (I 1 1).toNat (I 104 2).toNat (fun q => I 107 (0 + q))))
    rfl zm_146 (v_146x w.1 (nmE_nm w.2.2.1.2.2.2.2.1).1 (fun r N' T' R' I' ns' L hc q1 q2 q3 q4 q5 => ⟨r, N', T', R', I', ns', L, rfl, rfl, hc, q1, q2, q3, q4, q5⟩)) rfl (⟨_, _, rfl, yG_r (show 0 < N by omega), rfl⟩) (Nat.le_of_ble_eq_true rfl) (show 0 < N by omega) (w.1.2.1 0 rfl) rfl (List.mem_of_getElem? (i := 1177) rfl) (List.mem_of_getElem? (i := 1178) rfl) (List.mem_of_getElem? (i := 1179) rfl) (by decide +kernel) rfl S hl.1 (Nat.zero_le _) (show decode code 1013 = .ok (.invokevirtual 149, 3) by decide +kernel) ⟨(show cells + 0 ≤ 601024 by omega), (show slots + (0) ≤ 7293034 by omega)⟩ (fun r h' g => by obtain ⟨r, _, _, _, _, _, _, e, _⟩ := g; exact ⟨r, e⟩) (fun y1 h1 ad1 H1 locs1 hK hA hN S1 => ?_)
  obtain ⟨r1, N1, T1, R1, I1, ns1, L1, er, rfl, hc1, q1, q2, q3, q4, q5⟩ := hK
  have y1e : y1.toInt = r1 := by cases er; rfl
  have e0 : ad1 0 = ad 0 := hA 0 (show 0 < N by omega)
  have e102 : ad1 102 = ad 102 := hA 102 (show 102 < N by omega)
  have e126 : ad1 126 = ad 126 := hA 126 (show 126 < N by omega)
  have nN : N ≤ N1 := hc1.2.1.1
  rw [← e0, ← e102, ← e126] at hl
  refine lv_pop hx hb (show decode code 1016 = .ok (.pop, 1) by decide +kernel) rfl ?_
  refine lv_aload_n (i := 2) (x := ad1 102) hx hb (show decode code 1017 = .ok (.aload_n 2, 1) by decide +kernel) rfl (lv_at hl 2 rfl) ?_
  refine yl_callV X (a := 234) (ml := 3) (n := 0) (q := 102) (nq := 57) (ec := 11) (mc := 0) (ms := 0) (T9 := TX11) (N9 := 57) (as := []) (As := []) (rest := []) (ad := ad1) (h := (N1, T1, R1, I1)) (K' := fun r0 h' => ∃ (r : Int) (I' : Nat → Nat → Int) (L : Int), r0 = some (yi r) ∧ h' = (N1, T1, R1, I') ∧ uPo I1 I' L ∧ L = 0 ∧ uLm I1 I' ∧ r = kAnsS (zSe (I1 103) (I1 102 2).toNat (I 104 2).toNat (fun q => I 107 (0 + q))) ∧ I' 102 15 = kFc (zSe (I1 103) (I1 102 2).toNat (I 104 2).toNat (fun q => I 107 (0 + q))))
    rfl zm_234 (v_234x hc1.1.2.1 hc1.1.2.2.1 (show 126 ≤ N1 by omega) (uInv_cg w.2.1 hc1.2.2.1) (fun j hj => by rw [hc1.2.2.1 103 j (by decide) (by decide)]; exact (w.2.2.1.2.1 j (by rw [← hc1.2.2.1 102 2 (by decide) (by decide)]; exact hj)).2) (fun k hk => by rw [hc1.2.2.1 108 k (by decide) (by decide)]; exact w.2.2.1.2.2.1 k hk) (ch := (I 104 2).toNat) (nm := fun q => I 107 (0 + q)) (by have g := w.2.2.1.2.2.2.2.1.1; rw [hc1.2.2.1 104 2 (by decide) (by decide)]; omega) ⟨(nmE_nm w.2.2.1.2.2.2.2.1).2.1, fun q hq => by rw [hc1.2.2.1 107 (0 + q) (by decide) (by decide)]; exact (nmE_nm w.2.2.1.2.2.2.2.1).2.2 q hq⟩ (fun r I' L hu u1 u2 u3 u4 => ⟨r, I', L, rfl, rfl, hu, u1, u2, u3, u4⟩)) rfl (⟨_, _, rfl, yG_r (show 102 < N1 by omega), rfl⟩) (Nat.le_of_ble_eq_true rfl) (show 102 < N1 by omega) (hc1.1.2.1 102 rfl) rfl (List.mem_of_getElem? (i := 1891) rfl) (List.mem_of_getElem? (i := 1892) rfl) (List.mem_of_getElem? (i := 1893) rfl) (by decide +kernel) rfl S1 hl.1 (Nat.zero_le _) (show decode code 1018 = .ok (.invokevirtual 152, 3) by decide +kernel) ⟨(show cells + 0 + 0 ≤ 601024 by omega), (show slots + (0) + 0 ≤ 7293034 by omega)⟩ (fun r h' g => by obtain ⟨r, _, _, e, _⟩ := g; exact ⟨r, e⟩) (fun y2 h2 ad2 H2 locs2 hK2 hA2 hN2 S2 => ?_)
  obtain ⟨r2, I2, L2, er2, rfl, hu, u1, u2, u3, u4⟩ := hK2
  have y2e : y2.toInt = r2 := by cases er2; rfl
  have f0 : ad2 0 = ad1 0 := hA2 0 (show 0 < N1 by omega)
  have f102 : ad2 102 = ad1 102 := hA2 102 (show 102 < N1 by omega)
  have f126 : ad2 126 = ad1 126 := hA2 126 (show 126 < N1 by omega)
  rw [← f0, ← f102, ← f126] at hl
  have eL : I1 102 2 = I 102 2 := hc1.2.2.1 102 2 (by decide) (by decide)
  have eW := w.2.2.1.1
  have wi : wInv N1 T1 R1 I2 ns1 := w_cu w hc1 hu (by omega) (fun j a b => absurd (show (j : Int) < I 1 1 by omega) b) (w_nk w hc1 q3 hu ⟨u2.1, fun j _ => u2.2 j⟩) (by rw [hu.2.1 1 10 (.inl (by decide)), q5, u4, eL, eW, zSe_cg (n := (I 102 2).toNat) (t := I 2) (t' := I1 103) (fun j hj => by rw [hc1.2.2.1 103 j (by decide) (by decide)]; exact (w.2.2.1.2.1 j (by omega)).1)])
  refine lv_pop hx hb (show decode code 1021 = .ok (.pop, 1) by decide +kernel) rfl ?_
  exact lv_goto (tgt := 1125) hx hb (show decode code 1022 = .ok (.goto 103, 3) by decide +kernel) (by decide) (ex ad2 N1 ns1 _ _ T1 R1 I2 H2 locs2 ls S2 wi hl (show cells + 0 + 0 ≤ cells + 32 by omega) (show slots + (0) + 0 + gPt ns1 ≤ slots + gPt ns + 4431 by rw [(show ns1 = ns from q2)]; omega))
set_option maxHeartbeats 4000000 in
set_option maxRecDepth 100000 in
theorem yl_op_said {ad : Nat → Nat} {N ns i cells slots : Nat} {T : Nat → Nat × Nat} {R : Nat → Nat → Option Nat} {I : Nat → Nat → Int} {H : Heap} {locs : List Loc} {ls : Array Slot} (X : lwX p l s m c b L xs D cy) (hi : i + 6 ≤ L) (S : lwS s D cy ad (N, T, R, I) H locs) (w : wInv N T R I ns) (hl : lv_has ls 7 [(4, .int (nI i)), (3, .ref (ad 126)), (2, .ref (ad 102)), (1, .ref (ad 0)), (0, .ref b)]) (hc : cells + 32 ≤ 601024) (hs : slots + gPt ns + 4431 ≤ 7293034)
    (ex : lwEx p l e s m below meth c b D cy Q i cells (slots + gPt ns + 4431)) : W p l e room_1 s m #[Value.ref b] below meth c H locs cells slots Q (F0 m 1025 ls []) := by
  have hx := X.1
  have hb := X.2.1
  have h127 := w.2.2.2.2.2.1
  refine lv_aload_n (i := 1) (x := ad 0) hx hb (show decode code 1025 = .ok (.aload_n 1, 1) by decide +kernel) rfl (lv_at hl 3 rfl) ?_
  refine yl_arg X S i 1 (by omega) (lv_at hl 4 rfl) (lv_at hl 0 rfl) (by decide +kernel) (by decide +kernel) (by decide +kernel) (by decide +kernel) (by decide +kernel) ?_
  refine yl_callV X (a := 145) (ml := 4) (n := 1) (q := 0) (nq := 10) (ec := 10) (mc := 0) (ms := 0) (T9 := TX10) (N9 := 10) (as := [yi (xs (i + 1)).toInt]) (As := [.int (xs (i + 1))]) (rest := []) (ad := ad) (h := (N, T, R, I)) (K' := fun r0 h' => ∃ (r : Int) (N' : Nat) (T' : Nat → Nat × Nat) (R' : Nat → Nat → Option Nat) (I' : Nat → Nat → Int) (ns' : Nat) (L : Int), r0 = some (yi r) ∧ h' = (N', T', R', I') ∧ cPo N T R I N' T' R' I' ns' L ∧ L = I 1 1 ∧ ns' = ns ∧ cLn I I')
    rfl zm_145 (v_145 w.1 (fun r N' T' R' I' ns' L hc q1 q2 q3 => ⟨r, N', T', R', I', ns', L, rfl, rfl, hc, q1, q2, q3⟩)) rfl (⟨_, _, rfl, yG_r (show 0 < N by omega), _, _, rfl, yG_i _, rfl⟩) (Nat.le_of_ble_eq_true rfl) (show 0 < N by omega) (w.1.2.1 0 rfl) rfl (List.mem_of_getElem? (i := 1218) rfl) (List.mem_of_getElem? (i := 1219) rfl) (List.mem_of_getElem? (i := 1220) rfl) (by decide +kernel) rfl S hl.1 (Nat.zero_le _) (show decode code 1032 = .ok (.invokevirtual 153, 3) by decide +kernel) ⟨(show cells + 0 ≤ 601024 by omega), (show slots + (0) ≤ 7293034 by omega)⟩ (fun r h' g => by obtain ⟨r, _, _, _, _, _, _, e, _⟩ := g; exact ⟨r, e⟩) (fun y1 h1 ad1 H1 locs1 hK hA hN S1 => ?_)
  obtain ⟨r1, N1, T1, R1, I1, ns1, L1, er, rfl, hc1, q1, q2, q3⟩ := hK
  have y1e : y1.toInt = r1 := by cases er; rfl
  have e0 : ad1 0 = ad 0 := hA 0 (show 0 < N by omega)
  have e102 : ad1 102 = ad 102 := hA 102 (show 102 < N by omega)
  have e126 : ad1 126 = ad 126 := hA 126 (show 126 < N by omega)
  have nN : N ≤ N1 := hc1.2.1.1
  rw [← e0, ← e102, ← e126] at hl
  refine lv_pop hx hb (show decode code 1035 = .ok (.pop, 1) by decide +kernel) rfl ?_
  refine lv_aload_n (i := 2) (x := ad1 102) hx hb (show decode code 1036 = .ok (.aload_n 2, 1) by decide +kernel) rfl (lv_at hl 2 rfl) ?_
  refine yl_arg X S1 i 1 (by omega) (lv_at hl 4 rfl) (lv_at hl 0 rfl) (by decide +kernel) (by decide +kernel) (by decide +kernel) (by decide +kernel) (by decide +kernel) ?_
  refine yl_callV X (a := 233) (ml := 4) (n := 1) (q := 102) (nq := 57) (ec := 11) (mc := 0) (ms := 0) (T9 := TX11) (N9 := 57) (as := [yi (xs (i + 1)).toInt]) (As := [.int (xs (i + 1))]) (rest := []) (ad := ad1) (h := (N1, T1, R1, I1)) (K' := fun r0 h' => ∃ (r : Int) (I' : Nat → Nat → Int) (L : Int), r0 = some (yi r) ∧ h' = (N1, T1, R1, I') ∧ uPo I1 I' L ∧ L = I1 102 2 ∧ uLn I1 I')
    rfl zm_233 (v_233 hc1.1.2.1 hc1.1.2.2.1 (show 126 ≤ N1 by omega) (uInv_cg w.2.1 hc1.2.2.1) (fun r I' L hu u1 u2 => ⟨r, I', L, rfl, rfl, hu, u1, u2⟩)) rfl (⟨_, _, rfl, yG_r (show 102 < N1 by omega), _, _, rfl, yG_i _, rfl⟩) (Nat.le_of_ble_eq_true rfl) (show 102 < N1 by omega) (hc1.1.2.1 102 rfl) rfl (List.mem_of_getElem? (i := 1919) rfl) (List.mem_of_getElem? (i := 1920) rfl) (List.mem_of_getElem? (i := 1921) rfl) (by decide +kernel) rfl S1 hl.1 (Nat.zero_le _) (show decode code 1043 = .ok (.invokevirtual 156, 3) by decide +kernel) ⟨(show cells + 0 + 0 ≤ 601024 by omega), (show slots + (0) + 0 ≤ 7293034 by omega)⟩ (fun r h' g => by obtain ⟨r, _, _, e, _⟩ := g; exact ⟨r, e⟩) (fun y2 h2 ad2 H2 locs2 hK2 hA2 hN2 S2 => ?_)
  obtain ⟨r2, I2, L2, er2, rfl, hu, u1, u2⟩ := hK2
  have y2e : y2.toInt = r2 := by cases er2; rfl
  have f0 : ad2 0 = ad1 0 := hA2 0 (show 0 < N1 by omega)
  have f102 : ad2 102 = ad1 102 := hA2 102 (show 102 < N1 by omega)
  have f126 : ad2 126 = ad1 126 := hA2 126 (show 126 < N1 by omega)
  rw [← f0, ← f102, ← f126] at hl
  have eL : I1 102 2 = I 102 2 := hc1.2.2.1 102 2 (by decide) (by decide)
  have eW := w.2.2.1.1
  have wi : wInv N1 T1 R1 I2 ns1 := w_cu w hc1 hu (by omega) (fun j a b => absurd (show (j : Int) < I 1 1 by omega) b) (w_nk w hc1 q3.1 hu ⟨u2.1.1, fun j _ => u2.1.2 j⟩) (by rw [hu.2.1 1 10 (.inl (by decide)), q3.2, u2.2, hc1.2.2.1 102 15 (by decide) (by decide)]; exact w.2.2.2.2.2.2)
  refine lv_pop hx hb (show decode code 1046 = .ok (.pop, 1) by decide +kernel) rfl ?_
  exact lv_goto (tgt := 1125) hx hb (show decode code 1047 = .ok (.goto 78, 3) by decide +kernel) (by decide) (ex ad2 N1 ns1 _ _ T1 R1 I2 H2 locs2 ls S2 wi hl (show cells + 0 + 0 ≤ cells + 32 by omega) (show slots + (0) + 0 + gPt ns1 ≤ slots + gPt ns + 4431 by rw [(show ns1 = ns from q2)]; omega))
set_option maxHeartbeats 4000000 in
set_option maxRecDepth 100000 in
theorem yl_op_image {ad : Nat → Nat} {N ns i cells slots : Nat} {T : Nat → Nat × Nat} {R : Nat → Nat → Option Nat} {I : Nat → Nat → Int} {H : Heap} {locs : List Loc} {ls : Array Slot} (X : lwX p l s m c b L xs D cy) (hi : i + 6 ≤ L) (S : lwS s D cy ad (N, T, R, I) H locs) (w : wInv N T R I ns) (hl : lv_has ls 7 [(4, .int (nI i)), (3, .ref (ad 126)), (2, .ref (ad 102)), (1, .ref (ad 0)), (0, .ref b)]) (hc : cells + 32 ≤ 601024) (hs : slots + gPt ns + 4431 ≤ 7293034)
    (ex : lwEx p l e s m below meth c b D cy Q i cells (slots + gPt ns + 4431)) : W p l e room_1 s m #[Value.ref b] below meth c H locs cells slots Q (F0 m 1050 ls []) := by
  have hx := X.1
  have hb := X.2.1
  have h127 := w.2.2.2.2.2.1
  refine lv_aload_n (i := 1) (x := ad 0) hx hb (show decode code 1050 = .ok (.aload_n 1, 1) by decide +kernel) rfl (lv_at hl 3 rfl) ?_
  refine yl_arg X S i 1 (by omega) (lv_at hl 4 rfl) (lv_at hl 0 rfl) (by decide +kernel) (by decide +kernel) (by decide +kernel) (by decide +kernel) (by decide +kernel) ?_
  refine yl_callV X (a := 123) (ml := 2) (n := 1) (q := 0) (nq := 10) (ec := 10) (mc := 32) (ms := 944) (T9 := TX10) (N9 := 10) (as := [yi (xs (i + 1)).toInt]) (As := [.int (xs (i + 1))]) (rest := []) (ad := ad) (h := (N, T, R, I)) (K' := fun r0 h' => ∃ (r : Int) (N' : Nat) (T' : Nat → Nat × Nat) (R' : Nat → Nat → Option Nat) (I' : Nat → Nat → Int), r0 = some (yi r) ∧ h' = (N', T', R', I') ∧ cInv N' T' R' I' ns ∧ (N ≤ N' ∧ ∀ k, k < N → T' k = T k) ∧ (∀ k j, 102 ≤ k → k < 126 → I' k j = I k j) ∧ I' 1 1 = I 1 1 ∧ (∀ j, I' 2 j = I 2 j) ∧ ((r = 1 ∧ 0 ≤ (xs (i + 1)).toInt ∧ (xs (i + 1)).toInt < 2 ∧ R' 101 (xs (i + 1)).toInt.toNat ≠ none ∧ ∀ i', i' < 2 → i' ≠ (xs (i + 1)).toInt.toNat → R' 101 i' = R 101 i') ∨ (r = 0 ∧ ¬ (0 ≤ (xs (i + 1)).toInt ∧ (xs (i + 1)).toInt < 2) ∧ ∀ i', R' 101 i' = R 101 i')) ∧ cDs R' ∧ (∀ i' p, i' < 2 → R' 101 i' = some p → (r = 1 ∧ (i' : Int) = (xs (i + 1)).toInt ∧ I' (p + 1) 5 = I 4 5 ∧ ∀ j, j < 8 → I' (p + 5) j = I 8 j) ∨ (¬ (r = 1 ∧ (i' : Int) = (xs (i + 1)).toInt) ∧ R 101 i' = some p ∧ I' (p + 1) 5 = I (p + 1) 5 ∧ ∀ j, I' (p + 5) j = I (p + 5) j)) ∧ cLn I I')
    rfl zm_123 (v_123x w.1 w.2.2.1.2.2.2.1 (Nat.le_refl _) (Nat.le_refl _) (fun r N' T' R' I' q1 q2 q3 q4 q5 q6 q7 q8 q9 => ⟨r, N', T', R', I', rfl, rfl, q1, q2, q3, q4, q5, q6, q7, q8, q9⟩)) rfl (⟨_, _, rfl, yG_r (show 0 < N by omega), _, _, rfl, yG_i _, rfl⟩) (Nat.le_of_ble_eq_true rfl) (show 0 < N by omega) (w.1.2.1 0 rfl) rfl (List.mem_of_getElem? (i := 1233) rfl) (List.mem_of_getElem? (i := 1234) rfl) (List.mem_of_getElem? (i := 1235) rfl) (by decide +kernel) rfl S hl.1 (Nat.zero_le _) (show decode code 1057 = .ok (.invokevirtual 157, 3) by decide +kernel) ⟨(show cells + 32 ≤ 601024 by omega), (show slots + (944) ≤ 7293034 by omega)⟩ (fun r h' g => by obtain ⟨r, _, _, _, _, e, _⟩ := g; exact ⟨r, e⟩) (fun y1 h1 ad1 H1 locs1 hK hA hN S1 => ?_)
  obtain ⟨r1, N1, T1, R1, I1, er, rfl, q1, q2, q3, q4, q5, q6, q7, q8, q9⟩ := hK
  have ns1 := ns
  have y1e : y1.toInt = r1 := by cases er; rfl
  have e0 : ad1 0 = ad 0 := hA 0 (show 0 < N by omega)
  have e102 : ad1 102 = ad 102 := hA 102 (show 102 < N by omega)
  have e126 : ad1 126 = ad 126 := hA 126 (show 126 < N by omega)
  have nN : N ≤ N1 := q2.1
  rw [← e0, ← e102, ← e126] at hl
  refine lv_pop hx hb (show decode code 1060 = .ok (.pop, 1) by decide +kernel) rfl ?_
  refine lv_aload_n (i := 2) (x := ad1 102) hx hb (show decode code 1061 = .ok (.aload_n 2, 1) by decide +kernel) rfl (lv_at hl 2 rfl) ?_
  refine yl_arg X S1 i 1 (by omega) (lv_at hl 4 rfl) (lv_at hl 0 rfl) (by decide +kernel) (by decide +kernel) (by decide +kernel) (by decide +kernel) (by decide +kernel) ?_
  refine yl_callV X (a := 184) (ml := 3) (n := 1) (q := 102) (nq := 57) (ec := 11) (mc := 0) (ms := 0) (T9 := TX11) (N9 := 57) (as := [yi (xs (i + 1)).toInt]) (As := [.int (xs (i + 1))]) (rest := []) (ad := ad1) (h := (N1, T1, R1, I1)) (K' := fun r0 h' => ∃ (r : Int) (I' : Nat → Nat → Int), r0 = some (yi r) ∧ h' = (N1, T1, R1, I') ∧ uInv I' ∧ (∀ k j, (k < 102 ∨ 126 ≤ k) → I' k j = I1 k j) ∧ I' 102 2 = I1 102 2 ∧ (∀ j, I' 103 j = I1 103 j ∧ I' 108 j = I1 108 j) ∧ ((r = 1 ∧ 0 ≤ (xs (i + 1)).toInt ∧ (xs (i + 1)).toInt ≤ 1 ∧ ∀ j, I' 125 j = if j = (xs (i + 1)).toInt.toNat then 1 else I1 125 j) ∨ (r = 0 ∧ ¬ (0 ≤ (xs (i + 1)).toInt ∧ (xs (i + 1)).toInt ≤ 1) ∧ ∀ j, I' 125 j = I1 125 j)) ∧ (∀ i' : Nat, i' < 2 → (r = 1 ∧ (i' : Int) = (xs (i + 1)).toInt ∧ (∀ j, j < 1188 → I' 123 (1188 * i' + j) = I1 104 j) ∧ ∀ j, j < 8 → I' 124 (8 * i' + j) = I1 107 j) ∨ (¬ (r = 1 ∧ (i' : Int) = (xs (i + 1)).toInt) ∧ (∀ j, j < 1188 → I' 123 (1188 * i' + j) = I1 123 (1188 * i' + j)) ∧ ∀ j, j < 8 → I' 124 (8 * i' + j) = I1 124 (8 * i' + j))) ∧ uLn I1 I')
    rfl zm_184 (v_184x q1.2.1 q1.2.2.1 (show 126 ≤ N1 by omega) (uInv_cg w.2.1 q3) (fun r I' u1 u2 u3 u4 u5 u6 u7 => ⟨r, I', rfl, rfl, u1, u2, u3, u4, u5, u6, u7⟩)) rfl (⟨_, _, rfl, yG_r (show 102 < N1 by omega), _, _, rfl, yG_i _, rfl⟩) (Nat.le_of_ble_eq_true rfl) (show 102 < N1 by omega) (q1.2.1 102 rfl) rfl (List.mem_of_getElem? (i := 1931) rfl) (List.mem_of_getElem? (i := 1932) rfl) (List.mem_of_getElem? (i := 1933) rfl) (by decide +kernel) rfl S1 hl.1 (Nat.zero_le _) (show decode code 1068 = .ok (.invokevirtual 160, 3) by decide +kernel) ⟨(show cells + 32 + 0 ≤ 601024 by omega), (show slots + (944) + 0 ≤ 7293034 by omega)⟩ (fun r h' g => by obtain ⟨r, _, e, _⟩ := g; exact ⟨r, e⟩) (fun y2 h2 ad2 H2 locs2 hK2 hA2 hN2 S2 => ?_)
  obtain ⟨r2, I2, er2, rfl, u1, u2, u3, u4, u5, u6, u7⟩ := hK2
  have y2e : y2.toInt = r2 := by cases er2; rfl
  have f0 : ad2 0 = ad1 0 := hA2 0 (show 0 < N1 by omega)
  have f102 : ad2 102 = ad1 102 := hA2 102 (show 102 < N1 by omega)
  have f126 : ad2 126 = ad1 126 := hA2 126 (show 126 < N1 by omega)
  rw [← f0, ← f102, ← f126] at hl
  obtain ⟨er12, wi⟩ := w_im w q1 q2 q3 q4 q5 u1 u2 u3 u4 q7 q8 q9 u6 u7 q6 u5
  refine lv_pop hx hb (show decode code 1071 = .ok (.pop, 1) by decide +kernel) rfl ?_
  exact lv_goto (tgt := 1125) hx hb (show decode code 1072 = .ok (.goto 53, 3) by decide +kernel) (by decide) (ex ad2 N1 ns _ _ T1 R1 I2 H2 locs2 ls S2 wi hl (show cells + 32 + 0 ≤ cells + 32 by omega) (show slots + (944) + 0 + gPt ns ≤ slots + gPt ns + 4431 by omega))
set_option maxHeartbeats 4000000 in
set_option maxRecDepth 100000 in
theorem yl_op_restore {ad : Nat → Nat} {N ns i cells slots : Nat} {T : Nat → Nat × Nat} {R : Nat → Nat → Option Nat} {I : Nat → Nat → Int} {H : Heap} {locs : List Loc} {ls : Array Slot} (X : lwX p l s m c b L xs D cy) (hi : i + 6 ≤ L) (S : lwS s D cy ad (N, T, R, I) H locs) (w : wInv N T R I ns) (hl : lv_has ls 7 [(4, .int (nI i)), (3, .ref (ad 126)), (2, .ref (ad 102)), (1, .ref (ad 0)), (0, .ref b)]) (hc : cells + 32 ≤ 601024) (hs : slots + gPt ns + 4431 ≤ 7293034)
    (ex : lwEx p l e s m below meth c b D cy Q i cells (slots + gPt ns + 4431)) : W p l e room_1 s m #[Value.ref b] below meth c H locs cells slots Q (F0 m 1075 ls []) := by
  have hx := X.1
  have hb := X.2.1
  have h127 := w.2.2.2.2.2.1
  refine lv_aload_n (i := 1) (x := ad 0) hx hb (show decode code 1075 = .ok (.aload_n 1, 1) by decide +kernel) rfl (lv_at hl 3 rfl) ?_
  refine yl_arg X S i 1 (by omega) (lv_at hl 4 rfl) (lv_at hl 0 rfl) (by decide +kernel) (by decide +kernel) (by decide +kernel) (by decide +kernel) (by decide +kernel) ?_
  refine yl_callV X (a := 144) (ml := 2) (n := 1) (q := 0) (nq := 10) (ec := 10) (mc := 0) (ms := 0) (T9 := TX10) (N9 := 10) (as := [yi (xs (i + 1)).toInt]) (As := [.int (xs (i + 1))]) (rest := []) (ad := ad) (h := (N, T, R, I)) (K' := fun r0 h' => ∃ (r : Int) (N' : Nat) (T' : Nat → Nat × Nat) (R' : Nat → Nat → Option Nat) (I' : Nat → Nat → Int) (ns' : Nat) (L : Int), r0 = some (yi r) ∧ h' = (N', T', R', I') ∧ cPo N T R I N' T' R' I' ns' L ∧ L = I 1 1 ∧ ns' = ns ∧ ((r = 0 ∧ ¬ (0 ≤ (xs (i + 1)).toInt ∧ (xs (i + 1)).toInt < 2 ∧ R 101 (xs (i + 1)).toInt.toNat ≠ none)) ∨ (r = 1 ∧ (0 ≤ (xs (i + 1)).toInt ∧ (xs (i + 1)).toInt < 2 ∧ R 101 (xs (i + 1)).toInt.toNat ≠ none))) ∧ ((r = 0 ∧ cLm I I') ∨ (r = 1 ∧ ∃ p, R 101 (xs (i + 1)).toInt.toNat = some p ∧ I' 4 5 = I (p + 1) 5 ∧ ∀ j, j < 8 → I' 8 j = I (p + 5) j)) ∧ I' 1 10 = I 1 10)
    rfl zm_144 (v_144x w.1 (fun r N' T' R' I' ns' L hc q1 q2 q3 q4 q5 => ⟨r, N', T', R', I', ns', L, rfl, rfl, hc, q1, q2, q3, q4, q5⟩)) rfl (⟨_, _, rfl, yG_r (show 0 < N by omega), _, _, rfl, yG_i _, rfl⟩) (Nat.le_of_ble_eq_true rfl) (show 0 < N by omega) (w.1.2.1 0 rfl) rfl (List.mem_of_getElem? (i := 1245) rfl) (List.mem_of_getElem? (i := 1246) rfl) (List.mem_of_getElem? (i := 1247) rfl) (by decide +kernel) rfl S hl.1 (Nat.zero_le _) (show decode code 1082 = .ok (.invokevirtual 161, 3) by decide +kernel) ⟨(show cells + 0 ≤ 601024 by omega), (show slots + (0) ≤ 7293034 by omega)⟩ (fun r h' g => by obtain ⟨r, _, _, _, _, _, _, e, _⟩ := g; exact ⟨r, e⟩) (fun y1 h1 ad1 H1 locs1 hK hA hN S1 => ?_)
  obtain ⟨r1, N1, T1, R1, I1, ns1, L1, er, rfl, hc1, q1, q2, q3, q4, q5⟩ := hK
  have y1e : y1.toInt = r1 := by cases er; rfl
  have e0 : ad1 0 = ad 0 := hA 0 (show 0 < N by omega)
  have e102 : ad1 102 = ad 102 := hA 102 (show 102 < N by omega)
  have e126 : ad1 126 = ad 126 := hA 126 (show 126 < N by omega)
  have nN : N ≤ N1 := hc1.2.1.1
  rw [← e0, ← e102, ← e126] at hl
  refine lv_pop hx hb (show decode code 1085 = .ok (.pop, 1) by decide +kernel) rfl ?_
  refine lv_aload_n (i := 2) (x := ad1 102) hx hb (show decode code 1086 = .ok (.aload_n 2, 1) by decide +kernel) rfl (lv_at hl 2 rfl) ?_
  refine yl_arg X S1 i 1 (by omega) (lv_at hl 4 rfl) (lv_at hl 0 rfl) (by decide +kernel) (by decide +kernel) (by decide +kernel) (by decide +kernel) (by decide +kernel) ?_
  refine yl_callV X (a := 231) (ml := 3) (n := 1) (q := 102) (nq := 57) (ec := 11) (mc := 0) (ms := 0) (T9 := TX11) (N9 := 57) (as := [yi (xs (i + 1)).toInt]) (As := [.int (xs (i + 1))]) (rest := []) (ad := ad1) (h := (N1, T1, R1, I1)) (K' := fun r0 h' => ∃ (r : Int) (I' : Nat → Nat → Int) (L : Int), r0 = some (yi r) ∧ h' = (N1, T1, R1, I') ∧ uPo I1 I' L ∧ L = I1 102 2 ∧ ((r = 0 ∧ ¬ (0 ≤ (xs (i + 1)).toInt ∧ (xs (i + 1)).toInt ≤ 1 ∧ I1 125 (xs (i + 1)).toInt.toNat ≠ 0)) ∨ (r = 1 ∧ (0 ≤ (xs (i + 1)).toInt ∧ (xs (i + 1)).toInt ≤ 1 ∧ I1 125 (xs (i + 1)).toInt.toNat ≠ 0))) ∧ ((r = 0 ∧ uLm I1 I') ∨ (r = 1 ∧ I' 104 2 = I1 123 (1188 * (xs (i + 1)).toInt.toNat + 2) ∧ ∀ j, j < 8 → I' 107 j = I1 124 (8 * (xs (i + 1)).toInt.toNat + j))) ∧ I' 102 15 = I1 102 15)
    rfl zm_231 (v_231x hc1.1.2.1 hc1.1.2.2.1 (show 126 ≤ N1 by omega) (uInv_cg w.2.1 hc1.2.2.1) (fun r I' L hu u1 u2 u3 u4 => ⟨r, I', L, rfl, rfl, hu, u1, u2, u3, u4⟩)) rfl (⟨_, _, rfl, yG_r (show 102 < N1 by omega), _, _, rfl, yG_i _, rfl⟩) (Nat.le_of_ble_eq_true rfl) (show 102 < N1 by omega) (hc1.1.2.1 102 rfl) rfl (List.mem_of_getElem? (i := 1935) rfl) (List.mem_of_getElem? (i := 1936) rfl) (List.mem_of_getElem? (i := 1937) rfl) (by decide +kernel) rfl S1 hl.1 (Nat.zero_le _) (show decode code 1093 = .ok (.invokevirtual 164, 3) by decide +kernel) ⟨(show cells + 0 + 0 ≤ 601024 by omega), (show slots + (0) + 0 ≤ 7293034 by omega)⟩ (fun r h' g => by obtain ⟨r, _, _, e, _⟩ := g; exact ⟨r, e⟩) (fun y2 h2 ad2 H2 locs2 hK2 hA2 hN2 S2 => ?_)
  obtain ⟨r2, I2, L2, er2, rfl, hu, u1, u2, u3, u4⟩ := hK2
  have y2e : y2.toInt = r2 := by cases er2; rfl
  have f0 : ad2 0 = ad1 0 := hA2 0 (show 0 < N1 by omega)
  have f102 : ad2 102 = ad1 102 := hA2 102 (show 102 < N1 by omega)
  have f126 : ad2 126 = ad1 126 := hA2 126 (show 126 < N1 by omega)
  rw [← f0, ← f102, ← f126] at hl
  have eL : I1 102 2 = I 102 2 := hc1.2.2.1 102 2 (by decide) (by decide)
  have eW := w.2.2.1.1
  have wi : wInv N1 T1 R1 I2 ns1 := w_cu w hc1 hu (by omega) (fun j a b => absurd (show (j : Int) < I 1 1 by omega) b) (w_nr w hc1 hu (w_re w hc1 q3 u2) (fun g => by rcases q3 with ⟨a, _⟩ | ⟨_, a, b, _⟩ <;> omega) q4 u3) (by rw [hu.2.1 1 10 (.inl (by decide)), q5, u4, hc1.2.2.1 102 15 (by decide) (by decide)]; exact w.2.2.2.2.2.2)
  refine lv_pop hx hb (show decode code 1096 = .ok (.pop, 1) by decide +kernel) rfl ?_
  exact lv_goto (tgt := 1125) hx hb (show decode code 1097 = .ok (.goto 28, 3) by decide +kernel) (by decide) (ex ad2 N1 ns1 _ _ T1 R1 I2 H2 locs2 ls S2 wi hl (show cells + 0 + 0 ≤ cells + 32 by omega) (show slots + (0) + 0 + gPt ns1 ≤ slots + gPt ns + 4431 by rw [(show ns1 = ns from q2)]; omega))
set_option maxHeartbeats 4000000 in
set_option maxRecDepth 100000 in
theorem yl_op_count {ad : Nat → Nat} {N ns i cells slots : Nat} {T : Nat → Nat × Nat} {R : Nat → Nat → Option Nat} {I : Nat → Nat → Int} {H : Heap} {locs : List Loc} {ls : Array Slot} (X : lwX p l s m c b L xs D cy) (hi : i + 6 ≤ L) (S : lwS s D cy ad (N, T, R, I) H locs) (w : wInv N T R I ns) (hl : lv_has ls 7 [(4, .int (nI i)), (3, .ref (ad 126)), (2, .ref (ad 102)), (1, .ref (ad 0)), (0, .ref b)]) (hc : cells + 32 ≤ 601024) (hs : slots + gPt ns + 4431 ≤ 7293034)
    (ex : lwEx p l e s m below meth c b D cy Q i cells (slots + gPt ns + 4431)) : W p l e room_1 s m #[Value.ref b] below meth c H locs cells slots Q (F0 m 1100 ls []) := by
  have hx := X.1
  have hb := X.2.1
  have h127 := w.2.2.2.2.2.1
  refine lv_aload_n (i := 1) (x := ad 0) hx hb (show decode code 1100 = .ok (.aload_n 1, 1) by decide +kernel) rfl (lv_at hl 3 rfl) ?_
  refine yl_arg X S i 1 (by omega) (lv_at hl 4 rfl) (lv_at hl 0 rfl) (by decide +kernel) (by decide +kernel) (by decide +kernel) (by decide +kernel) (by decide +kernel) ?_
  refine yl_callV X (a := 118) (ml := 2) (n := 1) (q := 0) (nq := 10) (ec := 10) (mc := 0) (ms := 0) (T9 := TX10) (N9 := 10) (as := [yi (xs (i + 1)).toInt]) (As := [.int (xs (i + 1))]) (rest := []) (ad := ad) (h := (N, T, R, I)) (K' := fun r0 h' => ∃ (r : Int) (N' : Nat) (T' : Nat → Nat × Nat) (R' : Nat → Nat → Option Nat) (I' : Nat → Nat → Int) (ns' : Nat) (L : Int), r0 = some (yi r) ∧ h' = (N', T', R', I') ∧ cPo N T R I N' T' R' I' ns' L ∧ L = I 1 1 ∧ ns' = ns ∧ cLn I I')
    rfl zm_118 (v_118 w.1 (fun r N' T' R' I' ns' L hc q1 q2 q3 => ⟨r, N', T', R', I', ns', L, rfl, rfl, hc, q1, q2, q3⟩)) rfl (⟨_, _, rfl, yG_r (show 0 < N by omega), _, _, rfl, yG_i _, rfl⟩) (Nat.le_of_ble_eq_true rfl) (show 0 < N by omega) (w.1.2.1 0 rfl) rfl (List.mem_of_getElem? (i := 1249) rfl) (List.mem_of_getElem? (i := 1250) rfl) (List.mem_of_getElem? (i := 1251) rfl) (by decide +kernel) rfl S hl.1 (Nat.zero_le _) (show decode code 1107 = .ok (.invokevirtual 165, 3) by decide +kernel) ⟨(show cells + 0 ≤ 601024 by omega), (show slots + (0) ≤ 7293034 by omega)⟩ (fun r h' g => by obtain ⟨r, _, _, _, _, _, _, e, _⟩ := g; exact ⟨r, e⟩) (fun y1 h1 ad1 H1 locs1 hK hA hN S1 => ?_)
  obtain ⟨r1, N1, T1, R1, I1, ns1, L1, er, rfl, hc1, q1, q2, q3⟩ := hK
  have y1e : y1.toInt = r1 := by cases er; rfl
  have e0 : ad1 0 = ad 0 := hA 0 (show 0 < N by omega)
  have e102 : ad1 102 = ad 102 := hA 102 (show 102 < N by omega)
  have e126 : ad1 126 = ad 126 := hA 126 (show 126 < N by omega)
  have nN : N ≤ N1 := hc1.2.1.1
  rw [← e0, ← e102, ← e126] at hl
  refine lv_pop hx hb (show decode code 1110 = .ok (.pop, 1) by decide +kernel) rfl ?_
  refine lv_aload_n (i := 2) (x := ad1 102) hx hb (show decode code 1111 = .ok (.aload_n 2, 1) by decide +kernel) rfl (lv_at hl 2 rfl) ?_
  refine yl_arg X S1 i 1 (by omega) (lv_at hl 4 rfl) (lv_at hl 0 rfl) (by decide +kernel) (by decide +kernel) (by decide +kernel) (by decide +kernel) (by decide +kernel) ?_
  refine yl_callV X (a := 170) (ml := 4) (n := 1) (q := 102) (nq := 57) (ec := 11) (mc := 0) (ms := 0) (T9 := TX11) (N9 := 57) (as := [yi (xs (i + 1)).toInt]) (As := [.int (xs (i + 1))]) (rest := []) (ad := ad1) (h := (N1, T1, R1, I1)) (K' := fun r0 h' => ∃ (r : Int) (I' : Nat → Nat → Int) (L : Int), r0 = some (yi r) ∧ h' = (N1, T1, R1, I') ∧ uPo I1 I' L ∧ L = I1 102 2 ∧ uLn I1 I')
    rfl zm_170 (v_170 hc1.1.2.1 hc1.1.2.2.1 (show 126 ≤ N1 by omega) (uInv_cg w.2.1 hc1.2.2.1) (fun r I' L hu u1 u2 => ⟨r, I', L, rfl, rfl, hu, u1, u2⟩)) rfl (⟨_, _, rfl, yG_r (show 102 < N1 by omega), _, _, rfl, yG_i _, rfl⟩) (Nat.le_of_ble_eq_true rfl) (show 102 < N1 by omega) (hc1.1.2.1 102 rfl) rfl (List.mem_of_getElem? (i := 1939) rfl) (List.mem_of_getElem? (i := 1940) rfl) (List.mem_of_getElem? (i := 1941) rfl) (by decide +kernel) rfl S1 hl.1 (Nat.zero_le _) (show decode code 1118 = .ok (.invokevirtual 168, 3) by decide +kernel) ⟨(show cells + 0 + 0 ≤ 601024 by omega), (show slots + (0) + 0 ≤ 7293034 by omega)⟩ (fun r h' g => by obtain ⟨r, _, _, e, _⟩ := g; exact ⟨r, e⟩) (fun y2 h2 ad2 H2 locs2 hK2 hA2 hN2 S2 => ?_)
  obtain ⟨r2, I2, L2, er2, rfl, hu, u1, u2⟩ := hK2
  have y2e : y2.toInt = r2 := by cases er2; rfl
  have f0 : ad2 0 = ad1 0 := hA2 0 (show 0 < N1 by omega)
  have f102 : ad2 102 = ad1 102 := hA2 102 (show 102 < N1 by omega)
  have f126 : ad2 126 = ad1 126 := hA2 126 (show 126 < N1 by omega)
  rw [← f0, ← f102, ← f126] at hl
  have eL : I1 102 2 = I 102 2 := hc1.2.2.1 102 2 (by decide) (by decide)
  have eW := w.2.2.1.1
  have wi : wInv N1 T1 R1 I2 ns1 := w_cu w hc1 hu (by omega) (fun j a b => absurd (show (j : Int) < I 1 1 by omega) b) (w_nk w hc1 q3.1 hu ⟨u2.1.1, fun j _ => u2.1.2 j⟩) (by rw [hu.2.1 1 10 (.inl (by decide)), q3.2, u2.2, hc1.2.2.1 102 15 (by decide) (by decide)]; exact w.2.2.2.2.2.2)
  refine lv_pop hx hb (show decode code 1121 = .ok (.pop, 1) by decide +kernel) rfl ?_
  exact lv_goto (tgt := 1125) hx hb (show decode code 1122 = .ok (.goto 3, 3) by decide +kernel) (by decide) (ex ad2 N1 ns1 _ _ T1 R1 I2 H2 locs2 ls S2 wi hl (show cells + 0 + 0 ≤ cells + 32 by omega) (show slots + (0) + 0 + gPt ns1 ≤ slots + gPt ns + 4431 by rw [(show ns1 = ns from q2)]; omega))
end Yo
