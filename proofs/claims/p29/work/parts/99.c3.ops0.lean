/-! THE LAW's calls (printed by wip/whole/y/gen200.py) -/
/-- what is so behind a call: it goes on at the loop's end -/
def lwEx (p : Program) (l : Launch) (e : Env) (s : State) (m : MethodId) (below : List Frame) (meth : Method) (c : Code) (b : Nat) (D : va_G) (cy : Nat → ClassId) (Q : State → Prop) (i cells slots : Nat) : Prop :=
  ∀ (ad : Nat → Nat) (N ns cells' slots' : Nat) (T : Nat → Nat × Nat) (R : Nat → Nat → Option Nat) (I : Nat → Nat → Int) (H : Heap) (locs : List Loc) (ls : Array Slot), lwS s D cy ad (N, T, R, I) H locs → wInv N T R I ns → lv_has ls 7 [(4, .int (nI i)), (3, .ref (ad 126)), (2, .ref (ad 102)), (1, .ref (ad 0)), (0, .ref b)] → cells' ≤ cells + 32 → slots' + gPt ns ≤ slots → W p l e room_1 s m #[Value.ref b] below meth c H locs cells' slots' Q (F0 m 1125 ls [])
section Yo
variable {p : Program} {l : Launch} {e : Env} {s : State} {m : MethodId} {below : List Frame} {meth : Method} {c : Code} {b L : Nat} {xs : Nat → Int32} {D : va_G} {cy : Nat → ClassId} {Q : State → Prop}
set_option maxHeartbeats 4000000 in
set_option maxRecDepth 100000 in
theorem yl_op_feed {ad : Nat → Nat} {N ns i cells slots : Nat} {T : Nat → Nat × Nat} {R : Nat → Nat → Option Nat} {I : Nat → Nat → Int} {H : Heap} {locs : List Loc} {ls : Array Slot} (X : lwX p l s m c b L xs D cy) (hi : i + 6 ≤ L) (S : lwS s D cy ad (N, T, R, I) H locs) (w : wInv N T R I ns) (hl : lv_has ls 7 [(4, .int (nI i)), (3, .ref (ad 126)), (2, .ref (ad 102)), (1, .ref (ad 0)), (0, .ref b)]) (hc : cells + 32 ≤ 601024) (hs : slots + gPt ns + 4431 ≤ 7293034)
    (ex : lwEx p l e s m below meth c b D cy Q i cells (slots + gPt ns + 4431)) : W p l e room_1 s m #[Value.ref b] below meth c H locs cells slots Q (F0 m 196 ls []) := by
  have hx := X.1
  have hb := X.2.1
  have h127 := w.2.2.2.2.2.1
  refine lv_aload_n (i := 1) (x := ad 0) hx hb (show decode code 196 = .ok (.aload_n 1, 1) by decide +kernel) rfl (lv_at hl 3 rfl) ?_
  refine yl_arg X S i 1 (by omega) (lv_at hl 4 rfl) (lv_at hl 0 rfl) (by decide +kernel) (by decide +kernel) (by decide +kernel) (by decide +kernel) (by decide +kernel) ?_
  refine yl_arg X S i 2 (by omega) (lv_at hl 4 rfl) (lv_at hl 0 rfl) (by decide +kernel) (by decide +kernel) (by decide +kernel) (by decide +kernel) (by decide +kernel) ?_
  refine yl_arg X S i 3 (by omega) (lv_at hl 4 rfl) (lv_at hl 0 rfl) (by decide +kernel) (by decide +kernel) (by decide +kernel) (by decide +kernel) (by decide +kernel) ?_
  refine yl_arg X S i 4 (by omega) (lv_at hl 4 rfl) (lv_at hl 0 rfl) (by decide +kernel) (by decide +kernel) (by decide +kernel) (by decide +kernel) (by decide +kernel) ?_
  refine yl_arg X S i 5 (by omega) (lv_at hl 4 rfl) (lv_at hl 0 rfl) (by decide +kernel) (by decide +kernel) (by decide +kernel) (by decide +kernel) (by decide +kernel) ?_
  refine yl_callV X (a := 122) (ml := 6) (n := 5) (q := 0) (nq := 10) (ec := 10) (mc := 0) (ms := 0) (T9 := TX10) (N9 := 10) (as := [yi (xs (i + 1)).toInt, yi (xs (i + 2)).toInt, yi (xs (i + 3)).toInt, yi (xs (i + 4)).toInt, yi (xs (i + 5)).toInt]) (As := [.int (xs (i + 1)), .int (xs (i + 2)), .int (xs (i + 3)), .int (xs (i + 4)), .int (xs (i + 5))]) (rest := []) (ad := ad) (h := (N, T, R, I)) (K' := fun r0 h' => ∃ (r : Int) (N' : Nat) (T' : Nat → Nat × Nat) (R' : Nat → Nat → Option Nat) (I' : Nat → Nat → Int) (ns' : Nat) (L : Int), r0 = some (yi r) ∧ h' = (N', T', R', I') ∧ cPo N T R I N' T' R' I' ns' L ∧ ((r = -1 ∧ 940 < I 1 1 + 20 ∧ L = I 1 1) ∨ (r = I 1 1 + 20 ∧ I 1 1 + 20 ≤ 940 ∧ L = I 1 1 + 20)) ∧ ns' = ns ∧ (L = I 1 1 + 20 → ∀ q, q < 20 → I' 2 ((I 1 1).toNat + q) = yFbs (xs (i + 1)).toInt (xs (i + 2)).toInt (xs (i + 3)).toInt (xs (i + 4)).toInt (xs (i + 5)).toInt q) ∧ cLn I I')
    rfl zm_122 (v_122 w.1 (fun r N' T' R' I' ns' L hc q1 q2 q3 q4 => ⟨r, N', T', R', I', ns', L, rfl, rfl, hc, q1, q2, q3, q4⟩)) rfl (⟨_, _, rfl, yG_r (show 0 < N by omega), _, _, rfl, yG_i _, _, _, rfl, yG_i _, _, _, rfl, yG_i _, _, _, rfl, yG_i _, _, _, rfl, yG_i _, rfl⟩) (Nat.le_of_ble_eq_true rfl) (show 0 < N by omega) (w.1.2.1 0 rfl) rfl (List.mem_of_getElem? (i := 589) rfl) (List.mem_of_getElem? (i := 590) rfl) (List.mem_of_getElem? (i := 591) rfl) (by decide +kernel) rfl S hl.1 (Nat.zero_le _) (show decode code 227 = .ok (.invokevirtual 22, 3) by decide +kernel) ⟨(show cells + 0 ≤ 601024 by omega), (show slots + (0) ≤ 7293034 by omega)⟩ (fun r h' g => by obtain ⟨r, _, _, _, _, _, _, e, _⟩ := g; exact ⟨r, e⟩) (fun y1 h1 ad1 H1 locs1 hK hA hN S1 => ?_)
  obtain ⟨r1, N1, T1, R1, I1, ns1, L1, er, rfl, hc1, q1, q2, q3, q4⟩ := hK
  have y1e : y1.toInt = r1 := by cases er; rfl
  have e0 : ad1 0 = ad 0 := hA 0 (show 0 < N by omega)
  have e102 : ad1 102 = ad 102 := hA 102 (show 102 < N by omega)
  have e126 : ad1 126 = ad 126 := hA 126 (show 126 < N by omega)
  have nN : N ≤ N1 := hc1.2.1.1
  rw [← e0, ← e102, ← e126] at hl
  refine lv_pop hx hb (show decode code 230 = .ok (.pop, 1) by decide +kernel) rfl ?_
  refine lv_aload_n (i := 2) (x := ad1 102) hx hb (show decode code 231 = .ok (.aload_n 2, 1) by decide +kernel) rfl (lv_at hl 2 rfl) ?_
  refine yl_arg X S1 i 1 (by omega) (lv_at hl 4 rfl) (lv_at hl 0 rfl) (by decide +kernel) (by decide +kernel) (by decide +kernel) (by decide +kernel) (by decide +kernel) ?_
  refine yl_arg X S1 i 2 (by omega) (lv_at hl 4 rfl) (lv_at hl 0 rfl) (by decide +kernel) (by decide +kernel) (by decide +kernel) (by decide +kernel) (by decide +kernel) ?_
  refine yl_arg X S1 i 3 (by omega) (lv_at hl 4 rfl) (lv_at hl 0 rfl) (by decide +kernel) (by decide +kernel) (by decide +kernel) (by decide +kernel) (by decide +kernel) ?_
  refine yl_arg X S1 i 4 (by omega) (lv_at hl 4 rfl) (lv_at hl 0 rfl) (by decide +kernel) (by decide +kernel) (by decide +kernel) (by decide +kernel) (by decide +kernel) ?_
  refine yl_arg X S1 i 5 (by omega) (lv_at hl 4 rfl) (lv_at hl 0 rfl) (by decide +kernel) (by decide +kernel) (by decide +kernel) (by decide +kernel) (by decide +kernel) ?_
  refine yl_callV X (a := 179) (ml := 6) (n := 5) (q := 102) (nq := 57) (ec := 11) (mc := 0) (ms := 0) (T9 := TX11) (N9 := 57) (as := [yi (xs (i + 1)).toInt, yi (xs (i + 2)).toInt, yi (xs (i + 3)).toInt, yi (xs (i + 4)).toInt, yi (xs (i + 5)).toInt]) (As := [.int (xs (i + 1)), .int (xs (i + 2)), .int (xs (i + 3)), .int (xs (i + 4)), .int (xs (i + 5))]) (rest := []) (ad := ad1) (h := (N1, T1, R1, I1)) (K' := fun r0 h' => ∃ (r : Int) (I' : Nat → Nat → Int) (L : Int), r0 = some (yi r) ∧ h' = (N1, T1, R1, I') ∧ uPo I1 I' L ∧ ((r = -1 ∧ 940 < I1 102 2 + 20 ∧ L = I1 102 2) ∨ (r = I1 102 2 + 20 ∧ I1 102 2 + 20 ≤ 940 ∧ L = I1 102 2 + 20)) ∧ (L = I1 102 2 + 20 → ∀ q, q < 20 → I' 103 ((I1 102 2).toNat + q) = yFbs (xs (i + 1)).toInt (xs (i + 2)).toInt (xs (i + 3)).toInt (xs (i + 4)).toInt (xs (i + 5)).toInt q) ∧ uLn I1 I')
    rfl zm_179 (v_179 hc1.1.2.1 hc1.1.2.2.1 (show 126 ≤ N1 by omega) (uInv_cg w.2.1 hc1.2.2.1) (fun r I' L hu u1 u2 u3 => ⟨r, I', L, rfl, rfl, hu, u1, u2, u3⟩)) rfl (⟨_, _, rfl, yG_r (show 102 < N1 by omega), _, _, rfl, yG_i _, _, _, rfl, yG_i _, _, _, rfl, yG_i _, _, _, rfl, yG_i _, _, _, rfl, yG_i _, rfl⟩) (Nat.le_of_ble_eq_true rfl) (show 102 < N1 by omega) (hc1.1.2.1 102 rfl) rfl (List.mem_of_getElem? (i := 1334) rfl) (List.mem_of_getElem? (i := 1335) rfl) (List.mem_of_getElem? (i := 1336) rfl) (by decide +kernel) rfl S1 hl.1 (Nat.zero_le _) (show decode code 262 = .ok (.invokevirtual 26, 3) by decide +kernel) ⟨(show cells + 0 + 0 ≤ 601024 by omega), (show slots + (0) + 0 ≤ 7293034 by omega)⟩ (fun r h' g => by obtain ⟨r, _, _, e, _⟩ := g; exact ⟨r, e⟩) (fun y2 h2 ad2 H2 locs2 hK2 hA2 hN2 S2 => ?_)
  obtain ⟨r2, I2, L2, er2, rfl, hu, u1, u2, u3⟩ := hK2
  have y2e : y2.toInt = r2 := by cases er2; rfl
  have f0 : ad2 0 = ad1 0 := hA2 0 (show 0 < N1 by omega)
  have f102 : ad2 102 = ad1 102 := hA2 102 (show 102 < N1 by omega)
  have f126 : ad2 126 = ad1 126 := hA2 126 (show 126 < N1 by omega)
  rw [← f0, ← f102, ← f126] at hl
  have eL : I1 102 2 = I 102 2 := hc1.2.2.1 102 2 (by decide) (by decide)
  have eW := w.2.2.1.1
  have wi : wInv N1 T1 R1 I2 ns1 := w_cu w hc1 hu (by omega) (w_fd w hc1 hu (by omega) (by omega) q3 u2 (yFbs_rng _ _ _ _ _)) (w_nk w hc1 q4.1 hu ⟨u3.1.1, fun j _ => u3.1.2 j⟩) (by rw [hu.2.1 1 10 (.inl (by decide)), q4.2, u3.2, hc1.2.2.1 102 15 (by decide) (by decide)]; exact w.2.2.2.2.2.2)
  refine lv_pop hx hb (show decode code 265 = .ok (.pop, 1) by decide +kernel) rfl ?_
  exact lv_goto (tgt := 1125) hx hb (show decode code 266 = .ok (.goto 859, 3) by decide +kernel) (by decide) (ex ad2 N1 ns1 _ _ T1 R1 I2 H2 locs2 ls S2 wi hl (show cells + 0 + 0 ≤ cells + 32 by omega) (show slots + (0) + 0 + gPt ns1 ≤ slots + gPt ns + 4431 by rw [(show ns1 = ns from q2)]; omega))
set_option maxHeartbeats 4000000 in
set_option maxRecDepth 100000 in
theorem yl_op_end {ad : Nat → Nat} {N ns i cells slots : Nat} {T : Nat → Nat × Nat} {R : Nat → Nat → Option Nat} {I : Nat → Nat → Int} {H : Heap} {locs : List Loc} {ls : Array Slot} (X : lwX p l s m c b L xs D cy) (hi : i + 6 ≤ L) (S : lwS s D cy ad (N, T, R, I) H locs) (w : wInv N T R I ns) (hl : lv_has ls 7 [(4, .int (nI i)), (3, .ref (ad 126)), (2, .ref (ad 102)), (1, .ref (ad 0)), (0, .ref b)]) (hc : cells + 32 ≤ 601024) (hs : slots + gPt ns + 4431 ≤ 7293034)
    (ex : lwEx p l e s m below meth c b D cy Q i cells (slots + gPt ns + 4431)) : W p l e room_1 s m #[Value.ref b] below meth c H locs cells slots Q (F0 m 269 ls []) := by
  have hx := X.1
  have hb := X.2.1
  have h127 := w.2.2.2.2.2.1
  refine lv_aload_n (i := 1) (x := ad 0) hx hb (show decode code 269 = .ok (.aload_n 1, 1) by decide +kernel) rfl (lv_at hl 3 rfl) ?_
  refine yl_arg X S i 1 (by omega) (lv_at hl 4 rfl) (lv_at hl 0 rfl) (by decide +kernel) (by decide +kernel) (by decide +kernel) (by decide +kernel) (by decide +kernel) ?_
  refine yl_callV X (a := 120) (ml := 2) (n := 1) (q := 0) (nq := 10) (ec := 10) (mc := 0) (ms := 0) (T9 := TX10) (N9 := 10) (as := [yi (xs (i + 1)).toInt]) (As := [.int (xs (i + 1))]) (rest := []) (ad := ad) (h := (N, T, R, I)) (K' := fun r0 h' => ∃ (r : Int) (N' : Nat) (T' : Nat → Nat × Nat) (R' : Nat → Nat → Option Nat) (I' : Nat → Nat → Int) (ns' : Nat) (L : Int), r0 = some (yi r) ∧ h' = (N', T', R', I') ∧ cPo N T R I N' T' R' I' ns' L ∧ ((r = 1 ∧ 0 ≤ (xs (i + 1)).toInt ∧ (xs (i + 1)).toInt ≤ I 1 1 ∧ L = (xs (i + 1)).toInt) ∨ (r = 0 ∧ ¬ (0 ≤ (xs (i + 1)).toInt ∧ (xs (i + 1)).toInt ≤ I 1 1) ∧ L = I 1 1)) ∧ ns' = ns ∧ cLn I I')
    rfl zm_120 (v_120 w.1 (fun r N' T' R' I' ns' L hc q1 q2 q3 => ⟨r, N', T', R', I', ns', L, rfl, rfl, hc, q1, q2, q3⟩)) rfl (⟨_, _, rfl, yG_r (show 0 < N by omega), _, _, rfl, yG_i _, rfl⟩) (Nat.le_of_ble_eq_true rfl) (show 0 < N by omega) (w.1.2.1 0 rfl) rfl (List.mem_of_getElem? (i := 597) rfl) (List.mem_of_getElem? (i := 598) rfl) (List.mem_of_getElem? (i := 599) rfl) (by decide +kernel) rfl S hl.1 (Nat.zero_le _) (show decode code 276 = .ok (.invokevirtual 27, 3) by decide +kernel) ⟨(show cells + 0 ≤ 601024 by omega), (show slots + (0) ≤ 7293034 by omega)⟩ (fun r h' g => by obtain ⟨r, _, _, _, _, _, _, e, _⟩ := g; exact ⟨r, e⟩) (fun y1 h1 ad1 H1 locs1 hK hA hN S1 => ?_)
  obtain ⟨r1, N1, T1, R1, I1, ns1, L1, er, rfl, hc1, q1, q2, q3⟩ := hK
  have y1e : y1.toInt = r1 := by cases er; rfl
  have e0 : ad1 0 = ad 0 := hA 0 (show 0 < N by omega)
  have e102 : ad1 102 = ad 102 := hA 102 (show 102 < N by omega)
  have e126 : ad1 126 = ad 126 := hA 126 (show 126 < N by omega)
  have nN : N ≤ N1 := hc1.2.1.1
  rw [← e0, ← e102, ← e126] at hl
  refine lv_pop hx hb (show decode code 279 = .ok (.pop, 1) by decide +kernel) rfl ?_
  refine lv_aload_n (i := 2) (x := ad1 102) hx hb (show decode code 280 = .ok (.aload_n 2, 1) by decide +kernel) rfl (lv_at hl 2 rfl) ?_
  refine yl_arg X S1 i 1 (by omega) (lv_at hl 4 rfl) (lv_at hl 0 rfl) (by decide +kernel) (by decide +kernel) (by decide +kernel) (by decide +kernel) (by decide +kernel) ?_
  refine yl_callV X (a := 176) (ml := 2) (n := 1) (q := 102) (nq := 57) (ec := 11) (mc := 0) (ms := 0) (T9 := TX11) (N9 := 57) (as := [yi (xs (i + 1)).toInt]) (As := [.int (xs (i + 1))]) (rest := []) (ad := ad1) (h := (N1, T1, R1, I1)) (K' := fun r0 h' => ∃ (r : Int) (I' : Nat → Nat → Int) (L : Int), r0 = some (yi r) ∧ h' = (N1, T1, R1, I') ∧ uPo I1 I' L ∧ ((r = 1 ∧ 0 ≤ (xs (i + 1)).toInt ∧ (xs (i + 1)).toInt ≤ I1 102 2 ∧ L = (xs (i + 1)).toInt) ∨ (r = 0 ∧ ¬ (0 ≤ (xs (i + 1)).toInt ∧ (xs (i + 1)).toInt ≤ I1 102 2) ∧ L = I1 102 2)) ∧ uLn I1 I')
    rfl zm_176 (v_176 hc1.1.2.1 hc1.1.2.2.1 (show 126 ≤ N1 by omega) (uInv_cg w.2.1 hc1.2.2.1) (fun r I' L hu u1 u2 => ⟨r, I', L, rfl, rfl, hu, u1, u2⟩)) rfl (⟨_, _, rfl, yG_r (show 102 < N1 by omega), _, _, rfl, yG_i _, rfl⟩) (Nat.le_of_ble_eq_true rfl) (show 102 < N1 by omega) (hc1.1.2.1 102 rfl) rfl (List.mem_of_getElem? (i := 1343) rfl) (List.mem_of_getElem? (i := 1344) rfl) (List.mem_of_getElem? (i := 1345) rfl) (by decide +kernel) rfl S1 hl.1 (Nat.zero_le _) (show decode code 287 = .ok (.invokevirtual 31, 3) by decide +kernel) ⟨(show cells + 0 + 0 ≤ 601024 by omega), (show slots + (0) + 0 ≤ 7293034 by omega)⟩ (fun r h' g => by obtain ⟨r, _, _, e, _⟩ := g; exact ⟨r, e⟩) (fun y2 h2 ad2 H2 locs2 hK2 hA2 hN2 S2 => ?_)
  obtain ⟨r2, I2, L2, er2, rfl, hu, u1, u2⟩ := hK2
  have y2e : y2.toInt = r2 := by cases er2; rfl
  have f0 : ad2 0 = ad1 0 := hA2 0 (show 0 < N1 by omega)
  have f102 : ad2 102 = ad1 102 := hA2 102 (show 102 < N1 by omega)
  have f126 : ad2 126 = ad1 126 := hA2 126 (show 126 < N1 by omega)
  rw [← f0, ← f102, ← f126] at hl
  have eL : I1 102 2 = I 102 2 := hc1.2.2.1 102 2 (by decide) (by decide)
  have eW := w.2.2.1.1
  have wi : wInv N1 T1 R1 I2 ns1 := w_cu w hc1 hu (by omega) (fun j a b => absurd (show (j : Int) < I 1 1 by omega) b) (w_nk w hc1 q3.1 hu ⟨u2.1.1, fun j _ => u2.1.2 j⟩) (by rw [hu.2.1 1 10 (.inl (by decide)), q3.2, u2.2, hc1.2.2.1 102 15 (by decide) (by decide)]; exact w.2.2.2.2.2.2)
  refine lv_pop hx hb (show decode code 290 = .ok (.pop, 1) by decide +kernel) rfl ?_
  exact lv_goto (tgt := 1125) hx hb (show decode code 291 = .ok (.goto 834, 3) by decide +kernel) (by decide) (ex ad2 N1 ns1 _ _ T1 R1 I2 H2 locs2 ls S2 wi hl (show cells + 0 + 0 ≤ cells + 32 by omega) (show slots + (0) + 0 + gPt ns1 ≤ slots + gPt ns + 4431 by rw [(show ns1 = ns from q2)]; omega))
set_option maxHeartbeats 4000000 in
set_option maxRecDepth 100000 in
theorem yl_op_alleys {ad : Nat → Nat} {N ns i cells slots : Nat} {T : Nat → Nat × Nat} {R : Nat → Nat → Option Nat} {I : Nat → Nat → Int} {H : Heap} {locs : List Loc} {ls : Array Slot} (X : lwX p l s m c b L xs D cy) (hi : i + 6 ≤ L) (S : lwS s D cy ad (N, T, R, I) H locs) (w : wInv N T R I ns) (hl : lv_has ls 7 [(4, .int (nI i)), (3, .ref (ad 126)), (2, .ref (ad 102)), (1, .ref (ad 0)), (0, .ref b)]) (hc : cells + 32 ≤ 601024) (hs : slots + gPt ns + 4431 ≤ 7293034)
    (ex : lwEx p l e s m below meth c b D cy Q i cells (slots + gPt ns + 4431)) : W p l e room_1 s m #[Value.ref b] below meth c H locs cells slots Q (F0 m 294 ls []) := by
  have hx := X.1
  have hb := X.2.1
  have h127 := w.2.2.2.2.2.1
  refine lv_aload_n (i := 1) (x := ad 0) hx hb (show decode code 294 = .ok (.aload_n 1, 1) by decide +kernel) rfl (lv_at hl 3 rfl) ?_
  refine yl_callV X (a := 114) (ml := 2) (n := 0) (q := 0) (nq := 10) (ec := 10) (mc := 0) (ms := 0) (T9 := TX10) (N9 := 10) (as := []) (As := []) (rest := []) (ad := ad) (h := (N, T, R, I)) (K' := fun r0 h' => ∃ (r : Int) (N' : Nat) (T' : Nat → Nat × Nat) (R' : Nat → Nat → Option Nat) (I' : Nat → Nat → Int) (ns' : Nat) (L : Int), r0 = some (yi r) ∧ h' = (N', T', R', I') ∧ cPo N T R I N' T' R' I' ns' L ∧ L = 0 ∧ ns' = ns ∧ r = kAns (zAl (I 2) (I 1 1).toNat) ∧ I' 1 10 = kFc (zAl (I 2) (I 1 1).toNat) ∧ (∀ f, zAl (I 2) (I 1 1).toNat = .inl f → cLm I I') ∧ (∀ S c, zAl (I 2) (I 1 1).toNat = .inr (S, c) → cLr I' 4 S))
    rfl zm_114 (v_114x w.1 (fun r N' T' R' I' ns' L hc q1 q2 q3 q4 q5 q6 => ⟨r, N', T', R', I', ns', L, rfl, rfl, hc, q1, q2, q3, q4, q5, q6⟩)) rfl (⟨_, _, rfl, yG_r (show 0 < N by omega), rfl⟩) (Nat.le_of_ble_eq_true rfl) (show 0 < N by omega) (w.1.2.1 0 rfl) rfl (List.mem_of_getElem? (i := 601) rfl) (List.mem_of_getElem? (i := 602) rfl) (List.mem_of_getElem? (i := 603) rfl) (by decide +kernel) rfl S hl.1 (Nat.zero_le _) (show decode code 295 = .ok (.invokevirtual 32, 3) by decide +kernel) ⟨(show cells + 0 ≤ 601024 by omega), (show slots + (0) ≤ 7293034 by omega)⟩ (fun r h' g => by obtain ⟨r, _, _, _, _, _, _, e, _⟩ := g; exact ⟨r, e⟩) (fun y1 h1 ad1 H1 locs1 hK hA hN S1 => ?_)
  obtain ⟨r1, N1, T1, R1, I1, ns1, L1, er, rfl, hc1, q1, q2, q3, q4, q5, q6⟩ := hK
  have y1e : y1.toInt = r1 := by cases er; rfl
  have e0 : ad1 0 = ad 0 := hA 0 (show 0 < N by omega)
  have e102 : ad1 102 = ad 102 := hA 102 (show 102 < N by omega)
  have e126 : ad1 126 = ad 126 := hA 126 (show 126 < N by omega)
  have nN : N ≤ N1 := hc1.2.1.1
  rw [← e0, ← e102, ← e126] at hl
  refine lv_pop hx hb (show decode code 298 = .ok (.pop, 1) by decide +kernel) rfl ?_
  refine lv_aload_n (i := 2) (x := ad1 102) hx hb (show decode code 299 = .ok (.aload_n 2, 1) by decide +kernel) rfl (lv_at hl 2 rfl) ?_
  refine yl_callV X (a := 156) (ml := 2) (n := 0) (q := 102) (nq := 57) (ec := 11) (mc := 0) (ms := 0) (T9 := TX11) (N9 := 57) (as := []) (As := []) (rest := []) (ad := ad1) (h := (N1, T1, R1, I1)) (K' := fun r0 h' => ∃ (r : Int) (I' : Nat → Nat → Int) (L : Int), r0 = some (yi r) ∧ h' = (N1, T1, R1, I') ∧ uPo I1 I' L ∧ L = 0 ∧ r = kAns (zAl (I1 103) (I1 102 2).toNat) ∧ I' 102 15 = kFc (zAl (I1 103) (I1 102 2).toNat) ∧ (∀ f, zAl (I1 103) (I1 102 2).toNat = .inl f → I' 104 2 = I1 104 2 ∧ ∀ j, j < 8 → I' 107 j = I1 107 j) ∧ (∀ S c, zAl (I1 103) (I1 102 2).toNat = .inr (S, c) → I' 104 2 = (S.ch : Int) ∧ mNm I' 0 S.ch S.nm))
    rfl zm_156 (v_156x hc1.1.2.1 hc1.1.2.2.1 (show 126 ≤ N1 by omega) (uInv_cg w.2.1 hc1.2.2.1) (fun j hj => by rw [hc1.2.2.1 103 j (by decide) (by decide)]; exact (w.2.2.1.2.1 j (by rw [← hc1.2.2.1 102 2 (by decide) (by decide)]; exact hj)).2) (fun k hk => by rw [hc1.2.2.1 108 k (by decide) (by decide)]; exact w.2.2.1.2.2.1 k hk) (fun r I' L hu u1 u2 u3 u4 u5 => ⟨r, I', L, rfl, rfl, hu, u1, u2, u3, u4, u5⟩)) rfl (⟨_, _, rfl, yG_r (show 102 < N1 by omega), rfl⟩) (Nat.le_of_ble_eq_true rfl) (show 102 < N1 by omega) (hc1.1.2.1 102 rfl) rfl (List.mem_of_getElem? (i := 1549) rfl) (List.mem_of_getElem? (i := 1550) rfl) (List.mem_of_getElem? (i := 1551) rfl) (by decide +kernel) rfl S1 hl.1 (Nat.zero_le _) (show decode code 300 = .ok (.invokevirtual 36, 3) by decide +kernel) ⟨(show cells + 0 + 0 ≤ 601024 by omega), (show slots + (0) + 0 ≤ 7293034 by omega)⟩ (fun r h' g => by obtain ⟨r, _, _, e, _⟩ := g; exact ⟨r, e⟩) (fun y2 h2 ad2 H2 locs2 hK2 hA2 hN2 S2 => ?_)
  obtain ⟨r2, I2, L2, er2, rfl, hu, u1, u2, u3, u4, u5⟩ := hK2
  have y2e : y2.toInt = r2 := by cases er2; rfl
  have f0 : ad2 0 = ad1 0 := hA2 0 (show 0 < N1 by omega)
  have f102 : ad2 102 = ad1 102 := hA2 102 (show 102 < N1 by omega)
  have f126 : ad2 126 = ad1 126 := hA2 126 (show 126 < N1 by omega)
  rw [← f0, ← f102, ← f126] at hl
  have eL : I1 102 2 = I 102 2 := hc1.2.2.1 102 2 (by decide) (by decide)
  have eW := w.2.2.1.1
  have wi : wInv N1 T1 R1 I2 ns1 := w_cu w hc1 hu (by omega) (fun j a b => absurd (show (j : Int) < I 1 1 by omega) b) (w_na w hc1 hu (n := (I 1 1).toNat) (n' := (I1 102 2).toNat) (by rw [eL, eW]) (fun j hj => by rw [hc1.2.2.1 103 j (by decide) (by decide)]; exact (w.2.2.1.2.1 j (by omega)).1) q5 q6 u4 u5) (by rw [hu.2.1 1 10 (.inl (by decide)), q4, u3, eL, eW, zAl_cg (n := (I 102 2).toNat) (t := I 2) (t' := I1 103) (fun j hj => by rw [hc1.2.2.1 103 j (by decide) (by decide)]; exact (w.2.2.1.2.1 j (by omega)).1)])
  refine lv_pop hx hb (show decode code 303 = .ok (.pop, 1) by decide +kernel) rfl ?_
  exact lv_goto (tgt := 1125) hx hb (show decode code 304 = .ok (.goto 821, 3) by decide +kernel) (by decide) (ex ad2 N1 ns1 _ _ T1 R1 I2 H2 locs2 ls S2 wi hl (show cells + 0 + 0 ≤ cells + 32 by omega) (show slots + (0) + 0 + gPt ns1 ≤ slots + gPt ns + 4431 by rw [(show ns1 = ns from q2)]; omega))
set_option maxHeartbeats 4000000 in
set_option maxRecDepth 100000 in
theorem yl_op_fault {ad : Nat → Nat} {N ns i cells slots : Nat} {T : Nat → Nat × Nat} {R : Nat → Nat → Option Nat} {I : Nat → Nat → Int} {H : Heap} {locs : List Loc} {ls : Array Slot} (X : lwX p l s m c b L xs D cy) (hi : i + 6 ≤ L) (S : lwS s D cy ad (N, T, R, I) H locs) (w : wInv N T R I ns) (hl : lv_has ls 7 [(4, .int (nI i)), (3, .ref (ad 126)), (2, .ref (ad 102)), (1, .ref (ad 0)), (0, .ref b)]) (hc : cells + 32 ≤ 601024) (hs : slots + gPt ns + 4431 ≤ 7293034)
    (ex : lwEx p l e s m below meth c b D cy Q i cells (slots + gPt ns + 4431)) : W p l e room_1 s m #[Value.ref b] below meth c H locs cells slots Q (F0 m 307 ls []) := by
  have hx := X.1
  have hb := X.2.1
  have h127 := w.2.2.2.2.2.1
  refine lv_aload_n (i := 1) (x := ad 0) hx hb (show decode code 307 = .ok (.aload_n 1, 1) by decide +kernel) rfl (lv_at hl 3 rfl) ?_
  refine yl_callV X (a := 121) (ml := 1) (n := 0) (q := 0) (nq := 10) (ec := 10) (mc := 0) (ms := 0) (T9 := TX10) (N9 := 10) (as := []) (As := []) (rest := []) (ad := ad) (h := (N, T, R, I)) (K' := fun r0 h' => ∃ (r : Int) (N' : Nat) (T' : Nat → Nat × Nat) (R' : Nat → Nat → Option Nat) (I' : Nat → Nat → Int) (ns' : Nat) (L : Int), r0 = some (yi r) ∧ h' = (N', T', R', I') ∧ cPo N T R I N' T' R' I' ns' L ∧ L = I 1 1 ∧ ns' = ns ∧ cLn I I' ∧ r = I 1 10)
    rfl zm_121 (v_121x w.1 (fun r N' T' R' I' ns' L hc q1 q2 q3 q4 => ⟨r, N', T', R', I', ns', L, rfl, rfl, hc, q1, q2, q3, q4⟩)) rfl (⟨_, _, rfl, yG_r (show 0 < N by omega), rfl⟩) (Nat.le_of_ble_eq_true rfl) (show 0 < N by omega) (w.1.2.1 0 rfl) rfl (List.mem_of_getElem? (i := 790) rfl) (List.mem_of_getElem? (i := 791) rfl) (List.mem_of_getElem? (i := 792) rfl) (by decide +kernel) rfl S hl.1 (Nat.zero_le _) (show decode code 308 = .ok (.invokevirtual 37, 3) by decide +kernel) ⟨(show cells + 0 ≤ 601024 by omega), (show slots + (0) ≤ 7293034 by omega)⟩ (fun r h' g => by obtain ⟨r, _, _, _, _, _, _, e, _⟩ := g; exact ⟨r, e⟩) (fun y1 h1 ad1 H1 locs1 hK hA hN S1 => ?_)
  obtain ⟨r1, N1, T1, R1, I1, ns1, L1, er, rfl, hc1, q1, q2, q3, q4⟩ := hK
  have y1e : y1.toInt = r1 := by cases er; rfl
  have e0 : ad1 0 = ad 0 := hA 0 (show 0 < N by omega)
  have e102 : ad1 102 = ad 102 := hA 102 (show 102 < N by omega)
  have e126 : ad1 126 = ad 126 := hA 126 (show 126 < N by omega)
  have nN : N ≤ N1 := hc1.2.1.1
  rw [← e0, ← e102, ← e126] at hl
  refine lv_pop hx hb (show decode code 311 = .ok (.pop, 1) by decide +kernel) rfl ?_
  refine lv_aload_n (i := 2) (x := ad1 102) hx hb (show decode code 312 = .ok (.aload_n 2, 1) by decide +kernel) rfl (lv_at hl 2 rfl) ?_
  refine yl_callV X (a := 178) (ml := 1) (n := 0) (q := 102) (nq := 57) (ec := 11) (mc := 0) (ms := 0) (T9 := TX11) (N9 := 57) (as := []) (As := []) (rest := []) (ad := ad1) (h := (N1, T1, R1, I1)) (K' := fun r0 h' => ∃ (r : Int) (I' : Nat → Nat → Int) (L : Int), r0 = some (yi r) ∧ h' = (N1, T1, R1, I') ∧ uPo I1 I' L ∧ L = I1 102 2 ∧ uLn I1 I' ∧ r = I1 102 15)
    rfl zm_178 (v_178x hc1.1.2.1 hc1.1.2.2.1 (show 126 ≤ N1 by omega) (uInv_cg w.2.1 hc1.2.2.1) (fun r I' L hu u1 u2 u3 => ⟨r, I', L, rfl, rfl, hu, u1, u2, u3⟩)) rfl (⟨_, _, rfl, yG_r (show 102 < N1 by omega), rfl⟩) (Nat.le_of_ble_eq_true rfl) (show 102 < N1 by omega) (hc1.1.2.1 102 rfl) rfl (List.mem_of_getElem? (i := 1629) rfl) (List.mem_of_getElem? (i := 1630) rfl) (List.mem_of_getElem? (i := 1631) rfl) (by decide +kernel) rfl S1 hl.1 (Nat.zero_le _) (show decode code 313 = .ok (.invokevirtual 40, 3) by decide +kernel) ⟨(show cells + 0 + 0 ≤ 601024 by omega), (show slots + (0) + 0 ≤ 7293034 by omega)⟩ (fun r h' g => by obtain ⟨r, _, _, e, _⟩ := g; exact ⟨r, e⟩) (fun y2 h2 ad2 H2 locs2 hK2 hA2 hN2 S2 => ?_)
  obtain ⟨r2, I2, L2, er2, rfl, hu, u1, u2, u3⟩ := hK2
  have y2e : y2.toInt = r2 := by cases er2; rfl
  have f0 : ad2 0 = ad1 0 := hA2 0 (show 0 < N1 by omega)
  have f102 : ad2 102 = ad1 102 := hA2 102 (show 102 < N1 by omega)
  have f126 : ad2 126 = ad1 126 := hA2 126 (show 126 < N1 by omega)
  rw [← f0, ← f102, ← f126] at hl
  have eL : I1 102 2 = I 102 2 := hc1.2.2.1 102 2 (by decide) (by decide)
  have eW := w.2.2.1.1
  have wi : wInv N1 T1 R1 I2 ns1 := w_cu w hc1 hu (by omega) (fun j a b => absurd (show (j : Int) < I 1 1 by omega) b) (w_nk w hc1 q3.1 hu ⟨u2.1.1, fun j _ => u2.1.2 j⟩) (by rw [hu.2.1 1 10 (.inl (by decide)), q3.2, u2.2, hc1.2.2.1 102 15 (by decide) (by decide)]; exact w.2.2.2.2.2.2)
  refine lv_pop hx hb (show decode code 316 = .ok (.pop, 1) by decide +kernel) rfl ?_
  exact lv_goto (tgt := 1125) hx hb (show decode code 317 = .ok (.goto 808, 3) by decide +kernel) (by decide) (ex ad2 N1 ns1 _ _ T1 R1 I2 H2 locs2 ls S2 wi hl (show cells + 0 + 0 ≤ cells + 32 by omega) (show slots + (0) + 0 + gPt ns1 ≤ slots + gPt ns + 4431 by rw [(show ns1 = ns from q2)]; omega))
set_option maxHeartbeats 4000000 in
set_option maxRecDepth 100000 in
theorem yl_op_way {ad : Nat → Nat} {N ns i cells slots : Nat} {T : Nat → Nat × Nat} {R : Nat → Nat → Option Nat} {I : Nat → Nat → Int} {H : Heap} {locs : List Loc} {ls : Array Slot} (X : lwX p l s m c b L xs D cy) (hi : i + 6 ≤ L) (S : lwS s D cy ad (N, T, R, I) H locs) (w : wInv N T R I ns) (hl : lv_has ls 7 [(4, .int (nI i)), (3, .ref (ad 126)), (2, .ref (ad 102)), (1, .ref (ad 0)), (0, .ref b)]) (hc : cells + 32 ≤ 601024) (hs : slots + gPt ns + 4431 ≤ 7293034)
    (ex : lwEx p l e s m below meth c b D cy Q i cells (slots + gPt ns + 4431)) : W p l e room_1 s m #[Value.ref b] below meth c H locs cells slots Q (F0 m 400 ls []) := by
  have hx := X.1
  have hb := X.2.1
  have h127 := w.2.2.2.2.2.1
  refine lv_aload_n (i := 1) (x := ad 0) hx hb (show decode code 400 = .ok (.aload_n 1, 1) by decide +kernel) rfl (lv_at hl 3 rfl) ?_
  refine yl_arg X S i 1 (by omega) (lv_at hl 4 rfl) (lv_at hl 0 rfl) (by decide +kernel) (by decide +kernel) (by decide +kernel) (by decide +kernel) (by decide +kernel) ?_
  refine yl_arg X S i 2 (by omega) (lv_at hl 4 rfl) (lv_at hl 0 rfl) (by decide +kernel) (by decide +kernel) (by decide +kernel) (by decide +kernel) (by decide +kernel) ?_
  refine yl_callV X (a := 152) (ml := 3) (n := 2) (q := 0) (nq := 10) (ec := 10) (mc := 0) (ms := 0) (T9 := TX10) (N9 := 10) (as := [yi (xs (i + 1)).toInt, yi (xs (i + 2)).toInt]) (As := [.int (xs (i + 1)), .int (xs (i + 2))]) (rest := []) (ad := ad) (h := (N, T, R, I)) (K' := fun r0 h' => ∃ (r : Int) (N' : Nat) (T' : Nat → Nat × Nat) (R' : Nat → Nat → Option Nat) (I' : Nat → Nat → Int) (ns' : Nat) (L : Int), r0 = some (yi r) ∧ h' = (N', T', R', I') ∧ cPo N T R I N' T' R' I' ns' L ∧ L = I 1 1 ∧ ns' = ns ∧ cLn I I')
    rfl zm_152 (v_152 w.1 (fun r N' T' R' I' ns' L hc q1 q2 q3 => ⟨r, N', T', R', I', ns', L, rfl, rfl, hc, q1, q2, q3⟩)) rfl (⟨_, _, rfl, yG_r (show 0 < N by omega), _, _, rfl, yG_i _, _, _, rfl, yG_i _, rfl⟩) (Nat.le_of_ble_eq_true rfl) (show 0 < N by omega) (w.1.2.1 0 rfl) rfl (List.mem_of_getElem? (i := 794) rfl) (List.mem_of_getElem? (i := 795) rfl) (List.mem_of_getElem? (i := 796) rfl) (by decide +kernel) rfl S hl.1 (Nat.zero_le _) (show decode code 413 = .ok (.invokevirtual 50, 3) by decide +kernel) ⟨(show cells + 0 ≤ 601024 by omega), (show slots + (0) ≤ 7293034 by omega)⟩ (fun r h' g => by obtain ⟨r, _, _, _, _, _, _, e, _⟩ := g; exact ⟨r, e⟩) (fun y1 h1 ad1 H1 locs1 hK hA hN S1 => ?_)
  obtain ⟨r1, N1, T1, R1, I1, ns1, L1, er, rfl, hc1, q1, q2, q3⟩ := hK
  have y1e : y1.toInt = r1 := by cases er; rfl
  have e0 : ad1 0 = ad 0 := hA 0 (show 0 < N by omega)
  have e102 : ad1 102 = ad 102 := hA 102 (show 102 < N by omega)
  have e126 : ad1 126 = ad 126 := hA 126 (show 126 < N by omega)
  have nN : N ≤ N1 := hc1.2.1.1
  rw [← e0, ← e102, ← e126] at hl
  refine lv_pop hx hb (show decode code 416 = .ok (.pop, 1) by decide +kernel) rfl ?_
  refine lv_aload_n (i := 2) (x := ad1 102) hx hb (show decode code 417 = .ok (.aload_n 2, 1) by decide +kernel) rfl (lv_at hl 2 rfl) ?_
  refine yl_arg X S1 i 1 (by omega) (lv_at hl 4 rfl) (lv_at hl 0 rfl) (by decide +kernel) (by decide +kernel) (by decide +kernel) (by decide +kernel) (by decide +kernel) ?_
  refine yl_arg X S1 i 2 (by omega) (lv_at hl 4 rfl) (lv_at hl 0 rfl) (by decide +kernel) (by decide +kernel) (by decide +kernel) (by decide +kernel) (by decide +kernel) ?_
  refine yl_callV X (a := 254) (ml := 3) (n := 2) (q := 102) (nq := 57) (ec := 11) (mc := 0) (ms := 0) (T9 := TX11) (N9 := 57) (as := [yi (xs (i + 1)).toInt, yi (xs (i + 2)).toInt]) (As := [.int (xs (i + 1)), .int (xs (i + 2))]) (rest := []) (ad := ad1) (h := (N1, T1, R1, I1)) (K' := fun r0 h' => ∃ (r : Int) (I' : Nat → Nat → Int) (L : Int), r0 = some (yi r) ∧ h' = (N1, T1, R1, I') ∧ uPo I1 I' L ∧ L = I1 102 2 ∧ uLn I1 I')
    rfl zm_254 (v_254 hc1.1.2.1 hc1.1.2.2.1 (show 126 ≤ N1 by omega) (uInv_cg w.2.1 hc1.2.2.1) (fun r I' L hu u1 u2 => ⟨r, I', L, rfl, rfl, hu, u1, u2⟩)) rfl (⟨_, _, rfl, yG_r (show 102 < N1 by omega), _, _, rfl, yG_i _, _, _, rfl, yG_i _, rfl⟩) (Nat.le_of_ble_eq_true rfl) (show 102 < N1 by omega) (hc1.1.2.1 102 rfl) rfl (List.mem_of_getElem? (i := 1657) rfl) (List.mem_of_getElem? (i := 1658) rfl) (List.mem_of_getElem? (i := 1659) rfl) (by decide +kernel) rfl S1 hl.1 (Nat.zero_le _) (show decode code 430 = .ok (.invokevirtual 53, 3) by decide +kernel) ⟨(show cells + 0 + 0 ≤ 601024 by omega), (show slots + (0) + 0 ≤ 7293034 by omega)⟩ (fun r h' g => by obtain ⟨r, _, _, e, _⟩ := g; exact ⟨r, e⟩) (fun y2 h2 ad2 H2 locs2 hK2 hA2 hN2 S2 => ?_)
  obtain ⟨r2, I2, L2, er2, rfl, hu, u1, u2⟩ := hK2
  have y2e : y2.toInt = r2 := by cases er2; rfl
  have f0 : ad2 0 = ad1 0 := hA2 0 (show 0 < N1 by omega)
  have f102 : ad2 102 = ad1 102 := hA2 102 (show 102 < N1 by omega)
  have f126 : ad2 126 = ad1 126 := hA2 126 (show 126 < N1 by omega)
  rw [← f0, ← f102, ← f126] at hl
  have eL : I1 102 2 = I 102 2 := hc1.2.2.1 102 2 (by decide) (by decide)
  have eW := w.2.2.1.1
  have wi : wInv N1 T1 R1 I2 ns1 := w_cu w hc1 hu (by omega) (fun j a b => absurd (show (j : Int) < I 1 1 by omega) b) (w_nk w hc1 q3.1 hu ⟨u2.1.1, fun j _ => u2.1.2 j⟩) (by rw [hu.2.1 1 10 (.inl (by decide)), q3.2, u2.2, hc1.2.2.1 102 15 (by decide) (by decide)]; exact w.2.2.2.2.2.2)
  refine lv_pop hx hb (show decode code 433 = .ok (.pop, 1) by decide +kernel) rfl ?_
  exact lv_goto (tgt := 1125) hx hb (show decode code 434 = .ok (.goto 691, 3) by decide +kernel) (by decide) (ex ad2 N1 ns1 _ _ T1 R1 I2 H2 locs2 ls S2 wi hl (show cells + 0 + 0 ≤ cells + 32 by omega) (show slots + (0) + 0 + gPt ns1 ≤ slots + gPt ns + 4431 by rw [(show ns1 = ns from q2)]; omega))
set_option maxHeartbeats 4000000 in
set_option maxRecDepth 100000 in
theorem yl_op_next {ad : Nat → Nat} {N ns i cells slots : Nat} {T : Nat → Nat × Nat} {R : Nat → Nat → Option Nat} {I : Nat → Nat → Int} {H : Heap} {locs : List Loc} {ls : Array Slot} (X : lwX p l s m c b L xs D cy) (hi : i + 6 ≤ L) (S : lwS s D cy ad (N, T, R, I) H locs) (w : wInv N T R I ns) (hl : lv_has ls 7 [(4, .int (nI i)), (3, .ref (ad 126)), (2, .ref (ad 102)), (1, .ref (ad 0)), (0, .ref b)]) (hc : cells + 32 ≤ 601024) (hs : slots + gPt ns + 4431 ≤ 7293034)
    (ex : lwEx p l e s m below meth c b D cy Q i cells (slots + gPt ns + 4431)) : W p l e room_1 s m #[Value.ref b] below meth c H locs cells slots Q (F0 m 437 ls []) := by
  have hx := X.1
  have hb := X.2.1
  have h127 := w.2.2.2.2.2.1
  refine lv_aload_n (i := 1) (x := ad 0) hx hb (show decode code 437 = .ok (.aload_n 1, 1) by decide +kernel) rfl (lv_at hl 3 rfl) ?_
  refine yl_arg X S i 1 (by omega) (lv_at hl 4 rfl) (lv_at hl 0 rfl) (by decide +kernel) (by decide +kernel) (by decide +kernel) (by decide +kernel) (by decide +kernel) ?_
  refine yl_callV X (a := 137) (ml := 2) (n := 1) (q := 0) (nq := 10) (ec := 10) (mc := 0) (ms := 0) (T9 := TX10) (N9 := 10) (as := [yi (xs (i + 1)).toInt]) (As := [.int (xs (i + 1))]) (rest := []) (ad := ad) (h := (N, T, R, I)) (K' := fun r0 h' => ∃ (r : Int) (N' : Nat) (T' : Nat → Nat × Nat) (R' : Nat → Nat → Option Nat) (I' : Nat → Nat → Int) (ns' : Nat) (L : Int), r0 = some (yi r) ∧ h' = (N', T', R', I') ∧ cPo N T R I N' T' R' I' ns' L ∧ L = I 1 1 ∧ ns' = ns ∧ cLn I I')
    rfl zm_137 (v_137 w.1 (fun r N' T' R' I' ns' L hc q1 q2 q3 => ⟨r, N', T', R', I', ns', L, rfl, rfl, hc, q1, q2, q3⟩)) rfl (⟨_, _, rfl, yG_r (show 0 < N by omega), _, _, rfl, yG_i _, rfl⟩) (Nat.le_of_ble_eq_true rfl) (show 0 < N by omega) (w.1.2.1 0 rfl) rfl (List.mem_of_getElem? (i := 819) rfl) (List.mem_of_getElem? (i := 820) rfl) (List.mem_of_getElem? (i := 821) rfl) (by decide +kernel) rfl S hl.1 (Nat.zero_le _) (show decode code 444 = .ok (.invokevirtual 54, 3) by decide +kernel) ⟨(show cells + 0 ≤ 601024 by omega), (show slots + (0) ≤ 7293034 by omega)⟩ (fun r h' g => by obtain ⟨r, _, _, _, _, _, _, e, _⟩ := g; exact ⟨r, e⟩) (fun y1 h1 ad1 H1 locs1 hK hA hN S1 => ?_)
  obtain ⟨r1, N1, T1, R1, I1, ns1, L1, er, rfl, hc1, q1, q2, q3⟩ := hK
  have y1e : y1.toInt = r1 := by cases er; rfl
  have e0 : ad1 0 = ad 0 := hA 0 (show 0 < N by omega)
  have e102 : ad1 102 = ad 102 := hA 102 (show 102 < N by omega)
  have e126 : ad1 126 = ad 126 := hA 126 (show 126 < N by omega)
  have nN : N ≤ N1 := hc1.2.1.1
  rw [← e0, ← e102, ← e126] at hl
  refine lv_pop hx hb (show decode code 447 = .ok (.pop, 1) by decide +kernel) rfl ?_
  refine lv_aload_n (i := 2) (x := ad1 102) hx hb (show decode code 448 = .ok (.aload_n 2, 1) by decide +kernel) rfl (lv_at hl 2 rfl) ?_
  refine yl_arg X S1 i 1 (by omega) (lv_at hl 4 rfl) (lv_at hl 0 rfl) (by decide +kernel) (by decide +kernel) (by decide +kernel) (by decide +kernel) (by decide +kernel) ?_
  refine yl_callV X (a := 216) (ml := 2) (n := 1) (q := 102) (nq := 57) (ec := 11) (mc := 0) (ms := 0) (T9 := TX11) (N9 := 57) (as := [yi (xs (i + 1)).toInt]) (As := [.int (xs (i + 1))]) (rest := []) (ad := ad1) (h := (N1, T1, R1, I1)) (K' := fun r0 h' => ∃ (r : Int) (I' : Nat → Nat → Int) (L : Int), r0 = some (yi r) ∧ h' = (N1, T1, R1, I') ∧ uPo I1 I' L ∧ L = I1 102 2 ∧ uLn I1 I')
    rfl zm_216 (v_216 hc1.1.2.1 hc1.1.2.2.1 (show 126 ≤ N1 by omega) (uInv_cg w.2.1 hc1.2.2.1) (fun r I' L hu u1 u2 => ⟨r, I', L, rfl, rfl, hu, u1, u2⟩)) rfl (⟨_, _, rfl, yG_r (show 102 < N1 by omega), _, _, rfl, yG_i _, rfl⟩) (Nat.le_of_ble_eq_true rfl) (show 102 < N1 by omega) (hc1.1.2.1 102 rfl) rfl (List.mem_of_getElem? (i := 1677) rfl) (List.mem_of_getElem? (i := 1678) rfl) (List.mem_of_getElem? (i := 1679) rfl) (by decide +kernel) rfl S1 hl.1 (Nat.zero_le _) (show decode code 455 = .ok (.invokevirtual 58, 3) by decide +kernel) ⟨(show cells + 0 + 0 ≤ 601024 by omega), (show slots + (0) + 0 ≤ 7293034 by omega)⟩ (fun r h' g => by obtain ⟨r, _, _, e, _⟩ := g; exact ⟨r, e⟩) (fun y2 h2 ad2 H2 locs2 hK2 hA2 hN2 S2 => ?_)
  obtain ⟨r2, I2, L2, er2, rfl, hu, u1, u2⟩ := hK2
  have y2e : y2.toInt = r2 := by cases er2; rfl
  have f0 : ad2 0 = ad1 0 := hA2 0 (show 0 < N1 by omega)
  have f102 : ad2 102 = ad1 102 := hA2 102 (show 102 < N1 by omega)
  have f126 : ad2 126 = ad1 126 := hA2 126 (show 126 < N1 by omega)
  rw [← f0, ← f102, ← f126] at hl
  have eL : I1 102 2 = I 102 2 := hc1.2.2.1 102 2 (by decide) (by decide)
  have eW := w.2.2.1.1
  have wi : wInv N1 T1 R1 I2 ns1 := w_cu w hc1 hu (by omega) (fun j a b => absurd (show (j : Int) < I 1 1 by omega) b) (w_nk w hc1 q3.1 hu ⟨u2.1.1, fun j _ => u2.1.2 j⟩) (by rw [hu.2.1 1 10 (.inl (by decide)), q3.2, u2.2, hc1.2.2.1 102 15 (by decide) (by decide)]; exact w.2.2.2.2.2.2)
  refine lv_pop hx hb (show decode code 458 = .ok (.pop, 1) by decide +kernel) rfl ?_
  exact lv_goto (tgt := 1125) hx hb (show decode code 459 = .ok (.goto 666, 3) by decide +kernel) (by decide) (ex ad2 N1 ns1 _ _ T1 R1 I2 H2 locs2 ls S2 wi hl (show cells + 0 + 0 ≤ cells + 32 by omega) (show slots + (0) + 0 + gPt ns1 ≤ slots + gPt ns + 4431 by rw [(show ns1 = ns from q2)]; omega))
set_option maxHeartbeats 4000000 in
set_option maxRecDepth 100000 in
theorem yl_op_order {ad : Nat → Nat} {N ns i cells slots : Nat} {T : Nat → Nat × Nat} {R : Nat → Nat → Option Nat} {I : Nat → Nat → Int} {H : Heap} {locs : List Loc} {ls : Array Slot} (X : lwX p l s m c b L xs D cy) (hi : i + 6 ≤ L) (S : lwS s D cy ad (N, T, R, I) H locs) (w : wInv N T R I ns) (hl : lv_has ls 7 [(4, .int (nI i)), (3, .ref (ad 126)), (2, .ref (ad 102)), (1, .ref (ad 0)), (0, .ref b)]) (hc : cells + 32 ≤ 601024) (hs : slots + gPt ns + 4431 ≤ 7293034)
    (ex : lwEx p l e s m below meth c b D cy Q i cells (slots + gPt ns + 4431)) : W p l e room_1 s m #[Value.ref b] below meth c H locs cells slots Q (F0 m 462 ls []) := by
  have hx := X.1
  have hb := X.2.1
  have h127 := w.2.2.2.2.2.1
  refine lv_aload_n (i := 1) (x := ad 0) hx hb (show decode code 462 = .ok (.aload_n 1, 1) by decide +kernel) rfl (lv_at hl 3 rfl) ?_
  refine yl_arg X S i 1 (by omega) (lv_at hl 4 rfl) (lv_at hl 0 rfl) (by decide +kernel) (by decide +kernel) (by decide +kernel) (by decide +kernel) (by decide +kernel) ?_
  refine yl_callV X (a := 142) (ml := 2) (n := 1) (q := 0) (nq := 10) (ec := 10) (mc := 0) (ms := 0) (T9 := TX10) (N9 := 10) (as := [yi (xs (i + 1)).toInt]) (As := [.int (xs (i + 1))]) (rest := []) (ad := ad) (h := (N, T, R, I)) (K' := fun r0 h' => ∃ (r : Int) (N' : Nat) (T' : Nat → Nat × Nat) (R' : Nat → Nat → Option Nat) (I' : Nat → Nat → Int) (ns' : Nat) (L : Int), r0 = some (yi r) ∧ h' = (N', T', R', I') ∧ cPo N T R I N' T' R' I' ns' L ∧ L = I 1 1 ∧ ns' = ns ∧ cLn I I')
    rfl zm_142 (v_142 w.1 (fun r N' T' R' I' ns' L hc q1 q2 q3 => ⟨r, N', T', R', I', ns', L, rfl, rfl, hc, q1, q2, q3⟩)) rfl (⟨_, _, rfl, yG_r (show 0 < N by omega), _, _, rfl, yG_i _, rfl⟩) (Nat.le_of_ble_eq_true rfl) (show 0 < N by omega) (w.1.2.1 0 rfl) rfl (List.mem_of_getElem? (i := 832) rfl) (List.mem_of_getElem? (i := 833) rfl) (List.mem_of_getElem? (i := 834) rfl) (by decide +kernel) rfl S hl.1 (Nat.zero_le _) (show decode code 469 = .ok (.invokevirtual 59, 3) by decide +kernel) ⟨(show cells + 0 ≤ 601024 by omega), (show slots + (0) ≤ 7293034 by omega)⟩ (fun r h' g => by obtain ⟨r, _, _, _, _, _, _, e, _⟩ := g; exact ⟨r, e⟩) (fun y1 h1 ad1 H1 locs1 hK hA hN S1 => ?_)
  obtain ⟨r1, N1, T1, R1, I1, ns1, L1, er, rfl, hc1, q1, q2, q3⟩ := hK
  have y1e : y1.toInt = r1 := by cases er; rfl
  have e0 : ad1 0 = ad 0 := hA 0 (show 0 < N by omega)
  have e102 : ad1 102 = ad 102 := hA 102 (show 102 < N by omega)
  have e126 : ad1 126 = ad 126 := hA 126 (show 126 < N by omega)
  have nN : N ≤ N1 := hc1.2.1.1
  rw [← e0, ← e102, ← e126] at hl
  refine lv_pop hx hb (show decode code 472 = .ok (.pop, 1) by decide +kernel) rfl ?_
  refine lv_aload_n (i := 2) (x := ad1 102) hx hb (show decode code 473 = .ok (.aload_n 2, 1) by decide +kernel) rfl (lv_at hl 2 rfl) ?_
  refine yl_arg X S1 i 1 (by omega) (lv_at hl 4 rfl) (lv_at hl 0 rfl) (by decide +kernel) (by decide +kernel) (by decide +kernel) (by decide +kernel) (by decide +kernel) ?_
  refine yl_callV X (a := 223) (ml := 2) (n := 1) (q := 102) (nq := 57) (ec := 11) (mc := 0) (ms := 0) (T9 := TX11) (N9 := 57) (as := [yi (xs (i + 1)).toInt]) (As := [.int (xs (i + 1))]) (rest := []) (ad := ad1) (h := (N1, T1, R1, I1)) (K' := fun r0 h' => ∃ (r : Int) (I' : Nat → Nat → Int) (L : Int), r0 = some (yi r) ∧ h' = (N1, T1, R1, I') ∧ uPo I1 I' L ∧ L = I1 102 2 ∧ uLn I1 I')
    rfl zm_223 (v_223 hc1.1.2.1 hc1.1.2.2.1 (show 126 ≤ N1 by omega) (uInv_cg w.2.1 hc1.2.2.1) (fun r I' L hu u1 u2 => ⟨r, I', L, rfl, rfl, hu, u1, u2⟩)) rfl (⟨_, _, rfl, yG_r (show 102 < N1 by omega), _, _, rfl, yG_i _, rfl⟩) (Nat.le_of_ble_eq_true rfl) (show 102 < N1 by omega) (hc1.1.2.1 102 rfl) rfl (List.mem_of_getElem? (i := 1689) rfl) (List.mem_of_getElem? (i := 1690) rfl) (List.mem_of_getElem? (i := 1691) rfl) (by decide +kernel) rfl S1 hl.1 (Nat.zero_le _) (show decode code 480 = .ok (.invokevirtual 62, 3) by decide +kernel) ⟨(show cells + 0 + 0 ≤ 601024 by omega), (show slots + (0) + 0 ≤ 7293034 by omega)⟩ (fun r h' g => by obtain ⟨r, _, _, e, _⟩ := g; exact ⟨r, e⟩) (fun y2 h2 ad2 H2 locs2 hK2 hA2 hN2 S2 => ?_)
  obtain ⟨r2, I2, L2, er2, rfl, hu, u1, u2⟩ := hK2
  have y2e : y2.toInt = r2 := by cases er2; rfl
  have f0 : ad2 0 = ad1 0 := hA2 0 (show 0 < N1 by omega)
  have f102 : ad2 102 = ad1 102 := hA2 102 (show 102 < N1 by omega)
  have f126 : ad2 126 = ad1 126 := hA2 126 (show 126 < N1 by omega)
  rw [← f0, ← f102, ← f126] at hl
  have eL : I1 102 2 = I 102 2 := hc1.2.2.1 102 2 (by decide) (by decide)
  have eW := w.2.2.1.1
  have wi : wInv N1 T1 R1 I2 ns1 := w_cu w hc1 hu (by omega) (fun j a b => absurd (show (j : Int) < I 1 1 by omega) b) (w_nk w hc1 q3.1 hu ⟨u2.1.1, fun j _ => u2.1.2 j⟩) (by rw [hu.2.1 1 10 (.inl (by decide)), q3.2, u2.2, hc1.2.2.1 102 15 (by decide) (by decide)]; exact w.2.2.2.2.2.2)
  refine lv_pop hx hb (show decode code 483 = .ok (.pop, 1) by decide +kernel) rfl ?_
  exact lv_goto (tgt := 1125) hx hb (show decode code 484 = .ok (.goto 641, 3) by decide +kernel) (by decide) (ex ad2 N1 ns1 _ _ T1 R1 I2 H2 locs2 ls S2 wi hl (show cells + 0 + 0 ≤ cells + 32 by omega) (show slots + (0) + 0 + gPt ns1 ≤ slots + gPt ns + 4431 by rw [(show ns1 = ns from q2)]; omega))
set_option maxHeartbeats 4000000 in
set_option maxRecDepth 100000 in
theorem yl_op_on {ad : Nat → Nat} {N ns i cells slots : Nat} {T : Nat → Nat × Nat} {R : Nat → Nat → Option Nat} {I : Nat → Nat → Int} {H : Heap} {locs : List Loc} {ls : Array Slot} (X : lwX p l s m c b L xs D cy) (hi : i + 6 ≤ L) (S : lwS s D cy ad (N, T, R, I) H locs) (w : wInv N T R I ns) (hl : lv_has ls 7 [(4, .int (nI i)), (3, .ref (ad 126)), (2, .ref (ad 102)), (1, .ref (ad 0)), (0, .ref b)]) (hc : cells + 32 ≤ 601024) (hs : slots + gPt ns + 4431 ≤ 7293034)
    (ex : lwEx p l e s m below meth c b D cy Q i cells (slots + gPt ns + 4431)) : W p l e room_1 s m #[Value.ref b] below meth c H locs cells slots Q (F0 m 487 ls []) := by
  have hx := X.1
  have hb := X.2.1
  have h127 := w.2.2.2.2.2.1
  refine lv_aload_n (i := 1) (x := ad 0) hx hb (show decode code 487 = .ok (.aload_n 1, 1) by decide +kernel) rfl (lv_at hl 3 rfl) ?_
  refine yl_arg X S i 1 (by omega) (lv_at hl 4 rfl) (lv_at hl 0 rfl) (by decide +kernel) (by decide +kernel) (by decide +kernel) (by decide +kernel) (by decide +kernel) ?_
  refine yl_callV X (a := 140) (ml := 3) (n := 1) (q := 0) (nq := 10) (ec := 10) (mc := 13) (ms := 494) (T9 := TX10) (N9 := 10) (as := [yi (xs (i + 1)).toInt]) (As := [.int (xs (i + 1))]) (rest := []) (ad := ad) (h := (N, T, R, I)) (K' := fun r0 h' => ∃ (r : Int) (N' : Nat) (T' : Nat → Nat × Nat) (R' : Nat → Nat → Option Nat) (I' : Nat → Nat → Int) (ns' : Nat) (L : Int), r0 = some (yi r) ∧ h' = (N', T', R', I') ∧ cPo N T R I N' T' R' I' ns' L ∧ L = I 1 1 ∧ ns' = ns ∧ cLn I I')
    rfl zm_140 (v_140 w.1 (Nat.le_refl _) (Nat.le_refl _) (fun r N' T' R' I' ns' L hc q1 q2 q3 => ⟨r, N', T', R', I', ns', L, rfl, rfl, hc, q1, q2, q3⟩)) rfl (⟨_, _, rfl, yG_r (show 0 < N by omega), _, _, rfl, yG_i _, rfl⟩) (Nat.le_of_ble_eq_true rfl) (show 0 < N by omega) (w.1.2.1 0 rfl) rfl (List.mem_of_getElem? (i := 859) rfl) (List.mem_of_getElem? (i := 860) rfl) (List.mem_of_getElem? (i := 861) rfl) (by decide +kernel) rfl S hl.1 (Nat.zero_le _) (show decode code 494 = .ok (.invokevirtual 63, 3) by decide +kernel) ⟨(show cells + 13 ≤ 601024 by omega), (show slots + (494) ≤ 7293034 by omega)⟩ (fun r h' g => by obtain ⟨r, _, _, _, _, _, _, e, _⟩ := g; exact ⟨r, e⟩) (fun y1 h1 ad1 H1 locs1 hK hA hN S1 => ?_)
  obtain ⟨r1, N1, T1, R1, I1, ns1, L1, er, rfl, hc1, q1, q2, q3⟩ := hK
  have y1e : y1.toInt = r1 := by cases er; rfl
  have e0 : ad1 0 = ad 0 := hA 0 (show 0 < N by omega)
  have e102 : ad1 102 = ad 102 := hA 102 (show 102 < N by omega)
  have e126 : ad1 126 = ad 126 := hA 126 (show 126 < N by omega)
  have nN : N ≤ N1 := hc1.2.1.1
  rw [← e0, ← e102, ← e126] at hl
  refine lv_pop hx hb (show decode code 497 = .ok (.pop, 1) by decide +kernel) rfl ?_
  refine lv_aload_n (i := 2) (x := ad1 102) hx hb (show decode code 498 = .ok (.aload_n 2, 1) by decide +kernel) rfl (lv_at hl 2 rfl) ?_
  refine yl_arg X S1 i 1 (by omega) (lv_at hl 4 rfl) (lv_at hl 0 rfl) (by decide +kernel) (by decide +kernel) (by decide +kernel) (by decide +kernel) (by decide +kernel) ?_
  refine yl_callV X (a := 220) (ml := 3) (n := 1) (q := 102) (nq := 57) (ec := 11) (mc := 0) (ms := 0) (T9 := TX11) (N9 := 57) (as := [yi (xs (i + 1)).toInt]) (As := [.int (xs (i + 1))]) (rest := []) (ad := ad1) (h := (N1, T1, R1, I1)) (K' := fun r0 h' => ∃ (r : Int) (I' : Nat → Nat → Int) (L : Int), r0 = some (yi r) ∧ h' = (N1, T1, R1, I') ∧ uPo I1 I' L ∧ L = I1 102 2 ∧ uLn I1 I')
    rfl zm_220 (v_220 hc1.1.2.1 hc1.1.2.2.1 (show 126 ≤ N1 by omega) (uInv_cg w.2.1 hc1.2.2.1) (fun r I' L hu u1 u2 => ⟨r, I', L, rfl, rfl, hu, u1, u2⟩)) rfl (⟨_, _, rfl, yG_r (show 102 < N1 by omega), _, _, rfl, yG_i _, rfl⟩) (Nat.le_of_ble_eq_true rfl) (show 102 < N1 by omega) (hc1.1.2.1 102 rfl) rfl (List.mem_of_getElem? (i := 1701) rfl) (List.mem_of_getElem? (i := 1702) rfl) (List.mem_of_getElem? (i := 1703) rfl) (by decide +kernel) rfl S1 hl.1 (Nat.zero_le _) (show decode code 505 = .ok (.invokevirtual 66, 3) by decide +kernel) ⟨(show cells + 13 + 0 ≤ 601024 by omega), (show slots + (494) + 0 ≤ 7293034 by omega)⟩ (fun r h' g => by obtain ⟨r, _, _, e, _⟩ := g; exact ⟨r, e⟩) (fun y2 h2 ad2 H2 locs2 hK2 hA2 hN2 S2 => ?_)
  obtain ⟨r2, I2, L2, er2, rfl, hu, u1, u2⟩ := hK2
  have y2e : y2.toInt = r2 := by cases er2; rfl
  have f0 : ad2 0 = ad1 0 := hA2 0 (show 0 < N1 by omega)
  have f102 : ad2 102 = ad1 102 := hA2 102 (show 102 < N1 by omega)
  have f126 : ad2 126 = ad1 126 := hA2 126 (show 126 < N1 by omega)
  rw [← f0, ← f102, ← f126] at hl
  have eL : I1 102 2 = I 102 2 := hc1.2.2.1 102 2 (by decide) (by decide)
  have eW := w.2.2.1.1
  have wi : wInv N1 T1 R1 I2 ns1 := w_cu w hc1 hu (by omega) (fun j a b => absurd (show (j : Int) < I 1 1 by omega) b) (w_nk w hc1 q3.1 hu ⟨u2.1.1, fun j _ => u2.1.2 j⟩) (by rw [hu.2.1 1 10 (.inl (by decide)), q3.2, u2.2, hc1.2.2.1 102 15 (by decide) (by decide)]; exact w.2.2.2.2.2.2)
  refine lv_pop hx hb (show decode code 508 = .ok (.pop, 1) by decide +kernel) rfl ?_
  exact lv_goto (tgt := 1125) hx hb (show decode code 509 = .ok (.goto 616, 3) by decide +kernel) (by decide) (ex ad2 N1 ns1 _ _ T1 R1 I2 H2 locs2 ls S2 wi hl (show cells + 13 + 0 ≤ cells + 32 by omega) (show slots + (494) + 0 + gPt ns1 ≤ slots + gPt ns + 4431 by rw [(show ns1 = ns from q2)]; omega))
set_option maxHeartbeats 4000000 in
set_option maxRecDepth 100000 in
theorem yl_op_now {ad : Nat → Nat} {N ns i cells slots : Nat} {T : Nat → Nat × Nat} {R : Nat → Nat → Option Nat} {I : Nat → Nat → Int} {H : Heap} {locs : List Loc} {ls : Array Slot} (X : lwX p l s m c b L xs D cy) (hi : i + 6 ≤ L) (S : lwS s D cy ad (N, T, R, I) H locs) (w : wInv N T R I ns) (hl : lv_has ls 7 [(4, .int (nI i)), (3, .ref (ad 126)), (2, .ref (ad 102)), (1, .ref (ad 0)), (0, .ref b)]) (hc : cells + 32 ≤ 601024) (hs : slots + gPt ns + 4431 ≤ 7293034)
    (ex : lwEx p l e s m below meth c b D cy Q i cells (slots + gPt ns + 4431)) : W p l e room_1 s m #[Value.ref b] below meth c H locs cells slots Q (F0 m 512 ls []) := by
  have hx := X.1
  have hb := X.2.1
  have h127 := w.2.2.2.2.2.1
  refine lv_aload_n (i := 1) (x := ad 0) hx hb (show decode code 512 = .ok (.aload_n 1, 1) by decide +kernel) rfl (lv_at hl 3 rfl) ?_
  refine yl_arg X S i 1 (by omega) (lv_at hl 4 rfl) (lv_at hl 0 rfl) (by decide +kernel) (by decide +kernel) (by decide +kernel) (by decide +kernel) (by decide +kernel) ?_
  refine yl_callV X (a := 138) (ml := 4) (n := 1) (q := 0) (nq := 10) (ec := 10) (mc := 0) (ms := 0) (T9 := TX10) (N9 := 10) (as := [yi (xs (i + 1)).toInt]) (As := [.int (xs (i + 1))]) (rest := []) (ad := ad) (h := (N, T, R, I)) (K' := fun r0 h' => ∃ (r : Int) (N' : Nat) (T' : Nat → Nat × Nat) (R' : Nat → Nat → Option Nat) (I' : Nat → Nat → Int) (ns' : Nat) (L : Int), r0 = some (yi r) ∧ h' = (N', T', R', I') ∧ cPo N T R I N' T' R' I' ns' L ∧ L = I 1 1 ∧ ns' = ns ∧ cLn I I')
    rfl zm_138 (v_138 w.1 (fun r N' T' R' I' ns' L hc q1 q2 q3 => ⟨r, N', T', R', I', ns', L, rfl, rfl, hc, q1, q2, q3⟩)) rfl (⟨_, _, rfl, yG_r (show 0 < N by omega), _, _, rfl, yG_i _, rfl⟩) (Nat.le_of_ble_eq_true rfl) (show 0 < N by omega) (w.1.2.1 0 rfl) rfl (List.mem_of_getElem? (i := 942) rfl) (List.mem_of_getElem? (i := 943) rfl) (List.mem_of_getElem? (i := 944) rfl) (by decide +kernel) rfl S hl.1 (Nat.zero_le _) (show decode code 519 = .ok (.invokevirtual 67, 3) by decide +kernel) ⟨(show cells + 0 ≤ 601024 by omega), (show slots + (0) ≤ 7293034 by omega)⟩ (fun r h' g => by obtain ⟨r, _, _, _, _, _, _, e, _⟩ := g; exact ⟨r, e⟩) (fun y1 h1 ad1 H1 locs1 hK hA hN S1 => ?_)
  obtain ⟨r1, N1, T1, R1, I1, ns1, L1, er, rfl, hc1, q1, q2, q3⟩ := hK
  have y1e : y1.toInt = r1 := by cases er; rfl
  have e0 : ad1 0 = ad 0 := hA 0 (show 0 < N by omega)
  have e102 : ad1 102 = ad 102 := hA 102 (show 102 < N by omega)
  have e126 : ad1 126 = ad 126 := hA 126 (show 126 < N by omega)
  have nN : N ≤ N1 := hc1.2.1.1
  rw [← e0, ← e102, ← e126] at hl
  refine lv_pop hx hb (show decode code 522 = .ok (.pop, 1) by decide +kernel) rfl ?_
  refine lv_aload_n (i := 2) (x := ad1 102) hx hb (show decode code 523 = .ok (.aload_n 2, 1) by decide +kernel) rfl (lv_at hl 2 rfl) ?_
  refine yl_arg X S1 i 1 (by omega) (lv_at hl 4 rfl) (lv_at hl 0 rfl) (by decide +kernel) (by decide +kernel) (by decide +kernel) (by decide +kernel) (by decide +kernel) ?_
  refine yl_callV X (a := 218) (ml := 6) (n := 1) (q := 102) (nq := 57) (ec := 11) (mc := 0) (ms := 0) (T9 := TX11) (N9 := 57) (as := [yi (xs (i + 1)).toInt]) (As := [.int (xs (i + 1))]) (rest := []) (ad := ad1) (h := (N1, T1, R1, I1)) (K' := fun r0 h' => ∃ (r : Int) (I' : Nat → Nat → Int) (L : Int), r0 = some (yi r) ∧ h' = (N1, T1, R1, I') ∧ uPo I1 I' L ∧ L = I1 102 2 ∧ uLn I1 I')
    rfl zm_218 (v_218 hc1.1.2.1 hc1.1.2.2.1 (show 126 ≤ N1 by omega) (uInv_cg w.2.1 hc1.2.2.1) (fun r I' L hu u1 u2 => ⟨r, I', L, rfl, rfl, hu, u1, u2⟩)) rfl (⟨_, _, rfl, yG_r (show 102 < N1 by omega), _, _, rfl, yG_i _, rfl⟩) (Nat.le_of_ble_eq_true rfl) (show 102 < N1 by omega) (hc1.1.2.1 102 rfl) rfl (List.mem_of_getElem? (i := 1734) rfl) (List.mem_of_getElem? (i := 1735) rfl) (List.mem_of_getElem? (i := 1736) rfl) (by decide +kernel) rfl S1 hl.1 (Nat.zero_le _) (show decode code 530 = .ok (.invokevirtual 70, 3) by decide +kernel) ⟨(show cells + 0 + 0 ≤ 601024 by omega), (show slots + (0) + 0 ≤ 7293034 by omega)⟩ (fun r h' g => by obtain ⟨r, _, _, e, _⟩ := g; exact ⟨r, e⟩) (fun y2 h2 ad2 H2 locs2 hK2 hA2 hN2 S2 => ?_)
  obtain ⟨r2, I2, L2, er2, rfl, hu, u1, u2⟩ := hK2
  have y2e : y2.toInt = r2 := by cases er2; rfl
  have f0 : ad2 0 = ad1 0 := hA2 0 (show 0 < N1 by omega)
  have f102 : ad2 102 = ad1 102 := hA2 102 (show 102 < N1 by omega)
  have f126 : ad2 126 = ad1 126 := hA2 126 (show 126 < N1 by omega)
  rw [← f0, ← f102, ← f126] at hl
  have eL : I1 102 2 = I 102 2 := hc1.2.2.1 102 2 (by decide) (by decide)
  have eW := w.2.2.1.1
  have wi : wInv N1 T1 R1 I2 ns1 := w_cu w hc1 hu (by omega) (fun j a b => absurd (show (j : Int) < I 1 1 by omega) b) (w_nk w hc1 q3.1 hu ⟨u2.1.1, fun j _ => u2.1.2 j⟩) (by rw [hu.2.1 1 10 (.inl (by decide)), q3.2, u2.2, hc1.2.2.1 102 15 (by decide) (by decide)]; exact w.2.2.2.2.2.2)
  refine lv_pop hx hb (show decode code 533 = .ok (.pop, 1) by decide +kernel) rfl ?_
  exact lv_goto (tgt := 1125) hx hb (show decode code 534 = .ok (.goto 591, 3) by decide +kernel) (by decide) (ex ad2 N1 ns1 _ _ T1 R1 I2 H2 locs2 ls S2 wi hl (show cells + 0 + 0 ≤ cells + 32 by omega) (show slots + (0) + 0 + gPt ns1 ≤ slots + gPt ns + 4431 by rw [(show ns1 = ns from q2)]; omega))
set_option maxHeartbeats 4000000 in
set_option maxRecDepth 100000 in
theorem yl_op_met {ad : Nat → Nat} {N ns i cells slots : Nat} {T : Nat → Nat × Nat} {R : Nat → Nat → Option Nat} {I : Nat → Nat → Int} {H : Heap} {locs : List Loc} {ls : Array Slot} (X : lwX p l s m c b L xs D cy) (hi : i + 6 ≤ L) (S : lwS s D cy ad (N, T, R, I) H locs) (w : wInv N T R I ns) (hl : lv_has ls 7 [(4, .int (nI i)), (3, .ref (ad 126)), (2, .ref (ad 102)), (1, .ref (ad 0)), (0, .ref b)]) (hc : cells + 32 ≤ 601024) (hs : slots + gPt ns + 4431 ≤ 7293034)
    (ex : lwEx p l e s m below meth c b D cy Q i cells (slots + gPt ns + 4431)) : W p l e room_1 s m #[Value.ref b] below meth c H locs cells slots Q (F0 m 537 ls []) := by
  have hx := X.1
  have hb := X.2.1
  have h127 := w.2.2.2.2.2.1
  refine lv_aload_n (i := 1) (x := ad 0) hx hb (show decode code 537 = .ok (.aload_n 1, 1) by decide +kernel) rfl (lv_at hl 3 rfl) ?_
  refine yl_arg X S i 1 (by omega) (lv_at hl 4 rfl) (lv_at hl 0 rfl) (by decide +kernel) (by decide +kernel) (by decide +kernel) (by decide +kernel) (by decide +kernel) ?_
  refine yl_arg X S i 2 (by omega) (lv_at hl 4 rfl) (lv_at hl 0 rfl) (by decide +kernel) (by decide +kernel) (by decide +kernel) (by decide +kernel) (by decide +kernel) ?_
  refine yl_callV X (a := 136) (ml := 3) (n := 2) (q := 0) (nq := 10) (ec := 10) (mc := 0) (ms := 0) (T9 := TX10) (N9 := 10) (as := [yi (xs (i + 1)).toInt, yi (xs (i + 2)).toInt]) (As := [.int (xs (i + 1)), .int (xs (i + 2))]) (rest := []) (ad := ad) (h := (N, T, R, I)) (K' := fun r0 h' => ∃ (r : Int) (N' : Nat) (T' : Nat → Nat × Nat) (R' : Nat → Nat → Option Nat) (I' : Nat → Nat → Int) (ns' : Nat) (L : Int), r0 = some (yi r) ∧ h' = (N', T', R', I') ∧ cPo N T R I N' T' R' I' ns' L ∧ L = I 1 1 ∧ ns' = ns ∧ cLn I I')
    rfl zm_136 (v_136 w.1 (fun r N' T' R' I' ns' L hc q1 q2 q3 => ⟨r, N', T', R', I', ns', L, rfl, rfl, hc, q1, q2, q3⟩)) rfl (⟨_, _, rfl, yG_r (show 0 < N by omega), _, _, rfl, yG_i _, _, _, rfl, yG_i _, rfl⟩) (Nat.le_of_ble_eq_true rfl) (show 0 < N by omega) (w.1.2.1 0 rfl) rfl (List.mem_of_getElem? (i := 957) rfl) (List.mem_of_getElem? (i := 958) rfl) (List.mem_of_getElem? (i := 959) rfl) (by decide +kernel) rfl S hl.1 (Nat.zero_le _) (show decode code 550 = .ok (.invokevirtual 71, 3) by decide +kernel) ⟨(show cells + 0 ≤ 601024 by omega), (show slots + (0) ≤ 7293034 by omega)⟩ (fun r h' g => by obtain ⟨r, _, _, _, _, _, _, e, _⟩ := g; exact ⟨r, e⟩) (fun y1 h1 ad1 H1 locs1 hK hA hN S1 => ?_)
  obtain ⟨r1, N1, T1, R1, I1, ns1, L1, er, rfl, hc1, q1, q2, q3⟩ := hK
  have y1e : y1.toInt = r1 := by cases er; rfl
  have e0 : ad1 0 = ad 0 := hA 0 (show 0 < N by omega)
  have e102 : ad1 102 = ad 102 := hA 102 (show 102 < N by omega)
  have e126 : ad1 126 = ad 126 := hA 126 (show 126 < N by omega)
  have nN : N ≤ N1 := hc1.2.1.1
  rw [← e0, ← e102, ← e126] at hl
  refine lv_pop hx hb (show decode code 553 = .ok (.pop, 1) by decide +kernel) rfl ?_
  refine lv_aload_n (i := 2) (x := ad1 102) hx hb (show decode code 554 = .ok (.aload_n 2, 1) by decide +kernel) rfl (lv_at hl 2 rfl) ?_
  refine yl_arg X S1 i 1 (by omega) (lv_at hl 4 rfl) (lv_at hl 0 rfl) (by decide +kernel) (by decide +kernel) (by decide +kernel) (by decide +kernel) (by decide +kernel) ?_
  refine yl_arg X S1 i 2 (by omega) (lv_at hl 4 rfl) (lv_at hl 0 rfl) (by decide +kernel) (by decide +kernel) (by decide +kernel) (by decide +kernel) (by decide +kernel) ?_
  refine yl_callV X (a := 214) (ml := 3) (n := 2) (q := 102) (nq := 57) (ec := 11) (mc := 0) (ms := 0) (T9 := TX11) (N9 := 57) (as := [yi (xs (i + 1)).toInt, yi (xs (i + 2)).toInt]) (As := [.int (xs (i + 1)), .int (xs (i + 2))]) (rest := []) (ad := ad1) (h := (N1, T1, R1, I1)) (K' := fun r0 h' => ∃ (r : Int) (I' : Nat → Nat → Int) (L : Int), r0 = some (yi r) ∧ h' = (N1, T1, R1, I') ∧ uPo I1 I' L ∧ L = I1 102 2 ∧ uLn I1 I')
    rfl zm_214 (v_214 hc1.1.2.1 hc1.1.2.2.1 (show 126 ≤ N1 by omega) (uInv_cg w.2.1 hc1.2.2.1) (fun r I' L hu u1 u2 => ⟨r, I', L, rfl, rfl, hu, u1, u2⟩)) rfl (⟨_, _, rfl, yG_r (show 102 < N1 by omega), _, _, rfl, yG_i _, _, _, rfl, yG_i _, rfl⟩) (Nat.le_of_ble_eq_true rfl) (show 102 < N1 by omega) (hc1.1.2.1 102 rfl) rfl (List.mem_of_getElem? (i := 1738) rfl) (List.mem_of_getElem? (i := 1739) rfl) (List.mem_of_getElem? (i := 1740) rfl) (by decide +kernel) rfl S1 hl.1 (Nat.zero_le _) (show decode code 567 = .ok (.invokevirtual 74, 3) by decide +kernel) ⟨(show cells + 0 + 0 ≤ 601024 by omega), (show slots + (0) + 0 ≤ 7293034 by omega)⟩ (fun r h' g => by obtain ⟨r, _, _, e, _⟩ := g; exact ⟨r, e⟩) (fun y2 h2 ad2 H2 locs2 hK2 hA2 hN2 S2 => ?_)
  obtain ⟨r2, I2, L2, er2, rfl, hu, u1, u2⟩ := hK2
  have y2e : y2.toInt = r2 := by cases er2; rfl
  have f0 : ad2 0 = ad1 0 := hA2 0 (show 0 < N1 by omega)
  have f102 : ad2 102 = ad1 102 := hA2 102 (show 102 < N1 by omega)
  have f126 : ad2 126 = ad1 126 := hA2 126 (show 126 < N1 by omega)
  rw [← f0, ← f102, ← f126] at hl
  have eL : I1 102 2 = I 102 2 := hc1.2.2.1 102 2 (by decide) (by decide)
  have eW := w.2.2.1.1
  have wi : wInv N1 T1 R1 I2 ns1 := w_cu w hc1 hu (by omega) (fun j a b => absurd (show (j : Int) < I 1 1 by omega) b) (w_nk w hc1 q3.1 hu ⟨u2.1.1, fun j _ => u2.1.2 j⟩) (by rw [hu.2.1 1 10 (.inl (by decide)), q3.2, u2.2, hc1.2.2.1 102 15 (by decide) (by decide)]; exact w.2.2.2.2.2.2)
  refine lv_pop hx hb (show decode code 570 = .ok (.pop, 1) by decide +kernel) rfl ?_
  exact lv_goto (tgt := 1125) hx hb (show decode code 571 = .ok (.goto 554, 3) by decide +kernel) (by decide) (ex ad2 N1 ns1 _ _ T1 R1 I2 H2 locs2 ls S2 wi hl (show cells + 0 + 0 ≤ cells + 32 by omega) (show slots + (0) + 0 + gPt ns1 ≤ slots + gPt ns + 4431 by rw [(show ns1 = ns from q2)]; omega))
set_option maxHeartbeats 4000000 in
set_option maxRecDepth 100000 in
theorem yl_op_undo {ad : Nat → Nat} {N ns i cells slots : Nat} {T : Nat → Nat × Nat} {R : Nat → Nat → Option Nat} {I : Nat → Nat → Int} {H : Heap} {locs : List Loc} {ls : Array Slot} (X : lwX p l s m c b L xs D cy) (hi : i + 6 ≤ L) (S : lwS s D cy ad (N, T, R, I) H locs) (w : wInv N T R I ns) (hl : lv_has ls 7 [(4, .int (nI i)), (3, .ref (ad 126)), (2, .ref (ad 102)), (1, .ref (ad 0)), (0, .ref b)]) (hc : cells + 32 ≤ 601024) (hs : slots + gPt ns + 4431 ≤ 7293034)
    (ex : lwEx p l e s m below meth c b D cy Q i cells (slots + gPt ns + 4431)) : W p l e room_1 s m #[Value.ref b] below meth c H locs cells slots Q (F0 m 574 ls []) := by
  have hx := X.1
  have hb := X.2.1
  have h127 := w.2.2.2.2.2.1
  refine lv_aload_n (i := 1) (x := ad 0) hx hb (show decode code 574 = .ok (.aload_n 1, 1) by decide +kernel) rfl (lv_at hl 3 rfl) ?_
  refine yl_callV X (a := 149) (ml := 1) (n := 0) (q := 0) (nq := 10) (ec := 10) (mc := 0) (ms := 0) (T9 := TX10) (N9 := 10) (as := []) (As := []) (rest := []) (ad := ad) (h := (N, T, R, I)) (K' := fun r0 h' => ∃ (r : Int) (N' : Nat) (T' : Nat → Nat × Nat) (R' : Nat → Nat → Option Nat) (I' : Nat → Nat → Int) (ns' : Nat) (L : Int), r0 = some (yi r) ∧ h' = (N', T', R', I') ∧ cPo N T R I N' T' R' I' ns' L ∧ L = I 1 1 ∧ ns' = ns ∧ cLn I I')
    rfl zm_149 (v_149 w.1 (fun r N' T' R' I' ns' L hc q1 q2 q3 => ⟨r, N', T', R', I', ns', L, rfl, rfl, hc, q1, q2, q3⟩)) rfl (⟨_, _, rfl, yG_r (show 0 < N by omega), rfl⟩) (Nat.le_of_ble_eq_true rfl) (show 0 < N by omega) (w.1.2.1 0 rfl) rfl (List.mem_of_getElem? (i := 961) rfl) (List.mem_of_getElem? (i := 962) rfl) (List.mem_of_getElem? (i := 963) rfl) (by decide +kernel) rfl S hl.1 (Nat.zero_le _) (show decode code 575 = .ok (.invokevirtual 75, 3) by decide +kernel) ⟨(show cells + 0 ≤ 601024 by omega), (show slots + (0) ≤ 7293034 by omega)⟩ (fun r h' g => by obtain ⟨r, _, _, _, _, _, _, e, _⟩ := g; exact ⟨r, e⟩) (fun y1 h1 ad1 H1 locs1 hK hA hN S1 => ?_)
  obtain ⟨r1, N1, T1, R1, I1, ns1, L1, er, rfl, hc1, q1, q2, q3⟩ := hK
  have y1e : y1.toInt = r1 := by cases er; rfl
  have e0 : ad1 0 = ad 0 := hA 0 (show 0 < N by omega)
  have e102 : ad1 102 = ad 102 := hA 102 (show 102 < N by omega)
  have e126 : ad1 126 = ad 126 := hA 126 (show 126 < N by omega)
  have nN : N ≤ N1 := hc1.2.1.1
  rw [← e0, ← e102, ← e126] at hl
  refine lv_pop hx hb (show decode code 578 = .ok (.pop, 1) by decide +kernel) rfl ?_
  refine lv_aload_n (i := 2) (x := ad1 102) hx hb (show decode code 579 = .ok (.aload_n 2, 1) by decide +kernel) rfl (lv_at hl 2 rfl) ?_
  refine yl_callV X (a := 250) (ml := 2) (n := 0) (q := 102) (nq := 57) (ec := 11) (mc := 0) (ms := 0) (T9 := TX11) (N9 := 57) (as := []) (As := []) (rest := []) (ad := ad1) (h := (N1, T1, R1, I1)) (K' := fun r0 h' => ∃ (r : Int) (I' : Nat → Nat → Int) (L : Int), r0 = some (yi r) ∧ h' = (N1, T1, R1, I') ∧ uPo I1 I' L ∧ L = I1 102 2 ∧ uLn I1 I')
    rfl zm_250 (v_250 hc1.1.2.1 hc1.1.2.2.1 (show 126 ≤ N1 by omega) (uInv_cg w.2.1 hc1.2.2.1) (fun r I' L hu u1 u2 => ⟨r, I', L, rfl, rfl, hu, u1, u2⟩)) rfl (⟨_, _, rfl, yG_r (show 102 < N1 by omega), rfl⟩) (Nat.le_of_ble_eq_true rfl) (show 102 < N1 by omega) (hc1.1.2.1 102 rfl) rfl (List.mem_of_getElem? (i := 1742) rfl) (List.mem_of_getElem? (i := 1743) rfl) (List.mem_of_getElem? (i := 1744) rfl) (by decide +kernel) rfl S1 hl.1 (Nat.zero_le _) (show decode code 580 = .ok (.invokevirtual 78, 3) by decide +kernel) ⟨(show cells + 0 + 0 ≤ 601024 by omega), (show slots + (0) + 0 ≤ 7293034 by omega)⟩ (fun r h' g => by obtain ⟨r, _, _, e, _⟩ := g; exact ⟨r, e⟩) (fun y2 h2 ad2 H2 locs2 hK2 hA2 hN2 S2 => ?_)
  obtain ⟨r2, I2, L2, er2, rfl, hu, u1, u2⟩ := hK2
  have y2e : y2.toInt = r2 := by cases er2; rfl
  have f0 : ad2 0 = ad1 0 := hA2 0 (show 0 < N1 by omega)
  have f102 : ad2 102 = ad1 102 := hA2 102 (show 102 < N1 by omega)
  have f126 : ad2 126 = ad1 126 := hA2 126 (show 126 < N1 by omega)
  rw [← f0, ← f102, ← f126] at hl
  have eL : I1 102 2 = I 102 2 := hc1.2.2.1 102 2 (by decide) (by decide)
  have eW := w.2.2.1.1
  have wi : wInv N1 T1 R1 I2 ns1 := w_cu w hc1 hu (by omega) (fun j a b => absurd (show (j : Int) < I 1 1 by omega) b) (w_nk w hc1 q3.1 hu ⟨u2.1.1, fun j _ => u2.1.2 j⟩) (by rw [hu.2.1 1 10 (.inl (by decide)), q3.2, u2.2, hc1.2.2.1 102 15 (by decide) (by decide)]; exact w.2.2.2.2.2.2)
  refine lv_pop hx hb (show decode code 583 = .ok (.pop, 1) by decide +kernel) rfl ?_
  exact lv_goto (tgt := 1125) hx hb (show decode code 584 = .ok (.goto 541, 3) by decide +kernel) (by decide) (ex ad2 N1 ns1 _ _ T1 R1 I2 H2 locs2 ls S2 wi hl (show cells + 0 + 0 ≤ cells + 32 by omega) (show slots + (0) + 0 + gPt ns1 ≤ slots + gPt ns + 4431 by rw [(show ns1 = ns from q2)]; omega))
end Yo
