set_option maxHeartbeats 4000000 in
set_option maxRecDepth 100000 in
theorem zl_op_chair {p : Program} {l : Launch} {e : Env} {s : State} {m : MethodId} {below : List Frame} {meth : Method} {c : Code} {b : Nat} {xs : Nat → Int32} {D : va_G} {cy : Nat → ClassId} {ad : Nat → Nat} {ws : va_W} {H : Heap} {locs : List Loc} {ls : Array Slot} {q9 : Nat} {Q : State → Prop} (hx : p.tables.exec = Jvm.exec) (hb : c.code = code) (hml : c.maxLocals = 7) (hown : s.vm.findClass R_law = some m.cls) (hts : ∀ w ∈ lw_tbl, w.before #[Value.ref b] s = true) (hX : va_X b 6 xs s s.heap) (hbl : b < s.heap.size) (hst : zStat zSS D cy s) (hR : zR ad cy zh0 ws) (hP : va_P D vwCl ws H) (hD : va_D (fun q => s.heap.size ≤ q) ws) (hS : va_S (fun q => s.heap.size ≤ q) s.heap H locs) (hl : lv_has ls 7 [(4, .int 0), (3, .ref q9), (2, .ref (ad 102)), (1, .ref (ad 0)), (0, .ref b)])
    (ex : ∀ (H1 : Heap) (locs1 : List Loc) (cells slots : Nat) (ls1 : Array Slot), cells ≤ 1000 → slots ≤ 500000 → va_S (fun q => s.heap.size ≤ q) s.heap H1 locs1 → lv_has ls1 7 [(4, .int 0), (0, .ref b)] → W p l e room_1 s m #[Value.ref b] below meth c H1 locs1 cells slots Q (F0 m 1181 ls1 [])) (htr : l.stackTraces = false) (hF : xF (fun q => s.heap.size ≤ q) s) :
    W p l e room_1 s m #[Value.ref b] below meth c H locs 127 117458 Q (F0 m 320 ls []) := by
  obtain ⟨a1, g1, -, hk⟩ := zl_ck_chair (xs 1)
  refine lv_aload_n (i := 1) (x := ad 0) hx hb (show decode code 320 = .ok (.aload_n 1, 1) by decide +kernel) rfl (lv_at hl 3 rfl) ?_
  refine zl_arg hx hb hX hbl hS 1 (by omega) (by omega) (lv_at hl 4 rfl) (lv_at hl 0 rfl) (by decide +kernel) (by decide +kernel) (by decide +kernel) (by decide +kernel) (by decide +kernel) ?_
  refine zl_arg hx hb hX hbl hS 2 (by omega) (by omega) (lv_at hl 4 rfl) (lv_at hl 0 rfl) (by decide +kernel) (by decide +kernel) (by decide +kernel) (by decide +kernel) (by decide +kernel) ?_
  refine lv_aload_n (i := 3) (x := q9) hx hb (show decode code 333 = .ok (.aload_n 3, 1) by decide +kernel) rfl (lv_at hl 1 rfl) ?_
  refine va_calli (A0 := fun q => s.heap.size ≤ q) (vx_runSW (As := [.ref (ad 0), .int (xs 1), .int (xs 2), .ref q9]) (rest := []) (n := 4) ⟨hx, hb, hml, hown, hts⟩ (xh_chair (D := D) (cy := cy) (z := s.heap.size) (ad := ad) htr (xs 1) (xs 2) q9) (vx_cwSW 4 hts xL_good_chair rfl rfl rfl ⟨by decide, by decide, by decide +kernel⟩ ⟨Nat.le_of_ble_eq_true rfl, Nat.le_of_ble_eq_true rfl⟩) ⟨xPc_blind, fun U hU hW => ⟨rfl, zStat_warm hW hst, by rw [hU]; exact hS.1, xF_to hW (fun a h1 h2 => by rw [hU]; exact hS.2.1 a h1 h2) hF, by rw [hU]; exact ⟨ws, hR, hP, hD⟩⟩⟩ rfl rfl hl.1 rfl (lv_room (Nat.zero_le _)) (show decode code 334 = .ok (.invokestatic 41, 3) by decide +kernel) ⟨Nat.le_of_ble_eq_true rfl, Nat.le_of_ble_eq_true rfl⟩) hS (fun _ _ h => h) (fun _ h => h) (fun r u t H1 locs1 ht _ hr hB _ _ hS1 => ?_)
  subst hr
  rw [ht] at hB
  obtain ⟨ws1, hR1, hP1, hD1⟩ := hB
  refine lv_istore (lv' := [(5, .int (nI 1)), (4, .int 0), (3, .ref q9), (2, .ref (ad 102)), (1, .ref (ad 0)), (0, .ref b)]) hx hb (show decode code 337 = .ok (.istore 5, 2) by decide +kernel) hl (by decide) rfl (fun ls hl => ?_)
  refine lv_aload_n (i := 2) (x := ad 102) hx hb (show decode code 339 = .ok (.aload_n 2, 1) by decide +kernel) rfl (lv_at hl 3 rfl) ?_
  refine zl_arg hx hb hX hbl hS1 1 (by omega) (by omega) (lv_at hl 5 rfl) (lv_at hl 1 rfl) (by decide +kernel) (by decide +kernel) (by decide +kernel) (by decide +kernel) (by decide +kernel) ?_
  refine zl_arg hx hb hX hbl hS1 2 (by omega) (by omega) (lv_at hl 5 rfl) (lv_at hl 1 rfl) (by decide +kernel) (by decide +kernel) (by decide +kernel) (by decide +kernel) (by decide +kernel) ?_
  refine zl_callV (a := 99) (n := 2) (q := 102) (ec := 11) (T9 := TX11) (N9 := 57) (As := [.int (xs 1), .int (xs 2)]) (rest := []) (ad := ad) (h := zh0) hx hb hml hown hts hst (show zN zMs 99 = some ((3, 3), 0, 0, zc_99) from rfl) hk (⟨_, _, rfl, ⟨rfl, fun k q => by cases q; exact Nat.le_of_ble_eq_true rfl⟩, _, _, rfl, g1 _ _, _, _, rfl, zG_any _, rfl⟩) (Nat.le_of_ble_eq_true rfl) rfl rfl (List.mem_of_getElem? (i := 1637) rfl) (List.mem_of_getElem? (i := 1638) rfl) (List.mem_of_getElem? (i := 1639) rfl) (by decide +kernel) rfl hR1 hP1 hD1 hS1 hl.1 (Nat.zero_le _) (by decide +kernel) ⟨Nat.le_of_ble_eq_true rfl, Nat.le_of_ble_eq_true rfl⟩ (fun r2 h2 v2 ad2 ws2 H2 locs2 hK2 hg2 hA2 hN2 hR2 hP2 hD2 hS2 => ?_)
  obtain ⟨⟨x, rfl⟩, ⟨fs9, hq⟩, hk3⟩ := xThr_to hK2 hg2
  have h102 : ad2 102 = ad 102 := hA2 102 (Nat.le_of_ble_eq_true rfl)
  have hlt : 102 < h2.1 := Nat.lt_of_lt_of_le (Nat.le_of_ble_eq_true rfl : 102 < zh0.1) hN2
  refine lv_istore (lv' := [(6, .int x), (5, .int (nI 1)), (4, .int 0), (3, .ref q9), (2, .ref (ad 102)), (1, .ref (ad 0)), (0, .ref b)]) hx hb (show decode code 355 = .ok (.istore 6, 2) by decide +kernel) hl (by decide) rfl (fun ls hl => ?_)
  refine lv_aload_n (i := 2) (x := ad 102) hx hb (show decode code 357 = .ok (.aload_n 2, 1) by decide +kernel) rfl (lv_at hl 4 rfl) ?_
  rw [← h102]
  refine zl_callV (a := 144) (n := 0) (q := 102) (ec := 11) (T9 := TX11) (N9 := 57) (As := []) (rest := []) (ad := ad2) (h := h2) hx hb hml hown hts hst (show zN zMs 144 = some ((1, 1), 0, 0, zc_144) from rfl) hk3 (⟨_, _, rfl, ⟨rfl, fun k q => by cases q; exact hlt⟩, rfl⟩) (Nat.le_of_ble_eq_true rfl) hq rfl (List.mem_of_getElem? (i := 1334) rfl) (List.mem_of_getElem? (i := 1335) rfl) (List.mem_of_getElem? (i := 1336) rfl) (by decide +kernel) rfl hR2 hP2 hD2 hS2 hl.1 (Nat.zero_le _) (by decide +kernel) ⟨Nat.le_of_ble_eq_true rfl, Nat.le_of_ble_eq_true rfl⟩ (fun r3 h3 v3 ad3 ws3 H3 locs3 hK3 hg3 hA3 hN3 hR3 hP3 hD3 hS3 => ?_)
  obtain ⟨x3, rfl, hx3⟩ := zSame_to (ad2 := ad) (n2 := 0) (v2 := some (.int (nI 1))) hK3 hg3 rfl
  cases hx3
  refine lv_iload hx hb (show decode code 361 = .ok (.iload 5, 2) by decide +kernel) (lv_at hl 1 rfl) ?_
  refine lv_icmp_eq (tgt := 368) hx hb (show decode code 363 = .ok (.if_icmp .eq 5, 3) by decide +kernel) (by decide) (fun _ => ?_) (fun q => absurd rfl q)
  refine lv_iload hx hb (show decode code 368 = .ok (.iload 5, 2) by decide +kernel) (lv_at hl 1 rfl) ?_
  refine lv_if_ne (tgt := 385) hx hb (show decode code 370 = .ok (.ifCond .ne 15, 3) by decide +kernel) (by decide) (fun _ => ?_) (fun q => absurd q (by decide))
  refine lv_goto (tgt := 1181) hx hb (show decode code 385 = .ok (.goto 796, 3) by decide +kernel) (by decide) ?_
  exact ex H3 locs3 _ _ ls (Nat.le_of_ble_eq_true rfl) (Nat.le_of_ble_eq_true rfl) hS3 (lv_sub hl [2, 6] rfl)
set_option maxHeartbeats 4000000 in
set_option maxRecDepth 100000 in
theorem zl_op_cell {p : Program} {l : Launch} {e : Env} {s : State} {m : MethodId} {below : List Frame} {meth : Method} {c : Code} {b : Nat} {xs : Nat → Int32} {D : va_G} {cy : Nat → ClassId} {ad : Nat → Nat} {ws : va_W} {H : Heap} {locs : List Loc} {ls : Array Slot} {q9 : Nat} {Q : State → Prop} (hx : p.tables.exec = Jvm.exec) (hb : c.code = code) (hml : c.maxLocals = 7) (hown : s.vm.findClass R_law = some m.cls) (hts : ∀ w ∈ lw_tbl, w.before #[Value.ref b] s = true) (hX : va_X b 6 xs s s.heap) (hbl : b < s.heap.size) (hst : zStat zSS D cy s) (hR : zR ad cy zh0 ws) (hP : va_P D vwCl ws H) (hD : va_D (fun q => s.heap.size ≤ q) ws) (hS : va_S (fun q => s.heap.size ≤ q) s.heap H locs) (hl : lv_has ls 7 [(4, .int 0), (3, .ref q9), (2, .ref (ad 102)), (1, .ref (ad 0)), (0, .ref b)])
    (ex : ∀ (H1 : Heap) (locs1 : List Loc) (cells slots : Nat) (ls1 : Array Slot), cells ≤ 1000 → slots ≤ 500000 → va_S (fun q => s.heap.size ≤ q) s.heap H1 locs1 → lv_has ls1 7 [(4, .int 0), (0, .ref b)] → W p l e room_1 s m #[Value.ref b] below meth c H1 locs1 cells slots Q (F0 m 1181 ls1 [])) (htr : l.stackTraces = false) (hF : xF (fun q => s.heap.size ≤ q) s) :
    W p l e room_1 s m #[Value.ref b] below meth c H locs 127 117458 Q (F0 m 388 ls []) := by
  obtain ⟨a1, g1, -, hk⟩ := zl_ck_cell (xs 1)
  refine lv_aload_n (i := 1) (x := ad 0) hx hb (show decode code 388 = .ok (.aload_n 1, 1) by decide +kernel) rfl (lv_at hl 3 rfl) ?_
  refine zl_arg hx hb hX hbl hS 1 (by omega) (by omega) (lv_at hl 4 rfl) (lv_at hl 0 rfl) (by decide +kernel) (by decide +kernel) (by decide +kernel) (by decide +kernel) (by decide +kernel) ?_
  refine zl_arg hx hb hX hbl hS 2 (by omega) (by omega) (lv_at hl 4 rfl) (lv_at hl 0 rfl) (by decide +kernel) (by decide +kernel) (by decide +kernel) (by decide +kernel) (by decide +kernel) ?_
  refine lv_aload_n (i := 3) (x := q9) hx hb (show decode code 401 = .ok (.aload_n 3, 1) by decide +kernel) rfl (lv_at hl 1 rfl) ?_
  refine va_calli (A0 := fun q => s.heap.size ≤ q) (vx_runSW (As := [.ref (ad 0), .int (xs 1), .int (xs 2), .ref q9]) (rest := []) (n := 4) ⟨hx, hb, hml, hown, hts⟩ (xh_cell (D := D) (cy := cy) (z := s.heap.size) (ad := ad) htr (xs 1) (xs 2) q9) (vx_cwSW 4 hts xL_good_cell rfl rfl rfl ⟨by decide, by decide, by decide +kernel⟩ ⟨Nat.le_of_ble_eq_true rfl, Nat.le_of_ble_eq_true rfl⟩) ⟨xPc_blind, fun U hU hW => ⟨rfl, zStat_warm hW hst, by rw [hU]; exact hS.1, xF_to hW (fun a h1 h2 => by rw [hU]; exact hS.2.1 a h1 h2) hF, by rw [hU]; exact ⟨ws, hR, hP, hD⟩⟩⟩ rfl rfl hl.1 rfl (lv_room (Nat.zero_le _)) (show decode code 402 = .ok (.invokestatic 50, 3) by decide +kernel) ⟨Nat.le_of_ble_eq_true rfl, Nat.le_of_ble_eq_true rfl⟩) hS (fun _ _ h => h) (fun _ h => h) (fun r u t H1 locs1 ht _ hr hB _ _ hS1 => ?_)
  subst hr
  rw [ht] at hB
  obtain ⟨ws1, hR1, hP1, hD1⟩ := hB
  refine lv_istore (lv' := [(5, .int (nI 1)), (4, .int 0), (3, .ref q9), (2, .ref (ad 102)), (1, .ref (ad 0)), (0, .ref b)]) hx hb (show decode code 405 = .ok (.istore 5, 2) by decide +kernel) hl (by decide) rfl (fun ls hl => ?_)
  refine lv_aload_n (i := 2) (x := ad 102) hx hb (show decode code 407 = .ok (.aload_n 2, 1) by decide +kernel) rfl (lv_at hl 3 rfl) ?_
  refine zl_arg hx hb hX hbl hS1 1 (by omega) (by omega) (lv_at hl 5 rfl) (lv_at hl 1 rfl) (by decide +kernel) (by decide +kernel) (by decide +kernel) (by decide +kernel) (by decide +kernel) ?_
  refine zl_arg hx hb hX hbl hS1 2 (by omega) (by omega) (lv_at hl 5 rfl) (lv_at hl 1 rfl) (by decide +kernel) (by decide +kernel) (by decide +kernel) (by decide +kernel) (by decide +kernel) ?_
  refine zl_callV (a := 98) (n := 2) (q := 102) (ec := 11) (T9 := TX11) (N9 := 57) (As := [.int (xs 1), .int (xs 2)]) (rest := []) (ad := ad) (h := zh0) hx hb hml hown hts hst (show zN zMs 98 = some ((3, 3), 0, 0, zc_98) from rfl) hk (⟨_, _, rfl, ⟨rfl, fun k q => by cases q; exact Nat.le_of_ble_eq_true rfl⟩, _, _, rfl, g1 _ _, _, _, rfl, zG_any _, rfl⟩) (Nat.le_of_ble_eq_true rfl) rfl rfl (List.mem_of_getElem? (i := 1649) rfl) (List.mem_of_getElem? (i := 1650) rfl) (List.mem_of_getElem? (i := 1651) rfl) (by decide +kernel) rfl hR1 hP1 hD1 hS1 hl.1 (Nat.zero_le _) (by decide +kernel) ⟨Nat.le_of_ble_eq_true rfl, Nat.le_of_ble_eq_true rfl⟩ (fun r2 h2 v2 ad2 ws2 H2 locs2 hK2 hg2 hA2 hN2 hR2 hP2 hD2 hS2 => ?_)
  obtain ⟨⟨x, rfl⟩, ⟨fs9, hq⟩, hk3⟩ := xThr_to hK2 hg2
  have h102 : ad2 102 = ad 102 := hA2 102 (Nat.le_of_ble_eq_true rfl)
  have hlt : 102 < h2.1 := Nat.lt_of_lt_of_le (Nat.le_of_ble_eq_true rfl : 102 < zh0.1) hN2
  refine lv_istore (lv' := [(6, .int x), (5, .int (nI 1)), (4, .int 0), (3, .ref q9), (2, .ref (ad 102)), (1, .ref (ad 0)), (0, .ref b)]) hx hb (show decode code 423 = .ok (.istore 6, 2) by decide +kernel) hl (by decide) rfl (fun ls hl => ?_)
  refine lv_aload_n (i := 2) (x := ad 102) hx hb (show decode code 425 = .ok (.aload_n 2, 1) by decide +kernel) rfl (lv_at hl 4 rfl) ?_
  rw [← h102]
  refine zl_callV (a := 144) (n := 0) (q := 102) (ec := 11) (T9 := TX11) (N9 := 57) (As := []) (rest := []) (ad := ad2) (h := h2) hx hb hml hown hts hst (show zN zMs 144 = some ((1, 1), 0, 0, zc_144) from rfl) hk3 (⟨_, _, rfl, ⟨rfl, fun k q => by cases q; exact hlt⟩, rfl⟩) (Nat.le_of_ble_eq_true rfl) hq rfl (List.mem_of_getElem? (i := 1334) rfl) (List.mem_of_getElem? (i := 1335) rfl) (List.mem_of_getElem? (i := 1336) rfl) (by decide +kernel) rfl hR2 hP2 hD2 hS2 hl.1 (Nat.zero_le _) (by decide +kernel) ⟨Nat.le_of_ble_eq_true rfl, Nat.le_of_ble_eq_true rfl⟩ (fun r3 h3 v3 ad3 ws3 H3 locs3 hK3 hg3 hA3 hN3 hR3 hP3 hD3 hS3 => ?_)
  obtain ⟨x3, rfl, hx3⟩ := zSame_to (ad2 := ad) (n2 := 0) (v2 := some (.int (nI 1))) hK3 hg3 rfl
  cases hx3
  refine lv_iload hx hb (show decode code 429 = .ok (.iload 5, 2) by decide +kernel) (lv_at hl 1 rfl) ?_
  refine lv_icmp_eq (tgt := 436) hx hb (show decode code 431 = .ok (.if_icmp .eq 5, 3) by decide +kernel) (by decide) (fun _ => ?_) (fun q => absurd rfl q)
  refine lv_iload hx hb (show decode code 436 = .ok (.iload 5, 2) by decide +kernel) (lv_at hl 1 rfl) ?_
  refine lv_if_ne (tgt := 453) hx hb (show decode code 438 = .ok (.ifCond .ne 15, 3) by decide +kernel) (by decide) (fun _ => ?_) (fun q => absurd q (by decide))
  refine lv_goto (tgt := 1181) hx hb (show decode code 453 = .ok (.goto 728, 3) by decide +kernel) (by decide) ?_
  exact ex H3 locs3 _ _ ls (Nat.le_of_ble_eq_true rfl) (Nat.le_of_ble_eq_true rfl) hS3 (lv_sub hl [2, 6] rfl)
