theorem zSame_to {ad ad2 : Nat → Nat} {n n2 : Nat} {r r2 : Option zV} {v v2 : Option Value} (h : zSame r r2 = true) (h1 : zGo ad n r v) (h2 : zGo ad2 n2 r2 v2) : ∃ x : Int32, v = some (.int x) ∧ v2 = some (.int x) := by
  match r, r2, h with
  | some (.inl a), some (.inl b), h =>
    have hab : a = b := Nat.eq_of_beq_eq_true h
    subst hab
    match v, v2, h1, h2 with
    | some x, some y, h1, h2 => exact ⟨nI a, by rw [show x = _ from h1], by rw [show y = _ from h2]⟩
theorem zl_cat1 (v : Option Value) : (v.toList.map fun v => v.category).sum ≤ 8 := by
  cases v with
  | none => exact Nat.zero_le _
  | some x => rcases lv_cat x with h | h <;> simp [h]
theorem zThen_to {a : Nat} {lo : zL} {r : Option zV} {h : zHp} (hk : zThen a lo r h = true) : (∃ fs, zGet h 102 = some (.inl (11, fs))) ∧ zq a lo h (fun r2 _ => zSame r r2) = true := by
  unfold zThen at hk
  cases hr : zRcv 11 [zRef (some 102)] h with
  | false => rw [hr] at hk; cases hk
  | true =>
    rw [hr] at hk
    refine ⟨?_, hk⟩
    simp only [zRcv] at hr
    cases hg : zGet h 102 with
    | none => rw [hg] at hr; cases hr
    | some cell =>
      rw [hg] at hr
      match cell, hr with
      | .inl (k, fs), hr => exact ⟨fs, by rw [Nat.eq_of_beq_eq_true hr]⟩
      | .inr _, hr => cases hr
set_option maxHeartbeats 4000000 in
set_option maxRecDepth 100000 in
theorem zl_op_feed {p : Program} {l : Launch} {e : Env} {s : State} {m : MethodId} {below : List Frame} {meth : Method} {c : Code} {b : Nat} {xs : Nat → Int32} {D : va_G} {cy : Nat → ClassId} {ad : Nat → Nat} {ws : va_W} {H : Heap} {locs : List Loc} {ls : Array Slot} {q9 : Nat} {Q : State → Prop} (hx : p.tables.exec = Jvm.exec) (hb : c.code = code) (hml : c.maxLocals = 7) (hown : s.vm.findClass R_law = some m.cls) (hts : ∀ w ∈ lw_tbl, w.before #[Value.ref b] s = true) (hX : va_X b 6 xs s s.heap) (hbl : b < s.heap.size) (hst : zStat zSS D cy s) (hR : zR ad cy zh0 ws) (hP : va_P D vwCl ws H) (hD : va_D (fun q => s.heap.size ≤ q) ws) (hS : va_S (fun q => s.heap.size ≤ q) s.heap H locs) (hl : lv_has ls 7 [(4, .int 0), (3, .ref q9), (2, .ref (ad 102)), (1, .ref (ad 0)), (0, .ref b)])
    (ex : ∀ (H1 : Heap) (locs1 : List Loc) (cells slots : Nat) (ls1 : Array Slot), cells ≤ 1000 → slots ≤ 500000 → va_S (fun q => s.heap.size ≤ q) s.heap H1 locs1 → lv_has ls1 7 [(4, .int 0), (0, .ref b)] → W p l e room_1 s m #[Value.ref b] below meth c H1 locs1 cells slots Q (F0 m 1181 ls1 [])) :
    W p l e room_1 s m #[Value.ref b] below meth c H locs 127 117458 Q (F0 m 196 ls []) := by
  obtain ⟨a1, a2, a3, a4, a5, ⟨g1, g2, g3, g4, g5⟩, hk⟩ := zl_ck_feed (xs 1) (xs 2) (xs 3) (xs 4) (xs 5)
  refine lv_aload_n (i := 1) (x := ad 0) hx hb (show decode code 196 = .ok (.aload_n 1, 1) by decide +kernel) rfl (lv_at hl 3 rfl) ?_
  refine zl_arg hx hb hX hbl hS 1 (by omega) (by omega) (lv_at hl 4 rfl) (lv_at hl 0 rfl) (by decide +kernel) (by decide +kernel) (by decide +kernel) (by decide +kernel) (by decide +kernel) ?_
  refine zl_arg hx hb hX hbl hS 2 (by omega) (by omega) (lv_at hl 4 rfl) (lv_at hl 0 rfl) (by decide +kernel) (by decide +kernel) (by decide +kernel) (by decide +kernel) (by decide +kernel) ?_
  refine zl_arg hx hb hX hbl hS 3 (by omega) (by omega) (lv_at hl 4 rfl) (lv_at hl 0 rfl) (by decide +kernel) (by decide +kernel) (by decide +kernel) (by decide +kernel) (by decide +kernel) ?_
  refine zl_arg hx hb hX hbl hS 4 (by omega) (by omega) (lv_at hl 4 rfl) (lv_at hl 0 rfl) (by decide +kernel) (by decide +kernel) (by decide +kernel) (by decide +kernel) (by decide +kernel) ?_
  refine zl_arg hx hb hX hbl hS 5 (by omega) (by omega) (lv_at hl 4 rfl) (lv_at hl 0 rfl) (by decide +kernel) (by decide +kernel) (by decide +kernel) (by decide +kernel) (by decide +kernel) ?_
  refine zl_callV (a := 60) (n := 5) (q := 0) (ec := 10) (T9 := TX10) (N9 := 10) (As := [.int (xs 1), .int (xs 2), .int (xs 3), .int (xs 4), .int (xs 5)]) (rest := []) (ad := ad) (h := zh0) hx hb hml hown hts hst (show zN zMs 60 = some ((6, 6), 0, 0, zc_60) from rfl) hk (⟨_, _, rfl, ⟨rfl, fun k q => by cases q; exact Nat.le_of_ble_eq_true rfl⟩, _, _, rfl, g1 _ _, _, _, rfl, g2 _ _, _, _, rfl, g3 _ _, _, _, rfl, g4 _ _, _, _, rfl, g5 _ _, rfl⟩) (Nat.le_of_ble_eq_true rfl) rfl rfl (List.mem_of_getElem? (i := 589) rfl) (List.mem_of_getElem? (i := 590) rfl) (List.mem_of_getElem? (i := 591) rfl) (by decide +kernel) rfl hR hP hD hS hl.1 (Nat.zero_le _) (by decide +kernel) ⟨Nat.le_of_ble_eq_true rfl, Nat.le_of_ble_eq_true rfl⟩ (fun r h1 v ad1 ws1 H1 locs1 hK1 hg1 hA1 hN1 hR1 hP1 hD1 hS1 => ?_)
  obtain ⟨⟨fs9, hq⟩, hk1⟩ := zThen_to hK1
  rw [List.append_nil]
  have h102 : ad1 102 = ad 102 := hA1 102 (Nat.le_of_ble_eq_true rfl)
  have hlt : 102 < h1.1 := Nat.lt_of_lt_of_le (Nat.le_of_ble_eq_true rfl : 102 < zh0.1) hN1
  refine lv_aload_n (i := 2) (x := ad 102) hx hb (show decode code 230 = .ok (.aload_n 2, 1) by decide +kernel) rfl (lv_at hl 2 rfl) ?_
  rw [← h102]
  refine zl_arg hx hb hX hbl hS1 1 (by omega) (by omega) (lv_at hl 4 rfl) (lv_at hl 0 rfl) (by decide +kernel) (by decide +kernel) (by decide +kernel) (by decide +kernel) (by decide +kernel) ?_
  refine zl_arg hx hb hX hbl hS1 2 (by omega) (by omega) (lv_at hl 4 rfl) (lv_at hl 0 rfl) (by decide +kernel) (by decide +kernel) (by decide +kernel) (by decide +kernel) (by decide +kernel) ?_
  refine zl_arg hx hb hX hbl hS1 3 (by omega) (by omega) (lv_at hl 4 rfl) (lv_at hl 0 rfl) (by decide +kernel) (by decide +kernel) (by decide +kernel) (by decide +kernel) (by decide +kernel) ?_
  refine zl_arg hx hb hX hbl hS1 4 (by omega) (by omega) (lv_at hl 4 rfl) (lv_at hl 0 rfl) (by decide +kernel) (by decide +kernel) (by decide +kernel) (by decide +kernel) (by decide +kernel) ?_
  refine zl_arg hx hb hX hbl hS1 5 (by omega) (by omega) (lv_at hl 4 rfl) (lv_at hl 0 rfl) (by decide +kernel) (by decide +kernel) (by decide +kernel) (by decide +kernel) (by decide +kernel) ?_
  refine zl_callV (a := 104) (n := 5) (q := 102) (ec := 11) (T9 := TX11) (N9 := 57) (As := [.int (xs 1), .int (xs 2), .int (xs 3), .int (xs 4), .int (xs 5)]) (rest := v.toList) (ad := ad1) (h := h1) hx hb hml hown hts hst (show zN zMs 104 = some ((6, 6), 0, 0, zc_104) from rfl) hk1 (⟨_, _, rfl, ⟨rfl, fun k q => by cases q; exact hlt⟩, _, _, rfl, g1 _ _, _, _, rfl, g2 _ _, _, _, rfl, g3 _ _, _, _, rfl, g4 _ _, _, _, rfl, g5 _ _, rfl⟩) (Nat.le_of_ble_eq_true rfl) hq rfl (List.mem_of_getElem? (i := 1338) rfl) (List.mem_of_getElem? (i := 1339) rfl) (List.mem_of_getElem? (i := 1340) rfl) (by decide +kernel) rfl hR1 hP1 hD1 hS1 hl.1 (zl_cat1 v) (by decide +kernel) ⟨Nat.le_of_ble_eq_true rfl, Nat.le_of_ble_eq_true rfl⟩ (fun r2 h2 v2 ad2 ws2 H2 locs2 hK2 hg2 hA2 hN2 hR2 hP2 hD2 hS2 => ?_)
  obtain ⟨x, rfl, rfl⟩ := zSame_to hK2 hg1 hg2
  exact lv_icmp_eq (tgt := 1181) hx hb (show decode code 264 = .ok (.if_icmp .eq 917, 3) by decide +kernel) (by decide) (fun _ => ex H2 locs2 _ _ ls (Nat.le_of_ble_eq_true rfl) (Nat.le_of_ble_eq_true rfl) hS2 (lv_sub hl [0, 4] rfl)) (fun q => absurd rfl q)
set_option maxHeartbeats 4000000 in
set_option maxRecDepth 100000 in
theorem zl_op_end {p : Program} {l : Launch} {e : Env} {s : State} {m : MethodId} {below : List Frame} {meth : Method} {c : Code} {b : Nat} {xs : Nat → Int32} {D : va_G} {cy : Nat → ClassId} {ad : Nat → Nat} {ws : va_W} {H : Heap} {locs : List Loc} {ls : Array Slot} {q9 : Nat} {Q : State → Prop} (hx : p.tables.exec = Jvm.exec) (hb : c.code = code) (hml : c.maxLocals = 7) (hown : s.vm.findClass R_law = some m.cls) (hts : ∀ w ∈ lw_tbl, w.before #[Value.ref b] s = true) (hX : va_X b 6 xs s s.heap) (hbl : b < s.heap.size) (hst : zStat zSS D cy s) (hR : zR ad cy zh0 ws) (hP : va_P D vwCl ws H) (hD : va_D (fun q => s.heap.size ≤ q) ws) (hS : va_S (fun q => s.heap.size ≤ q) s.heap H locs) (hl : lv_has ls 7 [(4, .int 0), (3, .ref q9), (2, .ref (ad 102)), (1, .ref (ad 0)), (0, .ref b)])
    (ex : ∀ (H1 : Heap) (locs1 : List Loc) (cells slots : Nat) (ls1 : Array Slot), cells ≤ 1000 → slots ≤ 500000 → va_S (fun q => s.heap.size ≤ q) s.heap H1 locs1 → lv_has ls1 7 [(4, .int 0), (0, .ref b)] → W p l e room_1 s m #[Value.ref b] below meth c H1 locs1 cells slots Q (F0 m 1181 ls1 [])) :
    W p l e room_1 s m #[Value.ref b] below meth c H locs 127 117458 Q (F0 m 269 ls []) := by
  obtain ⟨a1, g1, hk⟩ := zl_ck_end (xs 1)
  refine lv_aload_n (i := 1) (x := ad 0) hx hb (show decode code 269 = .ok (.aload_n 1, 1) by decide +kernel) rfl (lv_at hl 3 rfl) ?_
  refine zl_arg hx hb hX hbl hS 1 (by omega) (by omega) (lv_at hl 4 rfl) (lv_at hl 0 rfl) (by decide +kernel) (by decide +kernel) (by decide +kernel) (by decide +kernel) (by decide +kernel) ?_
  refine zl_callV (a := 58) (n := 1) (q := 0) (ec := 10) (T9 := TX10) (N9 := 10) (As := [.int (xs 1)]) (rest := []) (ad := ad) (h := zh0) hx hb hml hown hts hst (show zN zMs 58 = some ((2, 2), 0, 0, zc_58) from rfl) hk (⟨_, _, rfl, ⟨rfl, fun k q => by cases q; exact Nat.le_of_ble_eq_true rfl⟩, _, _, rfl, g1 _ _, rfl⟩) (Nat.le_of_ble_eq_true rfl) rfl rfl (List.mem_of_getElem? (i := 597) rfl) (List.mem_of_getElem? (i := 598) rfl) (List.mem_of_getElem? (i := 599) rfl) (by decide +kernel) rfl hR hP hD hS hl.1 (Nat.zero_le _) (by decide +kernel) ⟨Nat.le_of_ble_eq_true rfl, Nat.le_of_ble_eq_true rfl⟩ (fun r h1 v ad1 ws1 H1 locs1 hK1 hg1 hA1 hN1 hR1 hP1 hD1 hS1 => ?_)
  obtain ⟨⟨fs9, hq⟩, hk1⟩ := zThen_to hK1
  rw [List.append_nil]
  have h102 : ad1 102 = ad 102 := hA1 102 (Nat.le_of_ble_eq_true rfl)
  have hlt : 102 < h1.1 := Nat.lt_of_lt_of_le (Nat.le_of_ble_eq_true rfl : 102 < zh0.1) hN1
  refine lv_aload_n (i := 2) (x := ad 102) hx hb (show decode code 279 = .ok (.aload_n 2, 1) by decide +kernel) rfl (lv_at hl 2 rfl) ?_
  rw [← h102]
  refine zl_arg hx hb hX hbl hS1 1 (by omega) (by omega) (lv_at hl 4 rfl) (lv_at hl 0 rfl) (by decide +kernel) (by decide +kernel) (by decide +kernel) (by decide +kernel) (by decide +kernel) ?_
  refine zl_callV (a := 102) (n := 1) (q := 102) (ec := 11) (T9 := TX11) (N9 := 57) (As := [.int (xs 1)]) (rest := v.toList) (ad := ad1) (h := h1) hx hb hml hown hts hst (show zN zMs 102 = some ((2, 2), 0, 0, zc_102) from rfl) hk1 (⟨_, _, rfl, ⟨rfl, fun k q => by cases q; exact hlt⟩, _, _, rfl, g1 _ _, rfl⟩) (Nat.le_of_ble_eq_true rfl) hq rfl (List.mem_of_getElem? (i := 1347) rfl) (List.mem_of_getElem? (i := 1348) rfl) (List.mem_of_getElem? (i := 1349) rfl) (by decide +kernel) rfl hR1 hP1 hD1 hS1 hl.1 (zl_cat1 v) (by decide +kernel) ⟨Nat.le_of_ble_eq_true rfl, Nat.le_of_ble_eq_true rfl⟩ (fun r2 h2 v2 ad2 ws2 H2 locs2 hK2 hg2 hA2 hN2 hR2 hP2 hD2 hS2 => ?_)
  obtain ⟨x, rfl, rfl⟩ := zSame_to hK2 hg1 hg2
  exact lv_icmp_eq (tgt := 1181) hx hb (show decode code 289 = .ok (.if_icmp .eq 892, 3) by decide +kernel) (by decide) (fun _ => ex H2 locs2 _ _ ls (Nat.le_of_ble_eq_true rfl) (Nat.le_of_ble_eq_true rfl) hS2 (lv_sub hl [0, 4] rfl)) (fun q => absurd rfl q)
set_option maxHeartbeats 4000000 in
set_option maxRecDepth 100000 in
theorem zl_op_alleys {p : Program} {l : Launch} {e : Env} {s : State} {m : MethodId} {below : List Frame} {meth : Method} {c : Code} {b : Nat} {xs : Nat → Int32} {D : va_G} {cy : Nat → ClassId} {ad : Nat → Nat} {ws : va_W} {H : Heap} {locs : List Loc} {ls : Array Slot} {q9 : Nat} {Q : State → Prop} (hx : p.tables.exec = Jvm.exec) (hb : c.code = code) (hml : c.maxLocals = 7) (hown : s.vm.findClass R_law = some m.cls) (hts : ∀ w ∈ lw_tbl, w.before #[Value.ref b] s = true) (hX : va_X b 6 xs s s.heap) (hbl : b < s.heap.size) (hst : zStat zSS D cy s) (hR : zR ad cy zh0 ws) (hP : va_P D vwCl ws H) (hD : va_D (fun q => s.heap.size ≤ q) ws) (hS : va_S (fun q => s.heap.size ≤ q) s.heap H locs) (hl : lv_has ls 7 [(4, .int 0), (3, .ref q9), (2, .ref (ad 102)), (1, .ref (ad 0)), (0, .ref b)])
    (ex : ∀ (H1 : Heap) (locs1 : List Loc) (cells slots : Nat) (ls1 : Array Slot), cells ≤ 1000 → slots ≤ 500000 → va_S (fun q => s.heap.size ≤ q) s.heap H1 locs1 → lv_has ls1 7 [(4, .int 0), (0, .ref b)] → W p l e room_1 s m #[Value.ref b] below meth c H1 locs1 cells slots Q (F0 m 1181 ls1 [])) :
    W p l e room_1 s m #[Value.ref b] below meth c H locs 127 117458 Q (F0 m 294 ls []) := by
  have hk := zk_alleys
  refine lv_aload_n (i := 1) (x := ad 0) hx hb (show decode code 294 = .ok (.aload_n 1, 1) by decide +kernel) rfl (lv_at hl 3 rfl) ?_
  refine zl_callV (a := 54) (n := 0) (q := 0) (ec := 10) (T9 := TX10) (N9 := 10) (As := []) (rest := []) (ad := ad) (h := zh0) hx hb hml hown hts hst (show zN zMs 54 = some ((1, 2), 0, 0, zc_54) from rfl) hk (⟨_, _, rfl, ⟨rfl, fun k q => by cases q; exact Nat.le_of_ble_eq_true rfl⟩, rfl⟩) (Nat.le_of_ble_eq_true rfl) rfl rfl (List.mem_of_getElem? (i := 601) rfl) (List.mem_of_getElem? (i := 602) rfl) (List.mem_of_getElem? (i := 603) rfl) (by decide +kernel) rfl hR hP hD hS hl.1 (Nat.zero_le _) (by decide +kernel) ⟨Nat.le_of_ble_eq_true rfl, Nat.le_of_ble_eq_true rfl⟩ (fun r h1 v ad1 ws1 H1 locs1 hK1 hg1 hA1 hN1 hR1 hP1 hD1 hS1 => ?_)
  obtain ⟨⟨fs9, hq⟩, hk1⟩ := zThen_to hK1
  rw [List.append_nil]
  have h102 : ad1 102 = ad 102 := hA1 102 (Nat.le_of_ble_eq_true rfl)
  have hlt : 102 < h1.1 := Nat.lt_of_lt_of_le (Nat.le_of_ble_eq_true rfl : 102 < zh0.1) hN1
  refine lv_aload_n (i := 2) (x := ad 102) hx hb (show decode code 298 = .ok (.aload_n 2, 1) by decide +kernel) rfl (lv_at hl 2 rfl) ?_
  rw [← h102]
  refine zl_callV (a := 92) (n := 0) (q := 102) (ec := 11) (T9 := TX11) (N9 := 57) (As := []) (rest := v.toList) (ad := ad1) (h := h1) hx hb hml hown hts hst (show zN zMs 92 = some ((1, 2), 0, 0, zc_92) from rfl) hk1 (⟨_, _, rfl, ⟨rfl, fun k q => by cases q; exact hlt⟩, rfl⟩) (Nat.le_of_ble_eq_true rfl) hq rfl (List.mem_of_getElem? (i := 1553) rfl) (List.mem_of_getElem? (i := 1554) rfl) (List.mem_of_getElem? (i := 1555) rfl) (by decide +kernel) rfl hR1 hP1 hD1 hS1 hl.1 (zl_cat1 v) (by decide +kernel) ⟨Nat.le_of_ble_eq_true rfl, Nat.le_of_ble_eq_true rfl⟩ (fun r2 h2 v2 ad2 ws2 H2 locs2 hK2 hg2 hA2 hN2 hR2 hP2 hD2 hS2 => ?_)
  obtain ⟨x, rfl, rfl⟩ := zSame_to hK2 hg1 hg2
  exact lv_icmp_eq (tgt := 1181) hx hb (show decode code 302 = .ok (.if_icmp .eq 879, 3) by decide +kernel) (by decide) (fun _ => ex H2 locs2 _ _ ls (Nat.le_of_ble_eq_true rfl) (Nat.le_of_ble_eq_true rfl) hS2 (lv_sub hl [0, 4] rfl)) (fun q => absurd rfl q)
set_option maxHeartbeats 4000000 in
set_option maxRecDepth 100000 in
theorem zl_op_fault {p : Program} {l : Launch} {e : Env} {s : State} {m : MethodId} {below : List Frame} {meth : Method} {c : Code} {b : Nat} {xs : Nat → Int32} {D : va_G} {cy : Nat → ClassId} {ad : Nat → Nat} {ws : va_W} {H : Heap} {locs : List Loc} {ls : Array Slot} {q9 : Nat} {Q : State → Prop} (hx : p.tables.exec = Jvm.exec) (hb : c.code = code) (hml : c.maxLocals = 7) (hown : s.vm.findClass R_law = some m.cls) (hts : ∀ w ∈ lw_tbl, w.before #[Value.ref b] s = true) (hX : va_X b 6 xs s s.heap) (hbl : b < s.heap.size) (hst : zStat zSS D cy s) (hR : zR ad cy zh0 ws) (hP : va_P D vwCl ws H) (hD : va_D (fun q => s.heap.size ≤ q) ws) (hS : va_S (fun q => s.heap.size ≤ q) s.heap H locs) (hl : lv_has ls 7 [(4, .int 0), (3, .ref q9), (2, .ref (ad 102)), (1, .ref (ad 0)), (0, .ref b)])
    (ex : ∀ (H1 : Heap) (locs1 : List Loc) (cells slots : Nat) (ls1 : Array Slot), cells ≤ 1000 → slots ≤ 500000 → va_S (fun q => s.heap.size ≤ q) s.heap H1 locs1 → lv_has ls1 7 [(4, .int 0), (0, .ref b)] → W p l e room_1 s m #[Value.ref b] below meth c H1 locs1 cells slots Q (F0 m 1181 ls1 [])) :
    W p l e room_1 s m #[Value.ref b] below meth c H locs 127 117458 Q (F0 m 307 ls []) := by
  have hk := zk_fault
  refine lv_aload_n (i := 1) (x := ad 0) hx hb (show decode code 307 = .ok (.aload_n 1, 1) by decide +kernel) rfl (lv_at hl 3 rfl) ?_
  refine zl_callV (a := 59) (n := 0) (q := 0) (ec := 10) (T9 := TX10) (N9 := 10) (As := []) (rest := []) (ad := ad) (h := zh0) hx hb hml hown hts hst (show zN zMs 59 = some ((1, 1), 0, 0, zc_59) from rfl) hk (⟨_, _, rfl, ⟨rfl, fun k q => by cases q; exact Nat.le_of_ble_eq_true rfl⟩, rfl⟩) (Nat.le_of_ble_eq_true rfl) rfl rfl (List.mem_of_getElem? (i := 790) rfl) (List.mem_of_getElem? (i := 791) rfl) (List.mem_of_getElem? (i := 792) rfl) (by decide +kernel) rfl hR hP hD hS hl.1 (Nat.zero_le _) (by decide +kernel) ⟨Nat.le_of_ble_eq_true rfl, Nat.le_of_ble_eq_true rfl⟩ (fun r h1 v ad1 ws1 H1 locs1 hK1 hg1 hA1 hN1 hR1 hP1 hD1 hS1 => ?_)
  obtain ⟨⟨fs9, hq⟩, hk1⟩ := zThen_to hK1
  rw [List.append_nil]
  have h102 : ad1 102 = ad 102 := hA1 102 (Nat.le_of_ble_eq_true rfl)
  have hlt : 102 < h1.1 := Nat.lt_of_lt_of_le (Nat.le_of_ble_eq_true rfl : 102 < zh0.1) hN1
  refine lv_aload_n (i := 2) (x := ad 102) hx hb (show decode code 311 = .ok (.aload_n 2, 1) by decide +kernel) rfl (lv_at hl 2 rfl) ?_
  rw [← h102]
  refine zl_callV (a := 103) (n := 0) (q := 102) (ec := 11) (T9 := TX11) (N9 := 57) (As := []) (rest := v.toList) (ad := ad1) (h := h1) hx hb hml hown hts hst (show zN zMs 103 = some ((1, 1), 0, 0, zc_103) from rfl) hk1 (⟨_, _, rfl, ⟨rfl, fun k q => by cases q; exact hlt⟩, rfl⟩) (Nat.le_of_ble_eq_true rfl) hq rfl (List.mem_of_getElem? (i := 1633) rfl) (List.mem_of_getElem? (i := 1634) rfl) (List.mem_of_getElem? (i := 1635) rfl) (by decide +kernel) rfl hR1 hP1 hD1 hS1 hl.1 (zl_cat1 v) (by decide +kernel) ⟨Nat.le_of_ble_eq_true rfl, Nat.le_of_ble_eq_true rfl⟩ (fun r2 h2 v2 ad2 ws2 H2 locs2 hK2 hg2 hA2 hN2 hR2 hP2 hD2 hS2 => ?_)
  obtain ⟨x, rfl, rfl⟩ := zSame_to hK2 hg1 hg2
  exact lv_icmp_eq (tgt := 1181) hx hb (show decode code 315 = .ok (.if_icmp .eq 866, 3) by decide +kernel) (by decide) (fun _ => ex H2 locs2 _ _ ls (Nat.le_of_ble_eq_true rfl) (Nat.le_of_ble_eq_true rfl) hS2 (lv_sub hl [0, 4] rfl)) (fun q => absurd rfl q)
set_option maxHeartbeats 4000000 in
set_option maxRecDepth 100000 in
theorem zl_op_way {p : Program} {l : Launch} {e : Env} {s : State} {m : MethodId} {below : List Frame} {meth : Method} {c : Code} {b : Nat} {xs : Nat → Int32} {D : va_G} {cy : Nat → ClassId} {ad : Nat → Nat} {ws : va_W} {H : Heap} {locs : List Loc} {ls : Array Slot} {q9 : Nat} {Q : State → Prop} (hx : p.tables.exec = Jvm.exec) (hb : c.code = code) (hml : c.maxLocals = 7) (hown : s.vm.findClass R_law = some m.cls) (hts : ∀ w ∈ lw_tbl, w.before #[Value.ref b] s = true) (hX : va_X b 6 xs s s.heap) (hbl : b < s.heap.size) (hst : zStat zSS D cy s) (hR : zR ad cy zh0 ws) (hP : va_P D vwCl ws H) (hD : va_D (fun q => s.heap.size ≤ q) ws) (hS : va_S (fun q => s.heap.size ≤ q) s.heap H locs) (hl : lv_has ls 7 [(4, .int 0), (3, .ref q9), (2, .ref (ad 102)), (1, .ref (ad 0)), (0, .ref b)])
    (ex : ∀ (H1 : Heap) (locs1 : List Loc) (cells slots : Nat) (ls1 : Array Slot), cells ≤ 1000 → slots ≤ 500000 → va_S (fun q => s.heap.size ≤ q) s.heap H1 locs1 → lv_has ls1 7 [(4, .int 0), (0, .ref b)] → W p l e room_1 s m #[Value.ref b] below meth c H1 locs1 cells slots Q (F0 m 1181 ls1 [])) :
    W p l e room_1 s m #[Value.ref b] below meth c H locs 127 117458 Q (F0 m 456 ls []) := by
  obtain ⟨a1, a2, ⟨g1, g2⟩, hk⟩ := zl_ck_way (xs 1) (xs 2)
  refine lv_aload_n (i := 1) (x := ad 0) hx hb (show decode code 456 = .ok (.aload_n 1, 1) by decide +kernel) rfl (lv_at hl 3 rfl) ?_
  refine zl_arg hx hb hX hbl hS 1 (by omega) (by omega) (lv_at hl 4 rfl) (lv_at hl 0 rfl) (by decide +kernel) (by decide +kernel) (by decide +kernel) (by decide +kernel) (by decide +kernel) ?_
  refine zl_arg hx hb hX hbl hS 2 (by omega) (by omega) (lv_at hl 4 rfl) (lv_at hl 0 rfl) (by decide +kernel) (by decide +kernel) (by decide +kernel) (by decide +kernel) (by decide +kernel) ?_
  refine zl_callV (a := 89) (n := 2) (q := 0) (ec := 10) (T9 := TX10) (N9 := 10) (As := [.int (xs 1), .int (xs 2)]) (rest := []) (ad := ad) (h := zh0) hx hb hml hown hts hst (show zN zMs 89 = some ((3, 3), 0, 0, zc_89) from rfl) hk (⟨_, _, rfl, ⟨rfl, fun k q => by cases q; exact Nat.le_of_ble_eq_true rfl⟩, _, _, rfl, g1 _ _, _, _, rfl, g2 _ _, rfl⟩) (Nat.le_of_ble_eq_true rfl) rfl rfl (List.mem_of_getElem? (i := 794) rfl) (List.mem_of_getElem? (i := 795) rfl) (List.mem_of_getElem? (i := 796) rfl) (by decide +kernel) rfl hR hP hD hS hl.1 (Nat.zero_le _) (by decide +kernel) ⟨Nat.le_of_ble_eq_true rfl, Nat.le_of_ble_eq_true rfl⟩ (fun r h1 v ad1 ws1 H1 locs1 hK1 hg1 hA1 hN1 hR1 hP1 hD1 hS1 => ?_)
  obtain ⟨⟨fs9, hq⟩, hk1⟩ := zThen_to hK1
  rw [List.append_nil]
  have h102 : ad1 102 = ad 102 := hA1 102 (Nat.le_of_ble_eq_true rfl)
  have hlt : 102 < h1.1 := Nat.lt_of_lt_of_le (Nat.le_of_ble_eq_true rfl : 102 < zh0.1) hN1
  refine lv_aload_n (i := 2) (x := ad 102) hx hb (show decode code 472 = .ok (.aload_n 2, 1) by decide +kernel) rfl (lv_at hl 2 rfl) ?_
  rw [← h102]
  refine zl_arg hx hb hX hbl hS1 1 (by omega) (by omega) (lv_at hl 4 rfl) (lv_at hl 0 rfl) (by decide +kernel) (by decide +kernel) (by decide +kernel) (by decide +kernel) (by decide +kernel) ?_
  refine zl_arg hx hb hX hbl hS1 2 (by omega) (by omega) (lv_at hl 4 rfl) (lv_at hl 0 rfl) (by decide +kernel) (by decide +kernel) (by decide +kernel) (by decide +kernel) (by decide +kernel) ?_
  refine zl_callV (a := 151) (n := 2) (q := 102) (ec := 11) (T9 := TX11) (N9 := 57) (As := [.int (xs 1), .int (xs 2)]) (rest := v.toList) (ad := ad1) (h := h1) hx hb hml hown hts hst (show zN zMs 151 = some ((3, 3), 0, 0, zc_151) from rfl) hk1 (⟨_, _, rfl, ⟨rfl, fun k q => by cases q; exact hlt⟩, _, _, rfl, g1 _ _, _, _, rfl, g2 _ _, rfl⟩) (Nat.le_of_ble_eq_true rfl) hq rfl (List.mem_of_getElem? (i := 1661) rfl) (List.mem_of_getElem? (i := 1662) rfl) (List.mem_of_getElem? (i := 1663) rfl) (by decide +kernel) rfl hR1 hP1 hD1 hS1 hl.1 (zl_cat1 v) (by decide +kernel) ⟨Nat.le_of_ble_eq_true rfl, Nat.le_of_ble_eq_true rfl⟩ (fun r2 h2 v2 ad2 ws2 H2 locs2 hK2 hg2 hA2 hN2 hR2 hP2 hD2 hS2 => ?_)
  obtain ⟨x, rfl, rfl⟩ := zSame_to hK2 hg1 hg2
  exact lv_icmp_eq (tgt := 1181) hx hb (show decode code 488 = .ok (.if_icmp .eq 693, 3) by decide +kernel) (by decide) (fun _ => ex H2 locs2 _ _ ls (Nat.le_of_ble_eq_true rfl) (Nat.le_of_ble_eq_true rfl) hS2 (lv_sub hl [0, 4] rfl)) (fun q => absurd rfl q)
set_option maxHeartbeats 4000000 in
set_option maxRecDepth 100000 in
theorem zl_op_next {p : Program} {l : Launch} {e : Env} {s : State} {m : MethodId} {below : List Frame} {meth : Method} {c : Code} {b : Nat} {xs : Nat → Int32} {D : va_G} {cy : Nat → ClassId} {ad : Nat → Nat} {ws : va_W} {H : Heap} {locs : List Loc} {ls : Array Slot} {q9 : Nat} {Q : State → Prop} (hx : p.tables.exec = Jvm.exec) (hb : c.code = code) (hml : c.maxLocals = 7) (hown : s.vm.findClass R_law = some m.cls) (hts : ∀ w ∈ lw_tbl, w.before #[Value.ref b] s = true) (hX : va_X b 6 xs s s.heap) (hbl : b < s.heap.size) (hst : zStat zSS D cy s) (hR : zR ad cy zh0 ws) (hP : va_P D vwCl ws H) (hD : va_D (fun q => s.heap.size ≤ q) ws) (hS : va_S (fun q => s.heap.size ≤ q) s.heap H locs) (hl : lv_has ls 7 [(4, .int 0), (3, .ref q9), (2, .ref (ad 102)), (1, .ref (ad 0)), (0, .ref b)])
    (ex : ∀ (H1 : Heap) (locs1 : List Loc) (cells slots : Nat) (ls1 : Array Slot), cells ≤ 1000 → slots ≤ 500000 → va_S (fun q => s.heap.size ≤ q) s.heap H1 locs1 → lv_has ls1 7 [(4, .int 0), (0, .ref b)] → W p l e room_1 s m #[Value.ref b] below meth c H1 locs1 cells slots Q (F0 m 1181 ls1 [])) :
    W p l e room_1 s m #[Value.ref b] below meth c H locs 127 117458 Q (F0 m 493 ls []) := by
  obtain ⟨a1, g1, hk⟩ := zl_ck_next (xs 1)
  refine lv_aload_n (i := 1) (x := ad 0) hx hb (show decode code 493 = .ok (.aload_n 1, 1) by decide +kernel) rfl (lv_at hl 3 rfl) ?_
  refine zl_arg hx hb hX hbl hS 1 (by omega) (by omega) (lv_at hl 4 rfl) (lv_at hl 0 rfl) (by decide +kernel) (by decide +kernel) (by decide +kernel) (by decide +kernel) (by decide +kernel) ?_
  refine zl_callV (a := 74) (n := 1) (q := 0) (ec := 10) (T9 := TX10) (N9 := 10) (As := [.int (xs 1)]) (rest := []) (ad := ad) (h := zh0) hx hb hml hown hts hst (show zN zMs 74 = some ((2, 2), 0, 0, zc_74) from rfl) hk (⟨_, _, rfl, ⟨rfl, fun k q => by cases q; exact Nat.le_of_ble_eq_true rfl⟩, _, _, rfl, g1 _ _, rfl⟩) (Nat.le_of_ble_eq_true rfl) rfl rfl (List.mem_of_getElem? (i := 819) rfl) (List.mem_of_getElem? (i := 820) rfl) (List.mem_of_getElem? (i := 821) rfl) (by decide +kernel) rfl hR hP hD hS hl.1 (Nat.zero_le _) (by decide +kernel) ⟨Nat.le_of_ble_eq_true rfl, Nat.le_of_ble_eq_true rfl⟩ (fun r h1 v ad1 ws1 H1 locs1 hK1 hg1 hA1 hN1 hR1 hP1 hD1 hS1 => ?_)
  obtain ⟨⟨fs9, hq⟩, hk1⟩ := zThen_to hK1
  rw [List.append_nil]
  have h102 : ad1 102 = ad 102 := hA1 102 (Nat.le_of_ble_eq_true rfl)
  have hlt : 102 < h1.1 := Nat.lt_of_lt_of_le (Nat.le_of_ble_eq_true rfl : 102 < zh0.1) hN1
  refine lv_aload_n (i := 2) (x := ad 102) hx hb (show decode code 503 = .ok (.aload_n 2, 1) by decide +kernel) rfl (lv_at hl 2 rfl) ?_
  rw [← h102]
  refine zl_arg hx hb hX hbl hS1 1 (by omega) (by omega) (lv_at hl 4 rfl) (lv_at hl 0 rfl) (by decide +kernel) (by decide +kernel) (by decide +kernel) (by decide +kernel) (by decide +kernel) ?_
  refine zl_callV (a := 126) (n := 1) (q := 102) (ec := 11) (T9 := TX11) (N9 := 57) (As := [.int (xs 1)]) (rest := v.toList) (ad := ad1) (h := h1) hx hb hml hown hts hst (show zN zMs 126 = some ((2, 2), 0, 0, zc_126) from rfl) hk1 (⟨_, _, rfl, ⟨rfl, fun k q => by cases q; exact hlt⟩, _, _, rfl, g1 _ _, rfl⟩) (Nat.le_of_ble_eq_true rfl) hq rfl (List.mem_of_getElem? (i := 1681) rfl) (List.mem_of_getElem? (i := 1682) rfl) (List.mem_of_getElem? (i := 1683) rfl) (by decide +kernel) rfl hR1 hP1 hD1 hS1 hl.1 (zl_cat1 v) (by decide +kernel) ⟨Nat.le_of_ble_eq_true rfl, Nat.le_of_ble_eq_true rfl⟩ (fun r2 h2 v2 ad2 ws2 H2 locs2 hK2 hg2 hA2 hN2 hR2 hP2 hD2 hS2 => ?_)
  obtain ⟨x, rfl, rfl⟩ := zSame_to hK2 hg1 hg2
  exact lv_icmp_eq (tgt := 1181) hx hb (show decode code 513 = .ok (.if_icmp .eq 668, 3) by decide +kernel) (by decide) (fun _ => ex H2 locs2 _ _ ls (Nat.le_of_ble_eq_true rfl) (Nat.le_of_ble_eq_true rfl) hS2 (lv_sub hl [0, 4] rfl)) (fun q => absurd rfl q)
set_option maxHeartbeats 4000000 in
set_option maxRecDepth 100000 in
theorem zl_op_order {p : Program} {l : Launch} {e : Env} {s : State} {m : MethodId} {below : List Frame} {meth : Method} {c : Code} {b : Nat} {xs : Nat → Int32} {D : va_G} {cy : Nat → ClassId} {ad : Nat → Nat} {ws : va_W} {H : Heap} {locs : List Loc} {ls : Array Slot} {q9 : Nat} {Q : State → Prop} (hx : p.tables.exec = Jvm.exec) (hb : c.code = code) (hml : c.maxLocals = 7) (hown : s.vm.findClass R_law = some m.cls) (hts : ∀ w ∈ lw_tbl, w.before #[Value.ref b] s = true) (hX : va_X b 6 xs s s.heap) (hbl : b < s.heap.size) (hst : zStat zSS D cy s) (hR : zR ad cy zh0 ws) (hP : va_P D vwCl ws H) (hD : va_D (fun q => s.heap.size ≤ q) ws) (hS : va_S (fun q => s.heap.size ≤ q) s.heap H locs) (hl : lv_has ls 7 [(4, .int 0), (3, .ref q9), (2, .ref (ad 102)), (1, .ref (ad 0)), (0, .ref b)])
    (ex : ∀ (H1 : Heap) (locs1 : List Loc) (cells slots : Nat) (ls1 : Array Slot), cells ≤ 1000 → slots ≤ 500000 → va_S (fun q => s.heap.size ≤ q) s.heap H1 locs1 → lv_has ls1 7 [(4, .int 0), (0, .ref b)] → W p l e room_1 s m #[Value.ref b] below meth c H1 locs1 cells slots Q (F0 m 1181 ls1 [])) :
    W p l e room_1 s m #[Value.ref b] below meth c H locs 127 117458 Q (F0 m 518 ls []) := by
  obtain ⟨a1, g1, hk⟩ := zl_ck_order (xs 1)
  refine lv_aload_n (i := 1) (x := ad 0) hx hb (show decode code 518 = .ok (.aload_n 1, 1) by decide +kernel) rfl (lv_at hl 3 rfl) ?_
  refine zl_arg hx hb hX hbl hS 1 (by omega) (by omega) (lv_at hl 4 rfl) (lv_at hl 0 rfl) (by decide +kernel) (by decide +kernel) (by decide +kernel) (by decide +kernel) (by decide +kernel) ?_
  refine zl_callV (a := 79) (n := 1) (q := 0) (ec := 10) (T9 := TX10) (N9 := 10) (As := [.int (xs 1)]) (rest := []) (ad := ad) (h := zh0) hx hb hml hown hts hst (show zN zMs 79 = some ((2, 2), 0, 0, zc_79) from rfl) hk (⟨_, _, rfl, ⟨rfl, fun k q => by cases q; exact Nat.le_of_ble_eq_true rfl⟩, _, _, rfl, g1 _ _, rfl⟩) (Nat.le_of_ble_eq_true rfl) rfl rfl (List.mem_of_getElem? (i := 832) rfl) (List.mem_of_getElem? (i := 833) rfl) (List.mem_of_getElem? (i := 834) rfl) (by decide +kernel) rfl hR hP hD hS hl.1 (Nat.zero_le _) (by decide +kernel) ⟨Nat.le_of_ble_eq_true rfl, Nat.le_of_ble_eq_true rfl⟩ (fun r h1 v ad1 ws1 H1 locs1 hK1 hg1 hA1 hN1 hR1 hP1 hD1 hS1 => ?_)
  obtain ⟨⟨fs9, hq⟩, hk1⟩ := zThen_to hK1
  rw [List.append_nil]
  have h102 : ad1 102 = ad 102 := hA1 102 (Nat.le_of_ble_eq_true rfl)
  have hlt : 102 < h1.1 := Nat.lt_of_lt_of_le (Nat.le_of_ble_eq_true rfl : 102 < zh0.1) hN1
  refine lv_aload_n (i := 2) (x := ad 102) hx hb (show decode code 528 = .ok (.aload_n 2, 1) by decide +kernel) rfl (lv_at hl 2 rfl) ?_
  rw [← h102]
  refine zl_arg hx hb hX hbl hS1 1 (by omega) (by omega) (lv_at hl 4 rfl) (lv_at hl 0 rfl) (by decide +kernel) (by decide +kernel) (by decide +kernel) (by decide +kernel) (by decide +kernel) ?_
  refine zl_callV (a := 132) (n := 1) (q := 102) (ec := 11) (T9 := TX11) (N9 := 57) (As := [.int (xs 1)]) (rest := v.toList) (ad := ad1) (h := h1) hx hb hml hown hts hst (show zN zMs 132 = some ((2, 2), 0, 0, zc_132) from rfl) hk1 (⟨_, _, rfl, ⟨rfl, fun k q => by cases q; exact hlt⟩, _, _, rfl, g1 _ _, rfl⟩) (Nat.le_of_ble_eq_true rfl) hq rfl (List.mem_of_getElem? (i := 1693) rfl) (List.mem_of_getElem? (i := 1694) rfl) (List.mem_of_getElem? (i := 1695) rfl) (by decide +kernel) rfl hR1 hP1 hD1 hS1 hl.1 (zl_cat1 v) (by decide +kernel) ⟨Nat.le_of_ble_eq_true rfl, Nat.le_of_ble_eq_true rfl⟩ (fun r2 h2 v2 ad2 ws2 H2 locs2 hK2 hg2 hA2 hN2 hR2 hP2 hD2 hS2 => ?_)
  obtain ⟨x, rfl, rfl⟩ := zSame_to hK2 hg1 hg2
  exact lv_icmp_eq (tgt := 1181) hx hb (show decode code 538 = .ok (.if_icmp .eq 643, 3) by decide +kernel) (by decide) (fun _ => ex H2 locs2 _ _ ls (Nat.le_of_ble_eq_true rfl) (Nat.le_of_ble_eq_true rfl) hS2 (lv_sub hl [0, 4] rfl)) (fun q => absurd rfl q)
set_option maxHeartbeats 4000000 in
set_option maxRecDepth 100000 in
theorem zl_op_on {p : Program} {l : Launch} {e : Env} {s : State} {m : MethodId} {below : List Frame} {meth : Method} {c : Code} {b : Nat} {xs : Nat → Int32} {D : va_G} {cy : Nat → ClassId} {ad : Nat → Nat} {ws : va_W} {H : Heap} {locs : List Loc} {ls : Array Slot} {q9 : Nat} {Q : State → Prop} (hx : p.tables.exec = Jvm.exec) (hb : c.code = code) (hml : c.maxLocals = 7) (hown : s.vm.findClass R_law = some m.cls) (hts : ∀ w ∈ lw_tbl, w.before #[Value.ref b] s = true) (hX : va_X b 6 xs s s.heap) (hbl : b < s.heap.size) (hst : zStat zSS D cy s) (hR : zR ad cy zh0 ws) (hP : va_P D vwCl ws H) (hD : va_D (fun q => s.heap.size ≤ q) ws) (hS : va_S (fun q => s.heap.size ≤ q) s.heap H locs) (hl : lv_has ls 7 [(4, .int 0), (3, .ref q9), (2, .ref (ad 102)), (1, .ref (ad 0)), (0, .ref b)])
    (ex : ∀ (H1 : Heap) (locs1 : List Loc) (cells slots : Nat) (ls1 : Array Slot), cells ≤ 1000 → slots ≤ 500000 → va_S (fun q => s.heap.size ≤ q) s.heap H1 locs1 → lv_has ls1 7 [(4, .int 0), (0, .ref b)] → W p l e room_1 s m #[Value.ref b] below meth c H1 locs1 cells slots Q (F0 m 1181 ls1 [])) :
    W p l e room_1 s m #[Value.ref b] below meth c H locs 127 117458 Q (F0 m 543 ls []) := by
  obtain ⟨a1, g1, hk⟩ := zl_ck_on (xs 1)
  refine lv_aload_n (i := 1) (x := ad 0) hx hb (show decode code 543 = .ok (.aload_n 1, 1) by decide +kernel) rfl (lv_at hl 3 rfl) ?_
  refine zl_arg hx hb hX hbl hS 1 (by omega) (by omega) (lv_at hl 4 rfl) (lv_at hl 0 rfl) (by decide +kernel) (by decide +kernel) (by decide +kernel) (by decide +kernel) (by decide +kernel) ?_
  refine zl_callV (a := 77) (n := 1) (q := 0) (ec := 10) (T9 := TX10) (N9 := 10) (As := [.int (xs 1)]) (rest := []) (ad := ad) (h := zh0) hx hb hml hown hts hst (show zN zMs 77 = some ((2, 3), 13, 494, zc_77) from rfl) hk (⟨_, _, rfl, ⟨rfl, fun k q => by cases q; exact Nat.le_of_ble_eq_true rfl⟩, _, _, rfl, g1 _ _, rfl⟩) (Nat.le_of_ble_eq_true rfl) rfl rfl (List.mem_of_getElem? (i := 859) rfl) (List.mem_of_getElem? (i := 860) rfl) (List.mem_of_getElem? (i := 861) rfl) (by decide +kernel) rfl hR hP hD hS hl.1 (Nat.zero_le _) (by decide +kernel) ⟨Nat.le_of_ble_eq_true rfl, Nat.le_of_ble_eq_true rfl⟩ (fun r h1 v ad1 ws1 H1 locs1 hK1 hg1 hA1 hN1 hR1 hP1 hD1 hS1 => ?_)
  obtain ⟨⟨fs9, hq⟩, hk1⟩ := zThen_to hK1
  rw [List.append_nil]
  have h102 : ad1 102 = ad 102 := hA1 102 (Nat.le_of_ble_eq_true rfl)
  have hlt : 102 < h1.1 := Nat.lt_of_lt_of_le (Nat.le_of_ble_eq_true rfl : 102 < zh0.1) hN1
  refine lv_aload_n (i := 2) (x := ad 102) hx hb (show decode code 553 = .ok (.aload_n 2, 1) by decide +kernel) rfl (lv_at hl 2 rfl) ?_
  rw [← h102]
  refine zl_arg hx hb hX hbl hS1 1 (by omega) (by omega) (lv_at hl 4 rfl) (lv_at hl 0 rfl) (by decide +kernel) (by decide +kernel) (by decide +kernel) (by decide +kernel) (by decide +kernel) ?_
  refine zl_callV (a := 129) (n := 1) (q := 102) (ec := 11) (T9 := TX11) (N9 := 57) (As := [.int (xs 1)]) (rest := v.toList) (ad := ad1) (h := h1) hx hb hml hown hts hst (show zN zMs 129 = some ((2, 3), 0, 0, zc_129) from rfl) hk1 (⟨_, _, rfl, ⟨rfl, fun k q => by cases q; exact hlt⟩, _, _, rfl, g1 _ _, rfl⟩) (Nat.le_of_ble_eq_true rfl) hq rfl (List.mem_of_getElem? (i := 1705) rfl) (List.mem_of_getElem? (i := 1706) rfl) (List.mem_of_getElem? (i := 1707) rfl) (by decide +kernel) rfl hR1 hP1 hD1 hS1 hl.1 (zl_cat1 v) (by decide +kernel) ⟨Nat.le_of_ble_eq_true rfl, Nat.le_of_ble_eq_true rfl⟩ (fun r2 h2 v2 ad2 ws2 H2 locs2 hK2 hg2 hA2 hN2 hR2 hP2 hD2 hS2 => ?_)
  obtain ⟨x, rfl, rfl⟩ := zSame_to hK2 hg1 hg2
  exact lv_icmp_eq (tgt := 1181) hx hb (show decode code 563 = .ok (.if_icmp .eq 618, 3) by decide +kernel) (by decide) (fun _ => ex H2 locs2 _ _ ls (Nat.le_of_ble_eq_true rfl) (Nat.le_of_ble_eq_true rfl) hS2 (lv_sub hl [0, 4] rfl)) (fun q => absurd rfl q)
set_option maxHeartbeats 4000000 in
set_option maxRecDepth 100000 in
theorem zl_op_now {p : Program} {l : Launch} {e : Env} {s : State} {m : MethodId} {below : List Frame} {meth : Method} {c : Code} {b : Nat} {xs : Nat → Int32} {D : va_G} {cy : Nat → ClassId} {ad : Nat → Nat} {ws : va_W} {H : Heap} {locs : List Loc} {ls : Array Slot} {q9 : Nat} {Q : State → Prop} (hx : p.tables.exec = Jvm.exec) (hb : c.code = code) (hml : c.maxLocals = 7) (hown : s.vm.findClass R_law = some m.cls) (hts : ∀ w ∈ lw_tbl, w.before #[Value.ref b] s = true) (hX : va_X b 6 xs s s.heap) (hbl : b < s.heap.size) (hst : zStat zSS D cy s) (hR : zR ad cy zh0 ws) (hP : va_P D vwCl ws H) (hD : va_D (fun q => s.heap.size ≤ q) ws) (hS : va_S (fun q => s.heap.size ≤ q) s.heap H locs) (hl : lv_has ls 7 [(4, .int 0), (3, .ref q9), (2, .ref (ad 102)), (1, .ref (ad 0)), (0, .ref b)])
    (ex : ∀ (H1 : Heap) (locs1 : List Loc) (cells slots : Nat) (ls1 : Array Slot), cells ≤ 1000 → slots ≤ 500000 → va_S (fun q => s.heap.size ≤ q) s.heap H1 locs1 → lv_has ls1 7 [(4, .int 0), (0, .ref b)] → W p l e room_1 s m #[Value.ref b] below meth c H1 locs1 cells slots Q (F0 m 1181 ls1 [])) :
    W p l e room_1 s m #[Value.ref b] below meth c H locs 127 117458 Q (F0 m 568 ls []) := by
  obtain ⟨a1, g1, hk⟩ := zl_ck_now (xs 1)
  refine lv_aload_n (i := 1) (x := ad 0) hx hb (show decode code 568 = .ok (.aload_n 1, 1) by decide +kernel) rfl (lv_at hl 3 rfl) ?_
  refine zl_arg hx hb hX hbl hS 1 (by omega) (by omega) (lv_at hl 4 rfl) (lv_at hl 0 rfl) (by decide +kernel) (by decide +kernel) (by decide +kernel) (by decide +kernel) (by decide +kernel) ?_
  refine zl_callV (a := 75) (n := 1) (q := 0) (ec := 10) (T9 := TX10) (N9 := 10) (As := [.int (xs 1)]) (rest := []) (ad := ad) (h := zh0) hx hb hml hown hts hst (show zN zMs 75 = some ((2, 4), 0, 0, zc_75) from rfl) hk (⟨_, _, rfl, ⟨rfl, fun k q => by cases q; exact Nat.le_of_ble_eq_true rfl⟩, _, _, rfl, g1 _ _, rfl⟩) (Nat.le_of_ble_eq_true rfl) rfl rfl (List.mem_of_getElem? (i := 942) rfl) (List.mem_of_getElem? (i := 943) rfl) (List.mem_of_getElem? (i := 944) rfl) (by decide +kernel) rfl hR hP hD hS hl.1 (Nat.zero_le _) (by decide +kernel) ⟨Nat.le_of_ble_eq_true rfl, Nat.le_of_ble_eq_true rfl⟩ (fun r h1 v ad1 ws1 H1 locs1 hK1 hg1 hA1 hN1 hR1 hP1 hD1 hS1 => ?_)
  obtain ⟨⟨fs9, hq⟩, hk1⟩ := zThen_to hK1
  rw [List.append_nil]
  have h102 : ad1 102 = ad 102 := hA1 102 (Nat.le_of_ble_eq_true rfl)
  have hlt : 102 < h1.1 := Nat.lt_of_lt_of_le (Nat.le_of_ble_eq_true rfl : 102 < zh0.1) hN1
  refine lv_aload_n (i := 2) (x := ad 102) hx hb (show decode code 578 = .ok (.aload_n 2, 1) by decide +kernel) rfl (lv_at hl 2 rfl) ?_
  rw [← h102]
  refine zl_arg hx hb hX hbl hS1 1 (by omega) (by omega) (lv_at hl 4 rfl) (lv_at hl 0 rfl) (by decide +kernel) (by decide +kernel) (by decide +kernel) (by decide +kernel) (by decide +kernel) ?_
  refine zl_callV (a := 127) (n := 1) (q := 102) (ec := 11) (T9 := TX11) (N9 := 57) (As := [.int (xs 1)]) (rest := v.toList) (ad := ad1) (h := h1) hx hb hml hown hts hst (show zN zMs 127 = some ((2, 6), 0, 0, zc_127) from rfl) hk1 (⟨_, _, rfl, ⟨rfl, fun k q => by cases q; exact hlt⟩, _, _, rfl, g1 _ _, rfl⟩) (Nat.le_of_ble_eq_true rfl) hq rfl (List.mem_of_getElem? (i := 1738) rfl) (List.mem_of_getElem? (i := 1739) rfl) (List.mem_of_getElem? (i := 1740) rfl) (by decide +kernel) rfl hR1 hP1 hD1 hS1 hl.1 (zl_cat1 v) (by decide +kernel) ⟨Nat.le_of_ble_eq_true rfl, Nat.le_of_ble_eq_true rfl⟩ (fun r2 h2 v2 ad2 ws2 H2 locs2 hK2 hg2 hA2 hN2 hR2 hP2 hD2 hS2 => ?_)
  obtain ⟨x, rfl, rfl⟩ := zSame_to hK2 hg1 hg2
  exact lv_icmp_eq (tgt := 1181) hx hb (show decode code 588 = .ok (.if_icmp .eq 593, 3) by decide +kernel) (by decide) (fun _ => ex H2 locs2 _ _ ls (Nat.le_of_ble_eq_true rfl) (Nat.le_of_ble_eq_true rfl) hS2 (lv_sub hl [0, 4] rfl)) (fun q => absurd rfl q)
set_option maxHeartbeats 4000000 in
set_option maxRecDepth 100000 in
theorem zl_op_met {p : Program} {l : Launch} {e : Env} {s : State} {m : MethodId} {below : List Frame} {meth : Method} {c : Code} {b : Nat} {xs : Nat → Int32} {D : va_G} {cy : Nat → ClassId} {ad : Nat → Nat} {ws : va_W} {H : Heap} {locs : List Loc} {ls : Array Slot} {q9 : Nat} {Q : State → Prop} (hx : p.tables.exec = Jvm.exec) (hb : c.code = code) (hml : c.maxLocals = 7) (hown : s.vm.findClass R_law = some m.cls) (hts : ∀ w ∈ lw_tbl, w.before #[Value.ref b] s = true) (hX : va_X b 6 xs s s.heap) (hbl : b < s.heap.size) (hst : zStat zSS D cy s) (hR : zR ad cy zh0 ws) (hP : va_P D vwCl ws H) (hD : va_D (fun q => s.heap.size ≤ q) ws) (hS : va_S (fun q => s.heap.size ≤ q) s.heap H locs) (hl : lv_has ls 7 [(4, .int 0), (3, .ref q9), (2, .ref (ad 102)), (1, .ref (ad 0)), (0, .ref b)])
    (ex : ∀ (H1 : Heap) (locs1 : List Loc) (cells slots : Nat) (ls1 : Array Slot), cells ≤ 1000 → slots ≤ 500000 → va_S (fun q => s.heap.size ≤ q) s.heap H1 locs1 → lv_has ls1 7 [(4, .int 0), (0, .ref b)] → W p l e room_1 s m #[Value.ref b] below meth c H1 locs1 cells slots Q (F0 m 1181 ls1 [])) :
    W p l e room_1 s m #[Value.ref b] below meth c H locs 127 117458 Q (F0 m 593 ls []) := by
  obtain ⟨a1, a2, ⟨g1, g2⟩, hk⟩ := zl_ck_met (xs 1) (xs 2)
  refine lv_aload_n (i := 1) (x := ad 0) hx hb (show decode code 593 = .ok (.aload_n 1, 1) by decide +kernel) rfl (lv_at hl 3 rfl) ?_
  refine zl_arg hx hb hX hbl hS 1 (by omega) (by omega) (lv_at hl 4 rfl) (lv_at hl 0 rfl) (by decide +kernel) (by decide +kernel) (by decide +kernel) (by decide +kernel) (by decide +kernel) ?_
  refine zl_arg hx hb hX hbl hS 2 (by omega) (by omega) (lv_at hl 4 rfl) (lv_at hl 0 rfl) (by decide +kernel) (by decide +kernel) (by decide +kernel) (by decide +kernel) (by decide +kernel) ?_
  refine zl_callV (a := 73) (n := 2) (q := 0) (ec := 10) (T9 := TX10) (N9 := 10) (As := [.int (xs 1), .int (xs 2)]) (rest := []) (ad := ad) (h := zh0) hx hb hml hown hts hst (show zN zMs 73 = some ((3, 3), 0, 0, zc_73) from rfl) hk (⟨_, _, rfl, ⟨rfl, fun k q => by cases q; exact Nat.le_of_ble_eq_true rfl⟩, _, _, rfl, g1 _ _, _, _, rfl, g2 _ _, rfl⟩) (Nat.le_of_ble_eq_true rfl) rfl rfl (List.mem_of_getElem? (i := 957) rfl) (List.mem_of_getElem? (i := 958) rfl) (List.mem_of_getElem? (i := 959) rfl) (by decide +kernel) rfl hR hP hD hS hl.1 (Nat.zero_le _) (by decide +kernel) ⟨Nat.le_of_ble_eq_true rfl, Nat.le_of_ble_eq_true rfl⟩ (fun r h1 v ad1 ws1 H1 locs1 hK1 hg1 hA1 hN1 hR1 hP1 hD1 hS1 => ?_)
  obtain ⟨⟨fs9, hq⟩, hk1⟩ := zThen_to hK1
  rw [List.append_nil]
  have h102 : ad1 102 = ad 102 := hA1 102 (Nat.le_of_ble_eq_true rfl)
  have hlt : 102 < h1.1 := Nat.lt_of_lt_of_le (Nat.le_of_ble_eq_true rfl : 102 < zh0.1) hN1
  refine lv_aload_n (i := 2) (x := ad 102) hx hb (show decode code 609 = .ok (.aload_n 2, 1) by decide +kernel) rfl (lv_at hl 2 rfl) ?_
  rw [← h102]
  refine zl_arg hx hb hX hbl hS1 1 (by omega) (by omega) (lv_at hl 4 rfl) (lv_at hl 0 rfl) (by decide +kernel) (by decide +kernel) (by decide +kernel) (by decide +kernel) (by decide +kernel) ?_
  refine zl_arg hx hb hX hbl hS1 2 (by omega) (by omega) (lv_at hl 4 rfl) (lv_at hl 0 rfl) (by decide +kernel) (by decide +kernel) (by decide +kernel) (by decide +kernel) (by decide +kernel) ?_
  refine zl_callV (a := 124) (n := 2) (q := 102) (ec := 11) (T9 := TX11) (N9 := 57) (As := [.int (xs 1), .int (xs 2)]) (rest := v.toList) (ad := ad1) (h := h1) hx hb hml hown hts hst (show zN zMs 124 = some ((3, 3), 0, 0, zc_124) from rfl) hk1 (⟨_, _, rfl, ⟨rfl, fun k q => by cases q; exact hlt⟩, _, _, rfl, g1 _ _, _, _, rfl, g2 _ _, rfl⟩) (Nat.le_of_ble_eq_true rfl) hq rfl (List.mem_of_getElem? (i := 1742) rfl) (List.mem_of_getElem? (i := 1743) rfl) (List.mem_of_getElem? (i := 1744) rfl) (by decide +kernel) rfl hR1 hP1 hD1 hS1 hl.1 (zl_cat1 v) (by decide +kernel) ⟨Nat.le_of_ble_eq_true rfl, Nat.le_of_ble_eq_true rfl⟩ (fun r2 h2 v2 ad2 ws2 H2 locs2 hK2 hg2 hA2 hN2 hR2 hP2 hD2 hS2 => ?_)
  obtain ⟨x, rfl, rfl⟩ := zSame_to hK2 hg1 hg2
  exact lv_icmp_eq (tgt := 1181) hx hb (show decode code 625 = .ok (.if_icmp .eq 556, 3) by decide +kernel) (by decide) (fun _ => ex H2 locs2 _ _ ls (Nat.le_of_ble_eq_true rfl) (Nat.le_of_ble_eq_true rfl) hS2 (lv_sub hl [0, 4] rfl)) (fun q => absurd rfl q)
set_option maxHeartbeats 4000000 in
set_option maxRecDepth 100000 in
theorem zl_op_undo {p : Program} {l : Launch} {e : Env} {s : State} {m : MethodId} {below : List Frame} {meth : Method} {c : Code} {b : Nat} {xs : Nat → Int32} {D : va_G} {cy : Nat → ClassId} {ad : Nat → Nat} {ws : va_W} {H : Heap} {locs : List Loc} {ls : Array Slot} {q9 : Nat} {Q : State → Prop} (hx : p.tables.exec = Jvm.exec) (hb : c.code = code) (hml : c.maxLocals = 7) (hown : s.vm.findClass R_law = some m.cls) (hts : ∀ w ∈ lw_tbl, w.before #[Value.ref b] s = true) (hX : va_X b 6 xs s s.heap) (hbl : b < s.heap.size) (hst : zStat zSS D cy s) (hR : zR ad cy zh0 ws) (hP : va_P D vwCl ws H) (hD : va_D (fun q => s.heap.size ≤ q) ws) (hS : va_S (fun q => s.heap.size ≤ q) s.heap H locs) (hl : lv_has ls 7 [(4, .int 0), (3, .ref q9), (2, .ref (ad 102)), (1, .ref (ad 0)), (0, .ref b)])
    (ex : ∀ (H1 : Heap) (locs1 : List Loc) (cells slots : Nat) (ls1 : Array Slot), cells ≤ 1000 → slots ≤ 500000 → va_S (fun q => s.heap.size ≤ q) s.heap H1 locs1 → lv_has ls1 7 [(4, .int 0), (0, .ref b)] → W p l e room_1 s m #[Value.ref b] below meth c H1 locs1 cells slots Q (F0 m 1181 ls1 [])) :
    W p l e room_1 s m #[Value.ref b] below meth c H locs 127 117458 Q (F0 m 630 ls []) := by
  have hk := zk_undo
  refine lv_aload_n (i := 1) (x := ad 0) hx hb (show decode code 630 = .ok (.aload_n 1, 1) by decide +kernel) rfl (lv_at hl 3 rfl) ?_
  refine zl_callV (a := 86) (n := 0) (q := 0) (ec := 10) (T9 := TX10) (N9 := 10) (As := []) (rest := []) (ad := ad) (h := zh0) hx hb hml hown hts hst (show zN zMs 86 = some ((1, 1), 0, 0, zc_86) from rfl) hk (⟨_, _, rfl, ⟨rfl, fun k q => by cases q; exact Nat.le_of_ble_eq_true rfl⟩, rfl⟩) (Nat.le_of_ble_eq_true rfl) rfl rfl (List.mem_of_getElem? (i := 961) rfl) (List.mem_of_getElem? (i := 962) rfl) (List.mem_of_getElem? (i := 963) rfl) (by decide +kernel) rfl hR hP hD hS hl.1 (Nat.zero_le _) (by decide +kernel) ⟨Nat.le_of_ble_eq_true rfl, Nat.le_of_ble_eq_true rfl⟩ (fun r h1 v ad1 ws1 H1 locs1 hK1 hg1 hA1 hN1 hR1 hP1 hD1 hS1 => ?_)
  obtain ⟨⟨fs9, hq⟩, hk1⟩ := zThen_to hK1
  rw [List.append_nil]
  have h102 : ad1 102 = ad 102 := hA1 102 (Nat.le_of_ble_eq_true rfl)
  have hlt : 102 < h1.1 := Nat.lt_of_lt_of_le (Nat.le_of_ble_eq_true rfl : 102 < zh0.1) hN1
  refine lv_aload_n (i := 2) (x := ad 102) hx hb (show decode code 634 = .ok (.aload_n 2, 1) by decide +kernel) rfl (lv_at hl 2 rfl) ?_
  rw [← h102]
  refine zl_callV (a := 148) (n := 0) (q := 102) (ec := 11) (T9 := TX11) (N9 := 57) (As := []) (rest := v.toList) (ad := ad1) (h := h1) hx hb hml hown hts hst (show zN zMs 148 = some ((1, 2), 0, 0, zc_148) from rfl) hk1 (⟨_, _, rfl, ⟨rfl, fun k q => by cases q; exact hlt⟩, rfl⟩) (Nat.le_of_ble_eq_true rfl) hq rfl (List.mem_of_getElem? (i := 1746) rfl) (List.mem_of_getElem? (i := 1747) rfl) (List.mem_of_getElem? (i := 1748) rfl) (by decide +kernel) rfl hR1 hP1 hD1 hS1 hl.1 (zl_cat1 v) (by decide +kernel) ⟨Nat.le_of_ble_eq_true rfl, Nat.le_of_ble_eq_true rfl⟩ (fun r2 h2 v2 ad2 ws2 H2 locs2 hK2 hg2 hA2 hN2 hR2 hP2 hD2 hS2 => ?_)
  obtain ⟨x, rfl, rfl⟩ := zSame_to hK2 hg1 hg2
  exact lv_icmp_eq (tgt := 1181) hx hb (show decode code 638 = .ok (.if_icmp .eq 543, 3) by decide +kernel) (by decide) (fun _ => ex H2 locs2 _ _ ls (Nat.le_of_ble_eq_true rfl) (Nat.le_of_ble_eq_true rfl) hS2 (lv_sub hl [0, 4] rfl)) (fun q => absurd rfl q)
