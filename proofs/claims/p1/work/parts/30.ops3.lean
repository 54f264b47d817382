set_option maxHeartbeats 4000000 in
set_option maxRecDepth 100000 in
theorem zl_op_latest {p : Program} {l : Launch} {e : Env} {s : State} {m : MethodId} {below : List Frame} {meth : Method} {c : Code} {b : Nat} {xs : Nat → Int32} {D : va_G} {cy : Nat → ClassId} {ad : Nat → Nat} {ws : va_W} {H : Heap} {locs : List Loc} {ls : Array Slot} {q9 : Nat} {Q : State → Prop} (hx : p.tables.exec = Jvm.exec) (hb : c.code = code) (hml : c.maxLocals = 7) (hown : s.vm.findClass R_law = some m.cls) (hts : ∀ w ∈ lw_tbl, w.before #[Value.ref b] s = true) (hX : va_X b 6 xs s s.heap) (hbl : b < s.heap.size) (hst : zStat zSS D cy s) (hR : zR ad cy zh0 ws) (hP : va_P D vwCl ws H) (hD : va_D (fun q => s.heap.size ≤ q) ws) (hS : va_S (fun q => s.heap.size ≤ q) s.heap H locs) (hl : lv_has ls 7 [(4, .int 0), (3, .ref q9), (2, .ref (ad 102)), (1, .ref (ad 0)), (0, .ref b)])
    (ex : ∀ (H1 : Heap) (locs1 : List Loc) (cells slots : Nat) (ls1 : Array Slot), cells ≤ 1000 → slots ≤ 500000 → va_S (fun q => s.heap.size ≤ q) s.heap H1 locs1 → lv_has ls1 7 [(4, .int 0), (0, .ref b)] → W p l e room_1 s m #[Value.ref b] below meth c H1 locs1 cells slots Q (F0 m 1181 ls1 [])) :
    W p l e room_1 s m #[Value.ref b] below meth c H locs 127 117458 Q (F0 m 930 ls []) := by
  have hk := zk_latest
  refine lv_aload_n (i := 1) (x := ad 0) hx hb (by decide +kernel) rfl (lv_at hl 3 rfl) ?_
  refine zl_callV (a := 70) (n := 0) (q := 0) (ec := 10) (T9 := TX10) (N9 := 10) (As := []) (rest := []) (ad := ad) (h := zh0) hx hb hml hown hts hst (show zN zMs 70 = some ((1, 3), 0, 0, zc_70) from rfl) hk (⟨_, _, rfl, ⟨rfl, fun k q => by cases q; exact Nat.le_of_ble_eq_true rfl⟩, rfl⟩) (Nat.le_of_ble_eq_true rfl) rfl rfl (List.mem_of_getElem? (i := 1122) rfl) (List.mem_of_getElem? (i := 1123) rfl) (List.mem_of_getElem? (i := 1124) rfl) (by decide +kernel) rfl hR hP hD hS hl.1 (Nat.zero_le _) (by decide +kernel) ⟨Nat.le_of_ble_eq_true rfl, Nat.le_of_ble_eq_true rfl⟩ (fun r h1 v ad1 ws1 H1 locs1 hK1 hg1 hA1 hN1 hR1 hP1 hD1 hS1 => ?_)
  obtain ⟨⟨fs9, hq⟩, hk1⟩ := zThen_to hK1
  rw [List.append_nil]
  have h102 : ad1 102 = ad 102 := hA1 102 (Nat.le_of_ble_eq_true rfl)
  have hlt : 102 < h1.1 := Nat.lt_of_lt_of_le (Nat.le_of_ble_eq_true rfl : 102 < zh0.1) hN1
  refine lv_aload_n (i := 2) (x := ad 102) hx hb (by decide +kernel) rfl (lv_at hl 2 rfl) ?_
  rw [← h102]
  refine zl_callV (a := 121) (n := 0) (q := 102) (ec := 11) (T9 := TX11) (N9 := 57) (As := []) (rest := v.toList) (ad := ad1) (h := h1) hx hb hml hown hts hst (show zN zMs 121 = some ((1, 3), 0, 0, zc_121) from rfl) hk1 (⟨_, _, rfl, ⟨rfl, fun k q => by cases q; exact hlt⟩, rfl⟩) (Nat.le_of_ble_eq_true rfl) hq rfl (List.mem_of_getElem? (i := 1854) rfl) (List.mem_of_getElem? (i := 1855) rfl) (List.mem_of_getElem? (i := 1856) rfl) (by decide +kernel) rfl hR1 hP1 hD1 hS1 hl.1 (zl_cat1 v) (by decide +kernel) ⟨Nat.le_of_ble_eq_true rfl, Nat.le_of_ble_eq_true rfl⟩ (fun r2 h2 v2 ad2 ws2 H2 locs2 hK2 hg2 hA2 hN2 hR2 hP2 hD2 hS2 => ?_)
  obtain ⟨x, rfl, rfl⟩ := zSame_to hK2 hg1 hg2
  exact lv_icmp_eq (tgt := 1181) hx hb (by decide +kernel) (by decide) (fun _ => ex H2 locs2 _ _ ls (Nat.le_of_ble_eq_true rfl) (Nat.le_of_ble_eq_true rfl) hS2 (lv_sub hl [0, 4] rfl)) (fun q => absurd rfl q)
set_option maxHeartbeats 4000000 in
set_option maxRecDepth 100000 in
theorem zl_op_drawn {p : Program} {l : Launch} {e : Env} {s : State} {m : MethodId} {below : List Frame} {meth : Method} {c : Code} {b : Nat} {xs : Nat → Int32} {D : va_G} {cy : Nat → ClassId} {ad : Nat → Nat} {ws : va_W} {H : Heap} {locs : List Loc} {ls : Array Slot} {q9 : Nat} {Q : State → Prop} (hx : p.tables.exec = Jvm.exec) (hb : c.code = code) (hml : c.maxLocals = 7) (hown : s.vm.findClass R_law = some m.cls) (hts : ∀ w ∈ lw_tbl, w.before #[Value.ref b] s = true) (hX : va_X b 6 xs s s.heap) (hbl : b < s.heap.size) (hst : zStat zSS D cy s) (hR : zR ad cy zh0 ws) (hP : va_P D vwCl ws H) (hD : va_D (fun q => s.heap.size ≤ q) ws) (hS : va_S (fun q => s.heap.size ≤ q) s.heap H locs) (hl : lv_has ls 7 [(4, .int 0), (3, .ref q9), (2, .ref (ad 102)), (1, .ref (ad 0)), (0, .ref b)])
    (ex : ∀ (H1 : Heap) (locs1 : List Loc) (cells slots : Nat) (ls1 : Array Slot), cells ≤ 1000 → slots ≤ 500000 → va_S (fun q => s.heap.size ≤ q) s.heap H1 locs1 → lv_has ls1 7 [(4, .int 0), (0, .ref b)] → W p l e room_1 s m #[Value.ref b] below meth c H1 locs1 cells slots Q (F0 m 1181 ls1 [])) :
    W p l e room_1 s m #[Value.ref b] below meth c H locs 127 117458 Q (F0 m 943 ls []) := by
  obtain ⟨a1, g1, hk⟩ := zl_ck_drawn (xs 1)
  refine lv_aload_n (i := 1) (x := ad 0) hx hb (by decide +kernel) rfl (lv_at hl 3 rfl) ?_
  refine zl_arg hx hb hX hbl hS 1 (by omega) (by omega) (lv_at hl 4 rfl) (lv_at hl 0 rfl) (by decide +kernel) (by decide +kernel) (by decide +kernel) (by decide +kernel) (by decide +kernel) ?_
  refine zl_callV (a := 57) (n := 1) (q := 0) (ec := 10) (T9 := TX10) (N9 := 10) (As := [.int (xs 1)]) (rest := []) (ad := ad) (h := zh0) hx hb hml hown hts hst (show zN zMs 57 = some ((2, 2), 0, 0, zc_57) from rfl) hk (⟨_, _, rfl, ⟨rfl, fun k q => by cases q; exact Nat.le_of_ble_eq_true rfl⟩, _, _, rfl, g1 _ _, rfl⟩) (Nat.le_of_ble_eq_true rfl) rfl rfl (List.mem_of_getElem? (i := 1126) rfl) (List.mem_of_getElem? (i := 1127) rfl) (List.mem_of_getElem? (i := 1128) rfl) (by decide +kernel) rfl hR hP hD hS hl.1 (Nat.zero_le _) (by decide +kernel) ⟨Nat.le_of_ble_eq_true rfl, Nat.le_of_ble_eq_true rfl⟩ (fun r h1 v ad1 ws1 H1 locs1 hK1 hg1 hA1 hN1 hR1 hP1 hD1 hS1 => ?_)
  obtain ⟨⟨fs9, hq⟩, hk1⟩ := zThen_to hK1
  rw [List.append_nil]
  have h102 : ad1 102 = ad 102 := hA1 102 (Nat.le_of_ble_eq_true rfl)
  have hlt : 102 < h1.1 := Nat.lt_of_lt_of_le (Nat.le_of_ble_eq_true rfl : 102 < zh0.1) hN1
  refine lv_aload_n (i := 2) (x := ad 102) hx hb (by decide +kernel) rfl (lv_at hl 2 rfl) ?_
  rw [← h102]
  refine zl_arg hx hb hX hbl hS1 1 (by omega) (by omega) (lv_at hl 4 rfl) (lv_at hl 0 rfl) (by decide +kernel) (by decide +kernel) (by decide +kernel) (by decide +kernel) (by decide +kernel) ?_
  refine zl_callV (a := 101) (n := 1) (q := 102) (ec := 11) (T9 := TX11) (N9 := 57) (As := [.int (xs 1)]) (rest := v.toList) (ad := ad1) (h := h1) hx hb hml hown hts hst (show zN zMs 101 = some ((2, 2), 0, 0, zc_101) from rfl) hk1 (⟨_, _, rfl, ⟨rfl, fun k q => by cases q; exact hlt⟩, _, _, rfl, g1 _ _, rfl⟩) (Nat.le_of_ble_eq_true rfl) hq rfl (List.mem_of_getElem? (i := 1858) rfl) (List.mem_of_getElem? (i := 1859) rfl) (List.mem_of_getElem? (i := 1860) rfl) (by decide +kernel) rfl hR1 hP1 hD1 hS1 hl.1 (zl_cat1 v) (by decide +kernel) ⟨Nat.le_of_ble_eq_true rfl, Nat.le_of_ble_eq_true rfl⟩ (fun r2 h2 v2 ad2 ws2 H2 locs2 hK2 hg2 hA2 hN2 hR2 hP2 hD2 hS2 => ?_)
  obtain ⟨x, rfl, rfl⟩ := zSame_to hK2 hg1 hg2
  exact lv_icmp_eq (tgt := 1181) hx hb (by decide +kernel) (by decide) (fun _ => ex H2 locs2 _ _ ls (Nat.le_of_ble_eq_true rfl) (Nat.le_of_ble_eq_true rfl) hS2 (lv_sub hl [0, 4] rfl)) (fun q => absurd rfl q)
set_option maxHeartbeats 4000000 in
set_option maxRecDepth 100000 in
theorem zl_op_odds {p : Program} {l : Launch} {e : Env} {s : State} {m : MethodId} {below : List Frame} {meth : Method} {c : Code} {b : Nat} {xs : Nat → Int32} {D : va_G} {cy : Nat → ClassId} {ad : Nat → Nat} {ws : va_W} {H : Heap} {locs : List Loc} {ls : Array Slot} {q9 : Nat} {Q : State → Prop} (hx : p.tables.exec = Jvm.exec) (hb : c.code = code) (hml : c.maxLocals = 7) (hown : s.vm.findClass R_law = some m.cls) (hts : ∀ w ∈ lw_tbl, w.before #[Value.ref b] s = true) (hX : va_X b 6 xs s s.heap) (hbl : b < s.heap.size) (hst : zStat zSS D cy s) (hR : zR ad cy zh0 ws) (hP : va_P D vwCl ws H) (hD : va_D (fun q => s.heap.size ≤ q) ws) (hS : va_S (fun q => s.heap.size ≤ q) s.heap H locs) (hl : lv_has ls 7 [(4, .int 0), (3, .ref q9), (2, .ref (ad 102)), (1, .ref (ad 0)), (0, .ref b)])
    (ex : ∀ (H1 : Heap) (locs1 : List Loc) (cells slots : Nat) (ls1 : Array Slot), cells ≤ 1000 → slots ≤ 500000 → va_S (fun q => s.heap.size ≤ q) s.heap H1 locs1 → lv_has ls1 7 [(4, .int 0), (0, .ref b)] → W p l e room_1 s m #[Value.ref b] below meth c H1 locs1 cells slots Q (F0 m 1181 ls1 [])) :
    W p l e room_1 s m #[Value.ref b] below meth c H locs 127 117458 Q (F0 m 968 ls []) := by
  obtain ⟨a1, a2, ⟨g1, g2⟩, hk⟩ := zl_ck_odds (xs 1) (xs 2)
  refine lv_aload_n (i := 1) (x := ad 0) hx hb (by decide +kernel) rfl (lv_at hl 3 rfl) ?_
  refine zl_arg hx hb hX hbl hS 1 (by omega) (by omega) (lv_at hl 4 rfl) (lv_at hl 0 rfl) (by decide +kernel) (by decide +kernel) (by decide +kernel) (by decide +kernel) (by decide +kernel) ?_
  refine zl_arg hx hb hX hbl hS 2 (by omega) (by omega) (lv_at hl 4 rfl) (lv_at hl 0 rfl) (by decide +kernel) (by decide +kernel) (by decide +kernel) (by decide +kernel) (by decide +kernel) ?_
  refine zl_callV (a := 76) (n := 2) (q := 0) (ec := 10) (T9 := TX10) (N9 := 10) (As := [.int (xs 1), .int (xs 2)]) (rest := []) (ad := ad) (h := zh0) hx hb hml hown hts hst (show zN zMs 76 = some ((3, 5), 0, 0, zc_76) from rfl) hk (⟨_, _, rfl, ⟨rfl, fun k q => by cases q; exact Nat.le_of_ble_eq_true rfl⟩, _, _, rfl, g1 _ _, _, _, rfl, g2 _ _, rfl⟩) (Nat.le_of_ble_eq_true rfl) rfl rfl (List.mem_of_getElem? (i := 1136) rfl) (List.mem_of_getElem? (i := 1137) rfl) (List.mem_of_getElem? (i := 1138) rfl) (by decide +kernel) rfl hR hP hD hS hl.1 (Nat.zero_le _) (by decide +kernel) ⟨Nat.le_of_ble_eq_true rfl, Nat.le_of_ble_eq_true rfl⟩ (fun r h1 v ad1 ws1 H1 locs1 hK1 hg1 hA1 hN1 hR1 hP1 hD1 hS1 => ?_)
  obtain ⟨⟨fs9, hq⟩, hk1⟩ := zThen_to hK1
  rw [List.append_nil]
  have h102 : ad1 102 = ad 102 := hA1 102 (Nat.le_of_ble_eq_true rfl)
  have hlt : 102 < h1.1 := Nat.lt_of_lt_of_le (Nat.le_of_ble_eq_true rfl : 102 < zh0.1) hN1
  refine lv_aload_n (i := 2) (x := ad 102) hx hb (by decide +kernel) rfl (lv_at hl 2 rfl) ?_
  rw [← h102]
  refine zl_arg hx hb hX hbl hS1 1 (by omega) (by omega) (lv_at hl 4 rfl) (lv_at hl 0 rfl) (by decide +kernel) (by decide +kernel) (by decide +kernel) (by decide +kernel) (by decide +kernel) ?_
  refine zl_arg hx hb hX hbl hS1 2 (by omega) (by omega) (lv_at hl 4 rfl) (lv_at hl 0 rfl) (by decide +kernel) (by decide +kernel) (by decide +kernel) (by decide +kernel) (by decide +kernel) ?_
  refine zl_callV (a := 128) (n := 2) (q := 102) (ec := 11) (T9 := TX11) (N9 := 57) (As := [.int (xs 1), .int (xs 2)]) (rest := v.toList) (ad := ad1) (h := h1) hx hb hml hown hts hst (show zN zMs 128 = some ((3, 5), 0, 0, zc_128) from rfl) hk1 (⟨_, _, rfl, ⟨rfl, fun k q => by cases q; exact hlt⟩, _, _, rfl, g1 _ _, _, _, rfl, g2 _ _, rfl⟩) (Nat.le_of_ble_eq_true rfl) hq rfl (List.mem_of_getElem? (i := 1871) rfl) (List.mem_of_getElem? (i := 1872) rfl) (List.mem_of_getElem? (i := 1873) rfl) (by decide +kernel) rfl hR1 hP1 hD1 hS1 hl.1 (zl_cat1 v) (by decide +kernel) ⟨Nat.le_of_ble_eq_true rfl, Nat.le_of_ble_eq_true rfl⟩ (fun r2 h2 v2 ad2 ws2 H2 locs2 hK2 hg2 hA2 hN2 hR2 hP2 hD2 hS2 => ?_)
  obtain ⟨x, rfl, rfl⟩ := zSame_to hK2 hg1 hg2
  exact lv_icmp_eq (tgt := 1181) hx hb (by decide +kernel) (by decide) (fun _ => ex H2 locs2 _ _ ls (Nat.le_of_ble_eq_true rfl) (Nat.le_of_ble_eq_true rfl) hS2 (lv_sub hl [0, 4] rfl)) (fun q => absurd rfl q)
set_option maxHeartbeats 4000000 in
set_option maxRecDepth 100000 in
theorem zl_op_plan {p : Program} {l : Launch} {e : Env} {s : State} {m : MethodId} {below : List Frame} {meth : Method} {c : Code} {b : Nat} {xs : Nat → Int32} {D : va_G} {cy : Nat → ClassId} {ad : Nat → Nat} {ws : va_W} {H : Heap} {locs : List Loc} {ls : Array Slot} {q9 : Nat} {Q : State → Prop} (hx : p.tables.exec = Jvm.exec) (hb : c.code = code) (hml : c.maxLocals = 7) (hown : s.vm.findClass R_law = some m.cls) (hts : ∀ w ∈ lw_tbl, w.before #[Value.ref b] s = true) (hX : va_X b 6 xs s s.heap) (hbl : b < s.heap.size) (hst : zStat zSS D cy s) (hR : zR ad cy zh0 ws) (hP : va_P D vwCl ws H) (hD : va_D (fun q => s.heap.size ≤ q) ws) (hS : va_S (fun q => s.heap.size ≤ q) s.heap H locs) (hl : lv_has ls 7 [(4, .int 0), (3, .ref q9), (2, .ref (ad 102)), (1, .ref (ad 0)), (0, .ref b)])
    (ex : ∀ (H1 : Heap) (locs1 : List Loc) (cells slots : Nat) (ls1 : Array Slot), cells ≤ 1000 → slots ≤ 500000 → va_S (fun q => s.heap.size ≤ q) s.heap H1 locs1 → lv_has ls1 7 [(4, .int 0), (0, .ref b)] → W p l e room_1 s m #[Value.ref b] below meth c H1 locs1 cells slots Q (F0 m 1181 ls1 [])) :
    W p l e room_1 s m #[Value.ref b] below meth c H locs 127 117458 Q (F0 m 1005 ls []) := by
  have hk := zk_plan
  refine lv_aload_n (i := 1) (x := ad 0) hx hb (by decide +kernel) rfl (lv_at hl 3 rfl) ?_
  refine zl_callV (a := 80) (n := 0) (q := 0) (ec := 10) (T9 := TX10) (N9 := 10) (As := []) (rest := []) (ad := ad) (h := zh0) hx hb hml hown hts hst (show zN zMs 80 = some ((1, 1), 0, 0, zc_80) from rfl) hk (⟨_, _, rfl, ⟨rfl, fun k q => by cases q; exact Nat.le_of_ble_eq_true rfl⟩, rfl⟩) (Nat.le_of_ble_eq_true rfl) rfl rfl (List.mem_of_getElem? (i := 1140) rfl) (List.mem_of_getElem? (i := 1141) rfl) (List.mem_of_getElem? (i := 1142) rfl) (by decide +kernel) rfl hR hP hD hS hl.1 (Nat.zero_le _) (by decide +kernel) ⟨Nat.le_of_ble_eq_true rfl, Nat.le_of_ble_eq_true rfl⟩ (fun r h1 v ad1 ws1 H1 locs1 hK1 hg1 hA1 hN1 hR1 hP1 hD1 hS1 => ?_)
  obtain ⟨⟨fs9, hq⟩, hk1⟩ := zThen_to hK1
  rw [List.append_nil]
  have h102 : ad1 102 = ad 102 := hA1 102 (Nat.le_of_ble_eq_true rfl)
  have hlt : 102 < h1.1 := Nat.lt_of_lt_of_le (Nat.le_of_ble_eq_true rfl : 102 < zh0.1) hN1
  refine lv_aload_n (i := 2) (x := ad 102) hx hb (by decide +kernel) rfl (lv_at hl 2 rfl) ?_
  rw [← h102]
  refine zl_callV (a := 135) (n := 0) (q := 102) (ec := 11) (T9 := TX11) (N9 := 57) (As := []) (rest := v.toList) (ad := ad1) (h := h1) hx hb hml hown hts hst (show zN zMs 135 = some ((1, 4), 0, 0, zc_135) from rfl) hk1 (⟨_, _, rfl, ⟨rfl, fun k q => by cases q; exact hlt⟩, rfl⟩) (Nat.le_of_ble_eq_true rfl) hq rfl (List.mem_of_getElem? (i := 1875) rfl) (List.mem_of_getElem? (i := 1876) rfl) (List.mem_of_getElem? (i := 1877) rfl) (by decide +kernel) rfl hR1 hP1 hD1 hS1 hl.1 (zl_cat1 v) (by decide +kernel) ⟨Nat.le_of_ble_eq_true rfl, Nat.le_of_ble_eq_true rfl⟩ (fun r2 h2 v2 ad2 ws2 H2 locs2 hK2 hg2 hA2 hN2 hR2 hP2 hD2 hS2 => ?_)
  obtain ⟨x, rfl, rfl⟩ := zSame_to hK2 hg1 hg2
  exact lv_icmp_eq (tgt := 1181) hx hb (by decide +kernel) (by decide) (fun _ => ex H2 locs2 _ _ ls (Nat.le_of_ble_eq_true rfl) (Nat.le_of_ble_eq_true rfl) hS2 (lv_sub hl [0, 4] rfl)) (fun q => absurd rfl q)
set_option maxHeartbeats 4000000 in
set_option maxRecDepth 100000 in
theorem zl_op_judge {p : Program} {l : Launch} {e : Env} {s : State} {m : MethodId} {below : List Frame} {meth : Method} {c : Code} {b : Nat} {xs : Nat → Int32} {D : va_G} {cy : Nat → ClassId} {ad : Nat → Nat} {ws : va_W} {H : Heap} {locs : List Loc} {ls : Array Slot} {q9 : Nat} {Q : State → Prop} (hx : p.tables.exec = Jvm.exec) (hb : c.code = code) (hml : c.maxLocals = 7) (hown : s.vm.findClass R_law = some m.cls) (hts : ∀ w ∈ lw_tbl, w.before #[Value.ref b] s = true) (hX : va_X b 6 xs s s.heap) (hbl : b < s.heap.size) (hst : zStat zSS D cy s) (hR : zR ad cy zh0 ws) (hP : va_P D vwCl ws H) (hD : va_D (fun q => s.heap.size ≤ q) ws) (hS : va_S (fun q => s.heap.size ≤ q) s.heap H locs) (hl : lv_has ls 7 [(4, .int 0), (3, .ref q9), (2, .ref (ad 102)), (1, .ref (ad 0)), (0, .ref b)])
    (ex : ∀ (H1 : Heap) (locs1 : List Loc) (cells slots : Nat) (ls1 : Array Slot), cells ≤ 1000 → slots ≤ 500000 → va_S (fun q => s.heap.size ≤ q) s.heap H1 locs1 → lv_has ls1 7 [(4, .int 0), (0, .ref b)] → W p l e room_1 s m #[Value.ref b] below meth c H1 locs1 cells slots Q (F0 m 1181 ls1 [])) :
    W p l e room_1 s m #[Value.ref b] below meth c H locs 127 117458 Q (F0 m 1018 ls []) := by
  obtain ⟨a1, g1, hk⟩ := zl_ck_judge (xs 1)
  refine lv_aload_n (i := 1) (x := ad 0) hx hb (by decide +kernel) rfl (lv_at hl 3 rfl) ?_
  refine zl_arg hx hb hX hbl hS 1 (by omega) (by omega) (lv_at hl 4 rfl) (lv_at hl 0 rfl) (by decide +kernel) (by decide +kernel) (by decide +kernel) (by decide +kernel) (by decide +kernel) ?_
  refine zl_callV (a := 66) (n := 1) (q := 0) (ec := 10) (T9 := TX10) (N9 := 10) (As := [.int (xs 1)]) (rest := []) (ad := ad) (h := zh0) hx hb hml hown hts hst (show zN zMs 66 = some ((2, 5), 0, 0, zc_66) from rfl) hk (⟨_, _, rfl, ⟨rfl, fun k q => by cases q; exact Nat.le_of_ble_eq_true rfl⟩, _, _, rfl, g1 _ _, rfl⟩) (Nat.le_of_ble_eq_true rfl) rfl rfl (List.mem_of_getElem? (i := 1163) rfl) (List.mem_of_getElem? (i := 1164) rfl) (List.mem_of_getElem? (i := 1165) rfl) (by decide +kernel) rfl hR hP hD hS hl.1 (Nat.zero_le _) (by decide +kernel) ⟨Nat.le_of_ble_eq_true rfl, Nat.le_of_ble_eq_true rfl⟩ (fun r h1 v ad1 ws1 H1 locs1 hK1 hg1 hA1 hN1 hR1 hP1 hD1 hS1 => ?_)
  obtain ⟨⟨fs9, hq⟩, hk1⟩ := zThen_to hK1
  rw [List.append_nil]
  have h102 : ad1 102 = ad 102 := hA1 102 (Nat.le_of_ble_eq_true rfl)
  have hlt : 102 < h1.1 := Nat.lt_of_lt_of_le (Nat.le_of_ble_eq_true rfl : 102 < zh0.1) hN1
  refine lv_aload_n (i := 2) (x := ad 102) hx hb (by decide +kernel) rfl (lv_at hl 2 rfl) ?_
  rw [← h102]
  refine zl_arg hx hb hX hbl hS1 1 (by omega) (by omega) (lv_at hl 4 rfl) (lv_at hl 0 rfl) (by decide +kernel) (by decide +kernel) (by decide +kernel) (by decide +kernel) (by decide +kernel) ?_
  refine zl_callV (a := 115) (n := 1) (q := 102) (ec := 11) (T9 := TX11) (N9 := 57) (As := [.int (xs 1)]) (rest := v.toList) (ad := ad1) (h := h1) hx hb hml hown hts hst (show zN zMs 115 = some ((2, 4), 0, 0, zc_115) from rfl) hk1 (⟨_, _, rfl, ⟨rfl, fun k q => by cases q; exact hlt⟩, _, _, rfl, g1 _ _, rfl⟩) (Nat.le_of_ble_eq_true rfl) hq rfl (List.mem_of_getElem? (i := 1883) rfl) (List.mem_of_getElem? (i := 1884) rfl) (List.mem_of_getElem? (i := 1885) rfl) (by decide +kernel) rfl hR1 hP1 hD1 hS1 hl.1 (zl_cat1 v) (by decide +kernel) ⟨Nat.le_of_ble_eq_true rfl, Nat.le_of_ble_eq_true rfl⟩ (fun r2 h2 v2 ad2 ws2 H2 locs2 hK2 hg2 hA2 hN2 hR2 hP2 hD2 hS2 => ?_)
  obtain ⟨x, rfl, rfl⟩ := zSame_to hK2 hg1 hg2
  exact lv_icmp_eq (tgt := 1181) hx hb (by decide +kernel) (by decide) (fun _ => ex H2 locs2 _ _ ls (Nat.le_of_ble_eq_true rfl) (Nat.le_of_ble_eq_true rfl) hS2 (lv_sub hl [0, 4] rfl)) (fun q => absurd rfl q)
set_option maxHeartbeats 4000000 in
set_option maxRecDepth 100000 in
theorem zl_op_judged {p : Program} {l : Launch} {e : Env} {s : State} {m : MethodId} {below : List Frame} {meth : Method} {c : Code} {b : Nat} {xs : Nat → Int32} {D : va_G} {cy : Nat → ClassId} {ad : Nat → Nat} {ws : va_W} {H : Heap} {locs : List Loc} {ls : Array Slot} {q9 : Nat} {Q : State → Prop} (hx : p.tables.exec = Jvm.exec) (hb : c.code = code) (hml : c.maxLocals = 7) (hown : s.vm.findClass R_law = some m.cls) (hts : ∀ w ∈ lw_tbl, w.before #[Value.ref b] s = true) (hX : va_X b 6 xs s s.heap) (hbl : b < s.heap.size) (hst : zStat zSS D cy s) (hR : zR ad cy zh0 ws) (hP : va_P D vwCl ws H) (hD : va_D (fun q => s.heap.size ≤ q) ws) (hS : va_S (fun q => s.heap.size ≤ q) s.heap H locs) (hl : lv_has ls 7 [(4, .int 0), (3, .ref q9), (2, .ref (ad 102)), (1, .ref (ad 0)), (0, .ref b)])
    (ex : ∀ (H1 : Heap) (locs1 : List Loc) (cells slots : Nat) (ls1 : Array Slot), cells ≤ 1000 → slots ≤ 500000 → va_S (fun q => s.heap.size ≤ q) s.heap H1 locs1 → lv_has ls1 7 [(4, .int 0), (0, .ref b)] → W p l e room_1 s m #[Value.ref b] below meth c H1 locs1 cells slots Q (F0 m 1181 ls1 [])) :
    W p l e room_1 s m #[Value.ref b] below meth c H locs 127 117458 Q (F0 m 1043 ls []) := by
  obtain ⟨a1, g1, hk⟩ := zl_ck_judged (xs 1)
  refine lv_aload_n (i := 1) (x := ad 0) hx hb (by decide +kernel) rfl (lv_at hl 3 rfl) ?_
  refine zl_arg hx hb hX hbl hS 1 (by omega) (by omega) (lv_at hl 4 rfl) (lv_at hl 0 rfl) (by decide +kernel) (by decide +kernel) (by decide +kernel) (by decide +kernel) (by decide +kernel) ?_
  refine zl_callV (a := 67) (n := 1) (q := 0) (ec := 10) (T9 := TX10) (N9 := 10) (As := [.int (xs 1)]) (rest := []) (ad := ad) (h := zh0) hx hb hml hown hts hst (show zN zMs 67 = some ((2, 2), 0, 0, zc_67) from rfl) hk (⟨_, _, rfl, ⟨rfl, fun k q => by cases q; exact Nat.le_of_ble_eq_true rfl⟩, _, _, rfl, g1 _ _, rfl⟩) (Nat.le_of_ble_eq_true rfl) rfl rfl (List.mem_of_getElem? (i := 1173) rfl) (List.mem_of_getElem? (i := 1174) rfl) (List.mem_of_getElem? (i := 1175) rfl) (by decide +kernel) rfl hR hP hD hS hl.1 (Nat.zero_le _) (by decide +kernel) ⟨Nat.le_of_ble_eq_true rfl, Nat.le_of_ble_eq_true rfl⟩ (fun r h1 v ad1 ws1 H1 locs1 hK1 hg1 hA1 hN1 hR1 hP1 hD1 hS1 => ?_)
  obtain ⟨⟨fs9, hq⟩, hk1⟩ := zThen_to hK1
  rw [List.append_nil]
  have h102 : ad1 102 = ad 102 := hA1 102 (Nat.le_of_ble_eq_true rfl)
  have hlt : 102 < h1.1 := Nat.lt_of_lt_of_le (Nat.le_of_ble_eq_true rfl : 102 < zh0.1) hN1
  refine lv_aload_n (i := 2) (x := ad 102) hx hb (by decide +kernel) rfl (lv_at hl 2 rfl) ?_
  rw [← h102]
  refine zl_arg hx hb hX hbl hS1 1 (by omega) (by omega) (lv_at hl 4 rfl) (lv_at hl 0 rfl) (by decide +kernel) (by decide +kernel) (by decide +kernel) (by decide +kernel) (by decide +kernel) ?_
  refine zl_callV (a := 116) (n := 1) (q := 102) (ec := 11) (T9 := TX11) (N9 := 57) (As := [.int (xs 1)]) (rest := v.toList) (ad := ad1) (h := h1) hx hb hml hown hts hst (show zN zMs 116 = some ((2, 2), 0, 0, zc_116) from rfl) hk1 (⟨_, _, rfl, ⟨rfl, fun k q => by cases q; exact hlt⟩, _, _, rfl, g1 _ _, rfl⟩) (Nat.le_of_ble_eq_true rfl) hq rfl (List.mem_of_getElem? (i := 1891) rfl) (List.mem_of_getElem? (i := 1892) rfl) (List.mem_of_getElem? (i := 1893) rfl) (by decide +kernel) rfl hR1 hP1 hD1 hS1 hl.1 (zl_cat1 v) (by decide +kernel) ⟨Nat.le_of_ble_eq_true rfl, Nat.le_of_ble_eq_true rfl⟩ (fun r2 h2 v2 ad2 ws2 H2 locs2 hK2 hg2 hA2 hN2 hR2 hP2 hD2 hS2 => ?_)
  obtain ⟨x, rfl, rfl⟩ := zSame_to hK2 hg1 hg2
  exact lv_icmp_eq (tgt := 1181) hx hb (by decide +kernel) (by decide) (fun _ => ex H2 locs2 _ _ ls (Nat.le_of_ble_eq_true rfl) (Nat.le_of_ble_eq_true rfl) hS2 (lv_sub hl [0, 4] rfl)) (fun q => absurd rfl q)
set_option maxHeartbeats 4000000 in
set_option maxRecDepth 100000 in
theorem zl_op_sentence {p : Program} {l : Launch} {e : Env} {s : State} {m : MethodId} {below : List Frame} {meth : Method} {c : Code} {b : Nat} {xs : Nat → Int32} {D : va_G} {cy : Nat → ClassId} {ad : Nat → Nat} {ws : va_W} {H : Heap} {locs : List Loc} {ls : Array Slot} {q9 : Nat} {Q : State → Prop} (hx : p.tables.exec = Jvm.exec) (hb : c.code = code) (hml : c.maxLocals = 7) (hown : s.vm.findClass R_law = some m.cls) (hts : ∀ w ∈ lw_tbl, w.before #[Value.ref b] s = true) (hX : va_X b 6 xs s s.heap) (hbl : b < s.heap.size) (hst : zStat zSS D cy s) (hR : zR ad cy zh0 ws) (hP : va_P D vwCl ws H) (hD : va_D (fun q => s.heap.size ≤ q) ws) (hS : va_S (fun q => s.heap.size ≤ q) s.heap H locs) (hl : lv_has ls 7 [(4, .int 0), (3, .ref q9), (2, .ref (ad 102)), (1, .ref (ad 0)), (0, .ref b)])
    (ex : ∀ (H1 : Heap) (locs1 : List Loc) (cells slots : Nat) (ls1 : Array Slot), cells ≤ 1000 → slots ≤ 500000 → va_S (fun q => s.heap.size ≤ q) s.heap H1 locs1 → lv_has ls1 7 [(4, .int 0), (0, .ref b)] → W p l e room_1 s m #[Value.ref b] below meth c H1 locs1 cells slots Q (F0 m 1181 ls1 [])) :
    W p l e room_1 s m #[Value.ref b] below meth c H locs 127 117458 Q (F0 m 1068 ls []) := by
  have hk := zk_sentence
  refine lv_aload_n (i := 1) (x := ad 0) hx hb (by decide +kernel) rfl (lv_at hl 3 rfl) ?_
  refine zl_callV (a := 83) (n := 0) (q := 0) (ec := 10) (T9 := TX10) (N9 := 10) (As := []) (rest := []) (ad := ad) (h := zh0) hx hb hml hown hts hst (show zN zMs 83 = some ((1, 2), 0, 0, zc_83) from rfl) hk (⟨_, _, rfl, ⟨rfl, fun k q => by cases q; exact Nat.le_of_ble_eq_true rfl⟩, rfl⟩) (Nat.le_of_ble_eq_true rfl) rfl rfl (List.mem_of_getElem? (i := 1177) rfl) (List.mem_of_getElem? (i := 1178) rfl) (List.mem_of_getElem? (i := 1179) rfl) (by decide +kernel) rfl hR hP hD hS hl.1 (Nat.zero_le _) (by decide +kernel) ⟨Nat.le_of_ble_eq_true rfl, Nat.le_of_ble_eq_true rfl⟩ (fun r h1 v ad1 ws1 H1 locs1 hK1 hg1 hA1 hN1 hR1 hP1 hD1 hS1 => ?_)
  obtain ⟨⟨fs9, hq⟩, hk1⟩ := zThen_to hK1
  rw [List.append_nil]
  have h102 : ad1 102 = ad 102 := hA1 102 (Nat.le_of_ble_eq_true rfl)
  have hlt : 102 < h1.1 := Nat.lt_of_lt_of_le (Nat.le_of_ble_eq_true rfl : 102 < zh0.1) hN1
  refine lv_aload_n (i := 2) (x := ad 102) hx hb (by decide +kernel) rfl (lv_at hl 2 rfl) ?_
  rw [← h102]
  refine zl_callV (a := 140) (n := 0) (q := 102) (ec := 11) (T9 := TX11) (N9 := 57) (As := []) (rest := v.toList) (ad := ad1) (h := h1) hx hb hml hown hts hst (show zN zMs 140 = some ((1, 3), 0, 0, zc_140) from rfl) hk1 (⟨_, _, rfl, ⟨rfl, fun k q => by cases q; exact hlt⟩, rfl⟩) (Nat.le_of_ble_eq_true rfl) hq rfl (List.mem_of_getElem? (i := 1895) rfl) (List.mem_of_getElem? (i := 1896) rfl) (List.mem_of_getElem? (i := 1897) rfl) (by decide +kernel) rfl hR1 hP1 hD1 hS1 hl.1 (zl_cat1 v) (by decide +kernel) ⟨Nat.le_of_ble_eq_true rfl, Nat.le_of_ble_eq_true rfl⟩ (fun r2 h2 v2 ad2 ws2 H2 locs2 hK2 hg2 hA2 hN2 hR2 hP2 hD2 hS2 => ?_)
  obtain ⟨x, rfl, rfl⟩ := zSame_to hK2 hg1 hg2
  exact lv_icmp_eq (tgt := 1181) hx hb (by decide +kernel) (by decide) (fun _ => ex H2 locs2 _ _ ls (Nat.le_of_ble_eq_true rfl) (Nat.le_of_ble_eq_true rfl) hS2 (lv_sub hl [0, 4] rfl)) (fun q => absurd rfl q)
set_option maxHeartbeats 4000000 in
set_option maxRecDepth 100000 in
theorem zl_op_said {p : Program} {l : Launch} {e : Env} {s : State} {m : MethodId} {below : List Frame} {meth : Method} {c : Code} {b : Nat} {xs : Nat → Int32} {D : va_G} {cy : Nat → ClassId} {ad : Nat → Nat} {ws : va_W} {H : Heap} {locs : List Loc} {ls : Array Slot} {q9 : Nat} {Q : State → Prop} (hx : p.tables.exec = Jvm.exec) (hb : c.code = code) (hml : c.maxLocals = 7) (hown : s.vm.findClass R_law = some m.cls) (hts : ∀ w ∈ lw_tbl, w.before #[Value.ref b] s = true) (hX : va_X b 6 xs s s.heap) (hbl : b < s.heap.size) (hst : zStat zSS D cy s) (hR : zR ad cy zh0 ws) (hP : va_P D vwCl ws H) (hD : va_D (fun q => s.heap.size ≤ q) ws) (hS : va_S (fun q => s.heap.size ≤ q) s.heap H locs) (hl : lv_has ls 7 [(4, .int 0), (3, .ref q9), (2, .ref (ad 102)), (1, .ref (ad 0)), (0, .ref b)])
    (ex : ∀ (H1 : Heap) (locs1 : List Loc) (cells slots : Nat) (ls1 : Array Slot), cells ≤ 1000 → slots ≤ 500000 → va_S (fun q => s.heap.size ≤ q) s.heap H1 locs1 → lv_has ls1 7 [(4, .int 0), (0, .ref b)] → W p l e room_1 s m #[Value.ref b] below meth c H1 locs1 cells slots Q (F0 m 1181 ls1 [])) :
    W p l e room_1 s m #[Value.ref b] below meth c H locs 127 117458 Q (F0 m 1081 ls []) := by
  obtain ⟨a1, g1, hk⟩ := zl_ck_said (xs 1)
  refine lv_aload_n (i := 1) (x := ad 0) hx hb (by decide +kernel) rfl (lv_at hl 3 rfl) ?_
  refine zl_arg hx hb hX hbl hS 1 (by omega) (by omega) (lv_at hl 4 rfl) (lv_at hl 0 rfl) (by decide +kernel) (by decide +kernel) (by decide +kernel) (by decide +kernel) (by decide +kernel) ?_
  refine zl_callV (a := 82) (n := 1) (q := 0) (ec := 10) (T9 := TX10) (N9 := 10) (As := [.int (xs 1)]) (rest := []) (ad := ad) (h := zh0) hx hb hml hown hts hst (show zN zMs 82 = some ((2, 4), 0, 0, zc_82) from rfl) hk (⟨_, _, rfl, ⟨rfl, fun k q => by cases q; exact Nat.le_of_ble_eq_true rfl⟩, _, _, rfl, g1 _ _, rfl⟩) (Nat.le_of_ble_eq_true rfl) rfl rfl (List.mem_of_getElem? (i := 1218) rfl) (List.mem_of_getElem? (i := 1219) rfl) (List.mem_of_getElem? (i := 1220) rfl) (by decide +kernel) rfl hR hP hD hS hl.1 (Nat.zero_le _) (by decide +kernel) ⟨Nat.le_of_ble_eq_true rfl, Nat.le_of_ble_eq_true rfl⟩ (fun r h1 v ad1 ws1 H1 locs1 hK1 hg1 hA1 hN1 hR1 hP1 hD1 hS1 => ?_)
  obtain ⟨⟨fs9, hq⟩, hk1⟩ := zThen_to hK1
  rw [List.append_nil]
  have h102 : ad1 102 = ad 102 := hA1 102 (Nat.le_of_ble_eq_true rfl)
  have hlt : 102 < h1.1 := Nat.lt_of_lt_of_le (Nat.le_of_ble_eq_true rfl : 102 < zh0.1) hN1
  refine lv_aload_n (i := 2) (x := ad 102) hx hb (by decide +kernel) rfl (lv_at hl 2 rfl) ?_
  rw [← h102]
  refine zl_arg hx hb hX hbl hS1 1 (by omega) (by omega) (lv_at hl 4 rfl) (lv_at hl 0 rfl) (by decide +kernel) (by decide +kernel) (by decide +kernel) (by decide +kernel) (by decide +kernel) ?_
  refine zl_callV (a := 139) (n := 1) (q := 102) (ec := 11) (T9 := TX11) (N9 := 57) (As := [.int (xs 1)]) (rest := v.toList) (ad := ad1) (h := h1) hx hb hml hown hts hst (show zN zMs 139 = some ((2, 4), 0, 0, zc_139) from rfl) hk1 (⟨_, _, rfl, ⟨rfl, fun k q => by cases q; exact hlt⟩, _, _, rfl, g1 _ _, rfl⟩) (Nat.le_of_ble_eq_true rfl) hq rfl (List.mem_of_getElem? (i := 1923) rfl) (List.mem_of_getElem? (i := 1924) rfl) (List.mem_of_getElem? (i := 1925) rfl) (by decide +kernel) rfl hR1 hP1 hD1 hS1 hl.1 (zl_cat1 v) (by decide +kernel) ⟨Nat.le_of_ble_eq_true rfl, Nat.le_of_ble_eq_true rfl⟩ (fun r2 h2 v2 ad2 ws2 H2 locs2 hK2 hg2 hA2 hN2 hR2 hP2 hD2 hS2 => ?_)
  obtain ⟨x, rfl, rfl⟩ := zSame_to hK2 hg1 hg2
  exact lv_icmp_eq (tgt := 1181) hx hb (by decide +kernel) (by decide) (fun _ => ex H2 locs2 _ _ ls (Nat.le_of_ble_eq_true rfl) (Nat.le_of_ble_eq_true rfl) hS2 (lv_sub hl [0, 4] rfl)) (fun q => absurd rfl q)
set_option maxHeartbeats 4000000 in
set_option maxRecDepth 100000 in
theorem zl_op_image {p : Program} {l : Launch} {e : Env} {s : State} {m : MethodId} {below : List Frame} {meth : Method} {c : Code} {b : Nat} {xs : Nat → Int32} {D : va_G} {cy : Nat → ClassId} {ad : Nat → Nat} {ws : va_W} {H : Heap} {locs : List Loc} {ls : Array Slot} {q9 : Nat} {Q : State → Prop} (hx : p.tables.exec = Jvm.exec) (hb : c.code = code) (hml : c.maxLocals = 7) (hown : s.vm.findClass R_law = some m.cls) (hts : ∀ w ∈ lw_tbl, w.before #[Value.ref b] s = true) (hX : va_X b 6 xs s s.heap) (hbl : b < s.heap.size) (hst : zStat zSS D cy s) (hR : zR ad cy zh0 ws) (hP : va_P D vwCl ws H) (hD : va_D (fun q => s.heap.size ≤ q) ws) (hS : va_S (fun q => s.heap.size ≤ q) s.heap H locs) (hl : lv_has ls 7 [(4, .int 0), (3, .ref q9), (2, .ref (ad 102)), (1, .ref (ad 0)), (0, .ref b)])
    (ex : ∀ (H1 : Heap) (locs1 : List Loc) (cells slots : Nat) (ls1 : Array Slot), cells ≤ 1000 → slots ≤ 500000 → va_S (fun q => s.heap.size ≤ q) s.heap H1 locs1 → lv_has ls1 7 [(4, .int 0), (0, .ref b)] → W p l e room_1 s m #[Value.ref b] below meth c H1 locs1 cells slots Q (F0 m 1181 ls1 [])) :
    W p l e room_1 s m #[Value.ref b] below meth c H locs 127 117458 Q (F0 m 1106 ls []) := by
  obtain ⟨a1, g1, hk⟩ := zl_ck_image (xs 1)
  refine lv_aload_n (i := 1) (x := ad 0) hx hb (by decide +kernel) rfl (lv_at hl 3 rfl) ?_
  refine zl_arg hx hb hX hbl hS 1 (by omega) (by omega) (lv_at hl 4 rfl) (lv_at hl 0 rfl) (by decide +kernel) (by decide +kernel) (by decide +kernel) (by decide +kernel) (by decide +kernel) ?_
  refine zl_callV (a := 61) (n := 1) (q := 0) (ec := 10) (T9 := TX10) (N9 := 10) (As := [.int (xs 1)]) (rest := []) (ad := ad) (h := zh0) hx hb hml hown hts hst (show zN zMs 61 = some ((2, 2), 32, 944, zc_61) from rfl) hk (⟨_, _, rfl, ⟨rfl, fun k q => by cases q; exact Nat.le_of_ble_eq_true rfl⟩, _, _, rfl, g1 _ _, rfl⟩) (Nat.le_of_ble_eq_true rfl) rfl rfl (List.mem_of_getElem? (i := 1233) rfl) (List.mem_of_getElem? (i := 1234) rfl) (List.mem_of_getElem? (i := 1235) rfl) (by decide +kernel) rfl hR hP hD hS hl.1 (Nat.zero_le _) (by decide +kernel) ⟨Nat.le_of_ble_eq_true rfl, Nat.le_of_ble_eq_true rfl⟩ (fun r h1 v ad1 ws1 H1 locs1 hK1 hg1 hA1 hN1 hR1 hP1 hD1 hS1 => ?_)
  obtain ⟨⟨fs9, hq⟩, hk1⟩ := zThen_to hK1
  rw [List.append_nil]
  have h102 : ad1 102 = ad 102 := hA1 102 (Nat.le_of_ble_eq_true rfl)
  have hlt : 102 < h1.1 := Nat.lt_of_lt_of_le (Nat.le_of_ble_eq_true rfl : 102 < zh0.1) hN1
  refine lv_aload_n (i := 2) (x := ad 102) hx hb (by decide +kernel) rfl (lv_at hl 2 rfl) ?_
  rw [← h102]
  refine zl_arg hx hb hX hbl hS1 1 (by omega) (by omega) (lv_at hl 4 rfl) (lv_at hl 0 rfl) (by decide +kernel) (by decide +kernel) (by decide +kernel) (by decide +kernel) (by decide +kernel) ?_
  refine zl_callV (a := 107) (n := 1) (q := 102) (ec := 11) (T9 := TX11) (N9 := 57) (As := [.int (xs 1)]) (rest := v.toList) (ad := ad1) (h := h1) hx hb hml hown hts hst (show zN zMs 107 = some ((2, 3), 0, 0, zc_107) from rfl) hk1 (⟨_, _, rfl, ⟨rfl, fun k q => by cases q; exact hlt⟩, _, _, rfl, g1 _ _, rfl⟩) (Nat.le_of_ble_eq_true rfl) hq rfl (List.mem_of_getElem? (i := 1935) rfl) (List.mem_of_getElem? (i := 1936) rfl) (List.mem_of_getElem? (i := 1937) rfl) (by decide +kernel) rfl hR1 hP1 hD1 hS1 hl.1 (zl_cat1 v) (by decide +kernel) ⟨Nat.le_of_ble_eq_true rfl, Nat.le_of_ble_eq_true rfl⟩ (fun r2 h2 v2 ad2 ws2 H2 locs2 hK2 hg2 hA2 hN2 hR2 hP2 hD2 hS2 => ?_)
  obtain ⟨x, rfl, rfl⟩ := zSame_to hK2 hg1 hg2
  exact lv_icmp_eq (tgt := 1181) hx hb (by decide +kernel) (by decide) (fun _ => ex H2 locs2 _ _ ls (Nat.le_of_ble_eq_true rfl) (Nat.le_of_ble_eq_true rfl) hS2 (lv_sub hl [0, 4] rfl)) (fun q => absurd rfl q)
set_option maxHeartbeats 4000000 in
set_option maxRecDepth 100000 in
theorem zl_op_restore {p : Program} {l : Launch} {e : Env} {s : State} {m : MethodId} {below : List Frame} {meth : Method} {c : Code} {b : Nat} {xs : Nat → Int32} {D : va_G} {cy : Nat → ClassId} {ad : Nat → Nat} {ws : va_W} {H : Heap} {locs : List Loc} {ls : Array Slot} {q9 : Nat} {Q : State → Prop} (hx : p.tables.exec = Jvm.exec) (hb : c.code = code) (hml : c.maxLocals = 7) (hown : s.vm.findClass R_law = some m.cls) (hts : ∀ w ∈ lw_tbl, w.before #[Value.ref b] s = true) (hX : va_X b 6 xs s s.heap) (hbl : b < s.heap.size) (hst : zStat zSS D cy s) (hR : zR ad cy zh0 ws) (hP : va_P D vwCl ws H) (hD : va_D (fun q => s.heap.size ≤ q) ws) (hS : va_S (fun q => s.heap.size ≤ q) s.heap H locs) (hl : lv_has ls 7 [(4, .int 0), (3, .ref q9), (2, .ref (ad 102)), (1, .ref (ad 0)), (0, .ref b)])
    (ex : ∀ (H1 : Heap) (locs1 : List Loc) (cells slots : Nat) (ls1 : Array Slot), cells ≤ 1000 → slots ≤ 500000 → va_S (fun q => s.heap.size ≤ q) s.heap H1 locs1 → lv_has ls1 7 [(4, .int 0), (0, .ref b)] → W p l e room_1 s m #[Value.ref b] below meth c H1 locs1 cells slots Q (F0 m 1181 ls1 [])) :
    W p l e room_1 s m #[Value.ref b] below meth c H locs 127 117458 Q (F0 m 1131 ls []) := by
  obtain ⟨a1, g1, hk⟩ := zl_ck_restore (xs 1)
  refine lv_aload_n (i := 1) (x := ad 0) hx hb (by decide +kernel) rfl (lv_at hl 3 rfl) ?_
  refine zl_arg hx hb hX hbl hS 1 (by omega) (by omega) (lv_at hl 4 rfl) (lv_at hl 0 rfl) (by decide +kernel) (by decide +kernel) (by decide +kernel) (by decide +kernel) (by decide +kernel) ?_
  refine zl_callV (a := 81) (n := 1) (q := 0) (ec := 10) (T9 := TX10) (N9 := 10) (As := [.int (xs 1)]) (rest := []) (ad := ad) (h := zh0) hx hb hml hown hts hst (show zN zMs 81 = some ((2, 2), 0, 0, zc_81) from rfl) hk (⟨_, _, rfl, ⟨rfl, fun k q => by cases q; exact Nat.le_of_ble_eq_true rfl⟩, _, _, rfl, g1 _ _, rfl⟩) (Nat.le_of_ble_eq_true rfl) rfl rfl (List.mem_of_getElem? (i := 1245) rfl) (List.mem_of_getElem? (i := 1246) rfl) (List.mem_of_getElem? (i := 1247) rfl) (by decide +kernel) rfl hR hP hD hS hl.1 (Nat.zero_le _) (by decide +kernel) ⟨Nat.le_of_ble_eq_true rfl, Nat.le_of_ble_eq_true rfl⟩ (fun r h1 v ad1 ws1 H1 locs1 hK1 hg1 hA1 hN1 hR1 hP1 hD1 hS1 => ?_)
  obtain ⟨⟨fs9, hq⟩, hk1⟩ := zThen_to hK1
  rw [List.append_nil]
  have h102 : ad1 102 = ad 102 := hA1 102 (Nat.le_of_ble_eq_true rfl)
  have hlt : 102 < h1.1 := Nat.lt_of_lt_of_le (Nat.le_of_ble_eq_true rfl : 102 < zh0.1) hN1
  refine lv_aload_n (i := 2) (x := ad 102) hx hb (by decide +kernel) rfl (lv_at hl 2 rfl) ?_
  rw [← h102]
  refine zl_arg hx hb hX hbl hS1 1 (by omega) (by omega) (lv_at hl 4 rfl) (lv_at hl 0 rfl) (by decide +kernel) (by decide +kernel) (by decide +kernel) (by decide +kernel) (by decide +kernel) ?_
  refine zl_callV (a := 137) (n := 1) (q := 102) (ec := 11) (T9 := TX11) (N9 := 57) (As := [.int (xs 1)]) (rest := v.toList) (ad := ad1) (h := h1) hx hb hml hown hts hst (show zN zMs 137 = some ((2, 3), 0, 0, zc_137) from rfl) hk1 (⟨_, _, rfl, ⟨rfl, fun k q => by cases q; exact hlt⟩, _, _, rfl, g1 _ _, rfl⟩) (Nat.le_of_ble_eq_true rfl) hq rfl (List.mem_of_getElem? (i := 1939) rfl) (List.mem_of_getElem? (i := 1940) rfl) (List.mem_of_getElem? (i := 1941) rfl) (by decide +kernel) rfl hR1 hP1 hD1 hS1 hl.1 (zl_cat1 v) (by decide +kernel) ⟨Nat.le_of_ble_eq_true rfl, Nat.le_of_ble_eq_true rfl⟩ (fun r2 h2 v2 ad2 ws2 H2 locs2 hK2 hg2 hA2 hN2 hR2 hP2 hD2 hS2 => ?_)
  obtain ⟨x, rfl, rfl⟩ := zSame_to hK2 hg1 hg2
  exact lv_icmp_eq (tgt := 1181) hx hb (by decide +kernel) (by decide) (fun _ => ex H2 locs2 _ _ ls (Nat.le_of_ble_eq_true rfl) (Nat.le_of_ble_eq_true rfl) hS2 (lv_sub hl [0, 4] rfl)) (fun q => absurd rfl q)
set_option maxHeartbeats 4000000 in
set_option maxRecDepth 100000 in
theorem zl_op_count {p : Program} {l : Launch} {e : Env} {s : State} {m : MethodId} {below : List Frame} {meth : Method} {c : Code} {b : Nat} {xs : Nat → Int32} {D : va_G} {cy : Nat → ClassId} {ad : Nat → Nat} {ws : va_W} {H : Heap} {locs : List Loc} {ls : Array Slot} {q9 : Nat} {Q : State → Prop} (hx : p.tables.exec = Jvm.exec) (hb : c.code = code) (hml : c.maxLocals = 7) (hown : s.vm.findClass R_law = some m.cls) (hts : ∀ w ∈ lw_tbl, w.before #[Value.ref b] s = true) (hX : va_X b 6 xs s s.heap) (hbl : b < s.heap.size) (hst : zStat zSS D cy s) (hR : zR ad cy zh0 ws) (hP : va_P D vwCl ws H) (hD : va_D (fun q => s.heap.size ≤ q) ws) (hS : va_S (fun q => s.heap.size ≤ q) s.heap H locs) (hl : lv_has ls 7 [(4, .int 0), (3, .ref q9), (2, .ref (ad 102)), (1, .ref (ad 0)), (0, .ref b)])
    (ex : ∀ (H1 : Heap) (locs1 : List Loc) (cells slots : Nat) (ls1 : Array Slot), cells ≤ 1000 → slots ≤ 500000 → va_S (fun q => s.heap.size ≤ q) s.heap H1 locs1 → lv_has ls1 7 [(4, .int 0), (0, .ref b)] → W p l e room_1 s m #[Value.ref b] below meth c H1 locs1 cells slots Q (F0 m 1181 ls1 [])) :
    W p l e room_1 s m #[Value.ref b] below meth c H locs 127 117458 Q (F0 m 1156 ls []) := by
  obtain ⟨a1, g1, hk⟩ := zl_ck_count (xs 1)
  refine lv_aload_n (i := 1) (x := ad 0) hx hb (by decide +kernel) rfl (lv_at hl 3 rfl) ?_
  refine zl_arg hx hb hX hbl hS 1 (by omega) (by omega) (lv_at hl 4 rfl) (lv_at hl 0 rfl) (by decide +kernel) (by decide +kernel) (by decide +kernel) (by decide +kernel) (by decide +kernel) ?_
  refine zl_callV (a := 56) (n := 1) (q := 0) (ec := 10) (T9 := TX10) (N9 := 10) (As := [.int (xs 1)]) (rest := []) (ad := ad) (h := zh0) hx hb hml hown hts hst (show zN zMs 56 = some ((2, 2), 0, 0, zc_56) from rfl) hk (⟨_, _, rfl, ⟨rfl, fun k q => by cases q; exact Nat.le_of_ble_eq_true rfl⟩, _, _, rfl, g1 _ _, rfl⟩) (Nat.le_of_ble_eq_true rfl) rfl rfl (List.mem_of_getElem? (i := 1249) rfl) (List.mem_of_getElem? (i := 1250) rfl) (List.mem_of_getElem? (i := 1251) rfl) (by decide +kernel) rfl hR hP hD hS hl.1 (Nat.zero_le _) (by decide +kernel) ⟨Nat.le_of_ble_eq_true rfl, Nat.le_of_ble_eq_true rfl⟩ (fun r h1 v ad1 ws1 H1 locs1 hK1 hg1 hA1 hN1 hR1 hP1 hD1 hS1 => ?_)
  obtain ⟨⟨fs9, hq⟩, hk1⟩ := zThen_to hK1
  rw [List.append_nil]
  have h102 : ad1 102 = ad 102 := hA1 102 (Nat.le_of_ble_eq_true rfl)
  have hlt : 102 < h1.1 := Nat.lt_of_lt_of_le (Nat.le_of_ble_eq_true rfl : 102 < zh0.1) hN1
  refine lv_aload_n (i := 2) (x := ad 102) hx hb (by decide +kernel) rfl (lv_at hl 2 rfl) ?_
  rw [← h102]
  refine zl_arg hx hb hX hbl hS1 1 (by omega) (by omega) (lv_at hl 4 rfl) (lv_at hl 0 rfl) (by decide +kernel) (by decide +kernel) (by decide +kernel) (by decide +kernel) (by decide +kernel) ?_
  refine zl_callV (a := 100) (n := 1) (q := 102) (ec := 11) (T9 := TX11) (N9 := 57) (As := [.int (xs 1)]) (rest := v.toList) (ad := ad1) (h := h1) hx hb hml hown hts hst (show zN zMs 100 = some ((2, 4), 0, 0, zc_100) from rfl) hk1 (⟨_, _, rfl, ⟨rfl, fun k q => by cases q; exact hlt⟩, _, _, rfl, g1 _ _, rfl⟩) (Nat.le_of_ble_eq_true rfl) hq rfl (List.mem_of_getElem? (i := 1943) rfl) (List.mem_of_getElem? (i := 1944) rfl) (List.mem_of_getElem? (i := 1945) rfl) (by decide +kernel) rfl hR1 hP1 hD1 hS1 hl.1 (zl_cat1 v) (by decide +kernel) ⟨Nat.le_of_ble_eq_true rfl, Nat.le_of_ble_eq_true rfl⟩ (fun r2 h2 v2 ad2 ws2 H2 locs2 hK2 hg2 hA2 hN2 hR2 hP2 hD2 hS2 => ?_)
  obtain ⟨x, rfl, rfl⟩ := zSame_to hK2 hg1 hg2
  exact lv_icmp_eq (tgt := 1181) hx hb (by decide +kernel) (by decide) (fun _ => ex H2 locs2 _ _ ls (Nat.le_of_ble_eq_true rfl) (Nat.le_of_ble_eq_true rfl) hS2 (lv_sub hl [0, 4] rfl)) (fun q => absurd rfl q)
