set_option maxHeartbeats 4000000 in
set_option maxRecDepth 100000 in
theorem zl_op_lane {p : Program} {l : Launch} {e : Env} {s : State} {m : MethodId} {below : List Frame} {meth : Method} {c : Code} {b : Nat} {xs : Nat → Int32} {D : va_G} {cy : Nat → ClassId} {ad : Nat → Nat} {ws : va_W} {H : Heap} {locs : List Loc} {ls : Array Slot} {q9 : Nat} {Q : State → Prop} (hx : p.tables.exec = Jvm.exec) (hb : c.code = code) (hml : c.maxLocals = 7) (hown : s.vm.findClass R_law = some m.cls) (hts : ∀ w ∈ lw_tbl, w.before #[Value.ref b] s = true) (hX : va_X b 6 xs s s.heap) (hbl : b < s.heap.size) (hst : zStat zSS D cy s) (hR : zR ad cy zh0 ws) (hP : va_P D vwCl ws H) (hD : va_D (fun q => s.heap.size ≤ q) ws) (hS : va_S (fun q => s.heap.size ≤ q) s.heap H locs) (hl : lv_has ls 7 [(4, .int 0), (3, .ref q9), (2, .ref (ad 102)), (1, .ref (ad 0)), (0, .ref b)])
    (ex : ∀ (H1 : Heap) (locs1 : List Loc) (cells slots : Nat) (ls1 : Array Slot), cells ≤ 1000 → slots ≤ 500000 → va_S (fun q => s.heap.size ≤ q) s.heap H1 locs1 → lv_has ls1 7 [(4, .int 0), (0, .ref b)] → W p l e room_1 s m #[Value.ref b] below meth c H1 locs1 cells slots Q (F0 m 1181 ls1 [])) :
    W p l e room_1 s m #[Value.ref b] below meth c H locs 127 117458 Q (F0 m 643 ls []) := by
  obtain ⟨a1, a2, ⟨g1, g2⟩, hk⟩ := zl_ck_lane (xs 1) (xs 2)
  refine lv_aload_n (i := 1) (x := ad 0) hx hb (by decide +kernel) rfl (lv_at hl 3 rfl) ?_
  refine zl_arg hx hb hX hbl hS 1 (by omega) (by omega) (lv_at hl 4 rfl) (lv_at hl 0 rfl) (by decide +kernel) (by decide +kernel) (by decide +kernel) (by decide +kernel) (by decide +kernel) ?_
  refine zl_arg hx hb hX hbl hS 2 (by omega) (by omega) (lv_at hl 4 rfl) (lv_at hl 0 rfl) (by decide +kernel) (by decide +kernel) (by decide +kernel) (by decide +kernel) (by decide +kernel) ?_
  refine zl_callV (a := 68) (n := 2) (q := 0) (ec := 10) (T9 := TX10) (N9 := 10) (As := [.int (xs 1), .int (xs 2)]) (rest := []) (ad := ad) (h := zh0) hx hb hml hown hts hst (show zN zMs 68 = some ((3, 3), 0, 0, zc_68) from rfl) hk (⟨_, _, rfl, ⟨rfl, fun k q => by cases q; exact Nat.le_of_ble_eq_true rfl⟩, _, _, rfl, g1 _ _, _, _, rfl, g2 _ _, rfl⟩) (Nat.le_of_ble_eq_true rfl) rfl rfl (List.mem_of_getElem? (i := 969) rfl) (List.mem_of_getElem? (i := 970) rfl) (List.mem_of_getElem? (i := 971) rfl) (by decide +kernel) rfl hR hP hD hS hl.1 (Nat.zero_le _) (by decide +kernel) ⟨Nat.le_of_ble_eq_true rfl, Nat.le_of_ble_eq_true rfl⟩ (fun r h1 v ad1 ws1 H1 locs1 hK1 hg1 hA1 hN1 hR1 hP1 hD1 hS1 => ?_)
  obtain ⟨⟨fs9, hq⟩, hk1⟩ := zThen_to hK1
  rw [List.append_nil]
  have h102 : ad1 102 = ad 102 := hA1 102 (Nat.le_of_ble_eq_true rfl)
  have hlt : 102 < h1.1 := Nat.lt_of_lt_of_le (Nat.le_of_ble_eq_true rfl : 102 < zh0.1) hN1
  refine lv_aload_n (i := 2) (x := ad 102) hx hb (by decide +kernel) rfl (lv_at hl 2 rfl) ?_
  rw [← h102]
  refine zl_arg hx hb hX hbl hS1 1 (by omega) (by omega) (lv_at hl 4 rfl) (lv_at hl 0 rfl) (by decide +kernel) (by decide +kernel) (by decide +kernel) (by decide +kernel) (by decide +kernel) ?_
  refine zl_arg hx hb hX hbl hS1 2 (by omega) (by omega) (lv_at hl 4 rfl) (lv_at hl 0 rfl) (by decide +kernel) (by decide +kernel) (by decide +kernel) (by decide +kernel) (by decide +kernel) ?_
  refine zl_callV (a := 119) (n := 2) (q := 102) (ec := 11) (T9 := TX11) (N9 := 57) (As := [.int (xs 1), .int (xs 2)]) (rest := v.toList) (ad := ad1) (h := h1) hx hb hml hown hts hst (show zN zMs 119 = some ((3, 3), 0, 0, zc_119) from rfl) hk1 (⟨_, _, rfl, ⟨rfl, fun k q => by cases q; exact hlt⟩, _, _, rfl, g1 _ _, _, _, rfl, g2 _ _, rfl⟩) (Nat.le_of_ble_eq_true rfl) hq rfl (List.mem_of_getElem? (i := 1750) rfl) (List.mem_of_getElem? (i := 1751) rfl) (List.mem_of_getElem? (i := 1752) rfl) (by decide +kernel) rfl hR1 hP1 hD1 hS1 hl.1 (zl_cat1 v) (by decide +kernel) ⟨Nat.le_of_ble_eq_true rfl, Nat.le_of_ble_eq_true rfl⟩ (fun r2 h2 v2 ad2 ws2 H2 locs2 hK2 hg2 hA2 hN2 hR2 hP2 hD2 hS2 => ?_)
  obtain ⟨x, rfl, rfl⟩ := zSame_to hK2 hg1 hg2
  exact lv_icmp_eq (tgt := 1181) hx hb (by decide +kernel) (by decide) (fun _ => ex H2 locs2 _ _ ls (Nat.le_of_ble_eq_true rfl) (Nat.le_of_ble_eq_true rfl) hS2 (lv_sub hl [0, 4] rfl)) (fun q => absurd rfl q)
set_option maxHeartbeats 4000000 in
set_option maxRecDepth 100000 in
theorem zl_op_untied {p : Program} {l : Launch} {e : Env} {s : State} {m : MethodId} {below : List Frame} {meth : Method} {c : Code} {b : Nat} {xs : Nat → Int32} {D : va_G} {cy : Nat → ClassId} {ad : Nat → Nat} {ws : va_W} {H : Heap} {locs : List Loc} {ls : Array Slot} {q9 : Nat} {Q : State → Prop} (hx : p.tables.exec = Jvm.exec) (hb : c.code = code) (hml : c.maxLocals = 7) (hown : s.vm.findClass R_law = some m.cls) (hts : ∀ w ∈ lw_tbl, w.before #[Value.ref b] s = true) (hX : va_X b 6 xs s s.heap) (hbl : b < s.heap.size) (hst : zStat zSS D cy s) (hR : zR ad cy zh0 ws) (hP : va_P D vwCl ws H) (hD : va_D (fun q => s.heap.size ≤ q) ws) (hS : va_S (fun q => s.heap.size ≤ q) s.heap H locs) (hl : lv_has ls 7 [(4, .int 0), (3, .ref q9), (2, .ref (ad 102)), (1, .ref (ad 0)), (0, .ref b)])
    (ex : ∀ (H1 : Heap) (locs1 : List Loc) (cells slots : Nat) (ls1 : Array Slot), cells ≤ 1000 → slots ≤ 500000 → va_S (fun q => s.heap.size ≤ q) s.heap H1 locs1 → lv_has ls1 7 [(4, .int 0), (0, .ref b)] → W p l e room_1 s m #[Value.ref b] below meth c H1 locs1 cells slots Q (F0 m 1181 ls1 [])) :
    W p l e room_1 s m #[Value.ref b] below meth c H locs 127 117458 Q (F0 m 680 ls []) := by
  have hk := zk_untied
  refine lv_aload_n (i := 1) (x := ad 0) hx hb (by decide +kernel) rfl (lv_at hl 3 rfl) ?_
  refine zl_callV (a := 87) (n := 0) (q := 0) (ec := 10) (T9 := TX10) (N9 := 10) (As := []) (rest := []) (ad := ad) (h := zh0) hx hb hml hown hts hst (show zN zMs 87 = some ((1, 1), 2, 2, zc_87) from rfl) hk (⟨_, _, rfl, ⟨rfl, fun k q => by cases q; exact Nat.le_of_ble_eq_true rfl⟩, rfl⟩) (Nat.le_of_ble_eq_true rfl) rfl rfl (List.mem_of_getElem? (i := 974) rfl) (List.mem_of_getElem? (i := 975) rfl) (List.mem_of_getElem? (i := 976) rfl) (by decide +kernel) rfl hR hP hD hS hl.1 (Nat.zero_le _) (by decide +kernel) ⟨Nat.le_of_ble_eq_true rfl, Nat.le_of_ble_eq_true rfl⟩ (fun r h1 v ad1 ws1 H1 locs1 hK1 hg1 hA1 hN1 hR1 hP1 hD1 hS1 => ?_)
  obtain ⟨⟨fs9, hq⟩, hk1⟩ := zThen_to hK1
  rw [List.append_nil]
  have h102 : ad1 102 = ad 102 := hA1 102 (Nat.le_of_ble_eq_true rfl)
  have hlt : 102 < h1.1 := Nat.lt_of_lt_of_le (Nat.le_of_ble_eq_true rfl : 102 < zh0.1) hN1
  refine lv_aload_n (i := 2) (x := ad 102) hx hb (by decide +kernel) rfl (lv_at hl 2 rfl) ?_
  rw [← h102]
  refine zl_callV (a := 149) (n := 0) (q := 102) (ec := 11) (T9 := TX11) (N9 := 57) (As := []) (rest := v.toList) (ad := ad1) (h := h1) hx hb hml hown hts hst (show zN zMs 149 = some ((1, 4), 0, 0, zc_149) from rfl) hk1 (⟨_, _, rfl, ⟨rfl, fun k q => by cases q; exact hlt⟩, rfl⟩) (Nat.le_of_ble_eq_true rfl) hq rfl (List.mem_of_getElem? (i := 1754) rfl) (List.mem_of_getElem? (i := 1755) rfl) (List.mem_of_getElem? (i := 1756) rfl) (by decide +kernel) rfl hR1 hP1 hD1 hS1 hl.1 (zl_cat1 v) (by decide +kernel) ⟨Nat.le_of_ble_eq_true rfl, Nat.le_of_ble_eq_true rfl⟩ (fun r2 h2 v2 ad2 ws2 H2 locs2 hK2 hg2 hA2 hN2 hR2 hP2 hD2 hS2 => ?_)
  obtain ⟨x, rfl, rfl⟩ := zSame_to hK2 hg1 hg2
  exact lv_icmp_eq (tgt := 1181) hx hb (by decide +kernel) (by decide) (fun _ => ex H2 locs2 _ _ ls (Nat.le_of_ble_eq_true rfl) (Nat.le_of_ble_eq_true rfl) hS2 (lv_sub hl [0, 4] rfl)) (fun q => absurd rfl q)
set_option maxHeartbeats 4000000 in
set_option maxRecDepth 100000 in
theorem zl_op_step {p : Program} {l : Launch} {e : Env} {s : State} {m : MethodId} {below : List Frame} {meth : Method} {c : Code} {b : Nat} {xs : Nat → Int32} {D : va_G} {cy : Nat → ClassId} {ad : Nat → Nat} {ws : va_W} {H : Heap} {locs : List Loc} {ls : Array Slot} {q9 : Nat} {Q : State → Prop} (hx : p.tables.exec = Jvm.exec) (hb : c.code = code) (hml : c.maxLocals = 7) (hown : s.vm.findClass R_law = some m.cls) (hts : ∀ w ∈ lw_tbl, w.before #[Value.ref b] s = true) (hX : va_X b 6 xs s s.heap) (hbl : b < s.heap.size) (hst : zStat zSS D cy s) (hR : zR ad cy zh0 ws) (hP : va_P D vwCl ws H) (hD : va_D (fun q => s.heap.size ≤ q) ws) (hS : va_S (fun q => s.heap.size ≤ q) s.heap H locs) (hl : lv_has ls 7 [(4, .int 0), (3, .ref q9), (2, .ref (ad 102)), (1, .ref (ad 0)), (0, .ref b)])
    (ex : ∀ (H1 : Heap) (locs1 : List Loc) (cells slots : Nat) (ls1 : Array Slot), cells ≤ 1000 → slots ≤ 500000 → va_S (fun q => s.heap.size ≤ q) s.heap H1 locs1 → lv_has ls1 7 [(4, .int 0), (0, .ref b)] → W p l e room_1 s m #[Value.ref b] below meth c H1 locs1 cells slots Q (F0 m 1181 ls1 [])) :
    W p l e room_1 s m #[Value.ref b] below meth c H locs 127 117458 Q (F0 m 693 ls []) := by
  obtain ⟨a1, g1, hk⟩ := zl_ck_step (xs 1)
  refine lv_aload_n (i := 1) (x := ad 0) hx hb (by decide +kernel) rfl (lv_at hl 3 rfl) ?_
  refine zl_arg hx hb hX hbl hS 1 (by omega) (by omega) (lv_at hl 4 rfl) (lv_at hl 0 rfl) (by decide +kernel) (by decide +kernel) (by decide +kernel) (by decide +kernel) (by decide +kernel) ?_
  refine zl_callV (a := 84) (n := 1) (q := 0) (ec := 10) (T9 := TX10) (N9 := 10) (As := [.int (xs 1)]) (rest := []) (ad := ad) (h := zh0) hx hb hml hown hts hst (show zN zMs 84 = some ((2, 2), 0, 0, zc_84) from rfl) hk (⟨_, _, rfl, ⟨rfl, fun k q => by cases q; exact Nat.le_of_ble_eq_true rfl⟩, _, _, rfl, g1 _ _, rfl⟩) (Nat.le_of_ble_eq_true rfl) rfl rfl (List.mem_of_getElem? (i := 1035) rfl) (List.mem_of_getElem? (i := 1036) rfl) (List.mem_of_getElem? (i := 1037) rfl) (by decide +kernel) rfl hR hP hD hS hl.1 (Nat.zero_le _) (by decide +kernel) ⟨Nat.le_of_ble_eq_true rfl, Nat.le_of_ble_eq_true rfl⟩ (fun r h1 v ad1 ws1 H1 locs1 hK1 hg1 hA1 hN1 hR1 hP1 hD1 hS1 => ?_)
  obtain ⟨⟨fs9, hq⟩, hk1⟩ := zThen_to hK1
  rw [List.append_nil]
  have h102 : ad1 102 = ad 102 := hA1 102 (Nat.le_of_ble_eq_true rfl)
  have hlt : 102 < h1.1 := Nat.lt_of_lt_of_le (Nat.le_of_ble_eq_true rfl : 102 < zh0.1) hN1
  refine lv_aload_n (i := 2) (x := ad 102) hx hb (by decide +kernel) rfl (lv_at hl 2 rfl) ?_
  rw [← h102]
  refine zl_arg hx hb hX hbl hS1 1 (by omega) (by omega) (lv_at hl 4 rfl) (lv_at hl 0 rfl) (by decide +kernel) (by decide +kernel) (by decide +kernel) (by decide +kernel) (by decide +kernel) ?_
  refine zl_callV (a := 142) (n := 1) (q := 102) (ec := 11) (T9 := TX11) (N9 := 57) (As := [.int (xs 1)]) (rest := v.toList) (ad := ad1) (h := h1) hx hb hml hown hts hst (show zN zMs 142 = some ((2, 2), 0, 0, zc_142) from rfl) hk1 (⟨_, _, rfl, ⟨rfl, fun k q => by cases q; exact hlt⟩, _, _, rfl, g1 _ _, rfl⟩) (Nat.le_of_ble_eq_true rfl) hq rfl (List.mem_of_getElem? (i := 1782) rfl) (List.mem_of_getElem? (i := 1783) rfl) (List.mem_of_getElem? (i := 1784) rfl) (by decide +kernel) rfl hR1 hP1 hD1 hS1 hl.1 (zl_cat1 v) (by decide +kernel) ⟨Nat.le_of_ble_eq_true rfl, Nat.le_of_ble_eq_true rfl⟩ (fun r2 h2 v2 ad2 ws2 H2 locs2 hK2 hg2 hA2 hN2 hR2 hP2 hD2 hS2 => ?_)
  obtain ⟨x, rfl, rfl⟩ := zSame_to hK2 hg1 hg2
  exact lv_icmp_eq (tgt := 1181) hx hb (by decide +kernel) (by decide) (fun _ => ex H2 locs2 _ _ ls (Nat.le_of_ble_eq_true rfl) (Nat.le_of_ble_eq_true rfl) hS2 (lv_sub hl [0, 4] rfl)) (fun q => absurd rfl q)
set_option maxHeartbeats 4000000 in
set_option maxRecDepth 100000 in
theorem zl_op_oneWay {p : Program} {l : Launch} {e : Env} {s : State} {m : MethodId} {below : List Frame} {meth : Method} {c : Code} {b : Nat} {xs : Nat → Int32} {D : va_G} {cy : Nat → ClassId} {ad : Nat → Nat} {ws : va_W} {H : Heap} {locs : List Loc} {ls : Array Slot} {q9 : Nat} {Q : State → Prop} (hx : p.tables.exec = Jvm.exec) (hb : c.code = code) (hml : c.maxLocals = 7) (hown : s.vm.findClass R_law = some m.cls) (hts : ∀ w ∈ lw_tbl, w.before #[Value.ref b] s = true) (hX : va_X b 6 xs s s.heap) (hbl : b < s.heap.size) (hst : zStat zSS D cy s) (hR : zR ad cy zh0 ws) (hP : va_P D vwCl ws H) (hD : va_D (fun q => s.heap.size ≤ q) ws) (hS : va_S (fun q => s.heap.size ≤ q) s.heap H locs) (hl : lv_has ls 7 [(4, .int 0), (3, .ref q9), (2, .ref (ad 102)), (1, .ref (ad 0)), (0, .ref b)])
    (ex : ∀ (H1 : Heap) (locs1 : List Loc) (cells slots : Nat) (ls1 : Array Slot), cells ≤ 1000 → slots ≤ 500000 → va_S (fun q => s.heap.size ≤ q) s.heap H1 locs1 → lv_has ls1 7 [(4, .int 0), (0, .ref b)] → W p l e room_1 s m #[Value.ref b] below meth c H1 locs1 cells slots Q (F0 m 1181 ls1 [])) :
    W p l e room_1 s m #[Value.ref b] below meth c H locs 127 117458 Q (F0 m 718 ls []) := by
  have hk := zk_oneWay
  refine lv_aload_n (i := 1) (x := ad 0) hx hb (by decide +kernel) rfl (lv_at hl 3 rfl) ?_
  refine zl_callV (a := 78) (n := 0) (q := 0) (ec := 10) (T9 := TX10) (N9 := 10) (As := []) (rest := []) (ad := ad) (h := zh0) hx hb hml hown hts hst (show zN zMs 78 = some ((1, 8), 0, 0, zc_78) from rfl) hk (⟨_, _, rfl, ⟨rfl, fun k q => by cases q; exact Nat.le_of_ble_eq_true rfl⟩, rfl⟩) (Nat.le_of_ble_eq_true rfl) rfl rfl (List.mem_of_getElem? (i := 1039) rfl) (List.mem_of_getElem? (i := 1040) rfl) (List.mem_of_getElem? (i := 1041) rfl) (by decide +kernel) rfl hR hP hD hS hl.1 (Nat.zero_le _) (by decide +kernel) ⟨Nat.le_of_ble_eq_true rfl, Nat.le_of_ble_eq_true rfl⟩ (fun r h1 v ad1 ws1 H1 locs1 hK1 hg1 hA1 hN1 hR1 hP1 hD1 hS1 => ?_)
  obtain ⟨⟨fs9, hq⟩, hk1⟩ := zThen_to hK1
  rw [List.append_nil]
  have h102 : ad1 102 = ad 102 := hA1 102 (Nat.le_of_ble_eq_true rfl)
  have hlt : 102 < h1.1 := Nat.lt_of_lt_of_le (Nat.le_of_ble_eq_true rfl : 102 < zh0.1) hN1
  refine lv_aload_n (i := 2) (x := ad 102) hx hb (by decide +kernel) rfl (lv_at hl 2 rfl) ?_
  rw [← h102]
  refine zl_callV (a := 130) (n := 0) (q := 102) (ec := 11) (T9 := TX11) (N9 := 57) (As := []) (rest := v.toList) (ad := ad1) (h := h1) hx hb hml hown hts hst (show zN zMs 130 = some ((1, 8), 0, 0, zc_130) from rfl) hk1 (⟨_, _, rfl, ⟨rfl, fun k q => by cases q; exact hlt⟩, rfl⟩) (Nat.le_of_ble_eq_true rfl) hq rfl (List.mem_of_getElem? (i := 1814) rfl) (List.mem_of_getElem? (i := 1815) rfl) (List.mem_of_getElem? (i := 1816) rfl) (by decide +kernel) rfl hR1 hP1 hD1 hS1 hl.1 (zl_cat1 v) (by decide +kernel) ⟨Nat.le_of_ble_eq_true rfl, Nat.le_of_ble_eq_true rfl⟩ (fun r2 h2 v2 ad2 ws2 H2 locs2 hK2 hg2 hA2 hN2 hR2 hP2 hD2 hS2 => ?_)
  obtain ⟨x, rfl, rfl⟩ := zSame_to hK2 hg1 hg2
  exact lv_icmp_eq (tgt := 1181) hx hb (by decide +kernel) (by decide) (fun _ => ex H2 locs2 _ _ ls (Nat.le_of_ble_eq_true rfl) (Nat.le_of_ble_eq_true rfl) hS2 (lv_sub hl [0, 4] rfl)) (fun q => absurd rfl q)
set_option maxHeartbeats 4000000 in
set_option maxRecDepth 100000 in
theorem zl_op_last {p : Program} {l : Launch} {e : Env} {s : State} {m : MethodId} {below : List Frame} {meth : Method} {c : Code} {b : Nat} {xs : Nat → Int32} {D : va_G} {cy : Nat → ClassId} {ad : Nat → Nat} {ws : va_W} {H : Heap} {locs : List Loc} {ls : Array Slot} {q9 : Nat} {Q : State → Prop} (hx : p.tables.exec = Jvm.exec) (hb : c.code = code) (hml : c.maxLocals = 7) (hown : s.vm.findClass R_law = some m.cls) (hts : ∀ w ∈ lw_tbl, w.before #[Value.ref b] s = true) (hX : va_X b 6 xs s s.heap) (hbl : b < s.heap.size) (hst : zStat zSS D cy s) (hR : zR ad cy zh0 ws) (hP : va_P D vwCl ws H) (hD : va_D (fun q => s.heap.size ≤ q) ws) (hS : va_S (fun q => s.heap.size ≤ q) s.heap H locs) (hl : lv_has ls 7 [(4, .int 0), (3, .ref q9), (2, .ref (ad 102)), (1, .ref (ad 0)), (0, .ref b)])
    (ex : ∀ (H1 : Heap) (locs1 : List Loc) (cells slots : Nat) (ls1 : Array Slot), cells ≤ 1000 → slots ≤ 500000 → va_S (fun q => s.heap.size ≤ q) s.heap H1 locs1 → lv_has ls1 7 [(4, .int 0), (0, .ref b)] → W p l e room_1 s m #[Value.ref b] below meth c H1 locs1 cells slots Q (F0 m 1181 ls1 [])) :
    W p l e room_1 s m #[Value.ref b] below meth c H locs 127 117458 Q (F0 m 731 ls []) := by
  have hk := zk_last
  refine lv_aload_n (i := 1) (x := ad 0) hx hb (by decide +kernel) rfl (lv_at hl 3 rfl) ?_
  refine zl_callV (a := 69) (n := 0) (q := 0) (ec := 10) (T9 := TX10) (N9 := 10) (As := []) (rest := []) (ad := ad) (h := zh0) hx hb hml hown hts hst (show zN zMs 69 = some ((1, 1), 0, 0, zc_69) from rfl) hk (⟨_, _, rfl, ⟨rfl, fun k q => by cases q; exact Nat.le_of_ble_eq_true rfl⟩, rfl⟩) (Nat.le_of_ble_eq_true rfl) rfl rfl (List.mem_of_getElem? (i := 1076) rfl) (List.mem_of_getElem? (i := 1077) rfl) (List.mem_of_getElem? (i := 1078) rfl) (by decide +kernel) rfl hR hP hD hS hl.1 (Nat.zero_le _) (by decide +kernel) ⟨Nat.le_of_ble_eq_true rfl, Nat.le_of_ble_eq_true rfl⟩ (fun r h1 v ad1 ws1 H1 locs1 hK1 hg1 hA1 hN1 hR1 hP1 hD1 hS1 => ?_)
  obtain ⟨⟨fs9, hq⟩, hk1⟩ := zThen_to hK1
  rw [List.append_nil]
  have h102 : ad1 102 = ad 102 := hA1 102 (Nat.le_of_ble_eq_true rfl)
  have hlt : 102 < h1.1 := Nat.lt_of_lt_of_le (Nat.le_of_ble_eq_true rfl : 102 < zh0.1) hN1
  refine lv_aload_n (i := 2) (x := ad 102) hx hb (by decide +kernel) rfl (lv_at hl 2 rfl) ?_
  rw [← h102]
  refine zl_callV (a := 120) (n := 0) (q := 102) (ec := 11) (T9 := TX11) (N9 := 57) (As := []) (rest := v.toList) (ad := ad1) (h := h1) hx hb hml hown hts hst (show zN zMs 120 = some ((1, 2), 0, 0, zc_120) from rfl) hk1 (⟨_, _, rfl, ⟨rfl, fun k q => by cases q; exact hlt⟩, rfl⟩) (Nat.le_of_ble_eq_true rfl) hq rfl (List.mem_of_getElem? (i := 1786) rfl) (List.mem_of_getElem? (i := 1787) rfl) (List.mem_of_getElem? (i := 1788) rfl) (by decide +kernel) rfl hR1 hP1 hD1 hS1 hl.1 (zl_cat1 v) (by decide +kernel) ⟨Nat.le_of_ble_eq_true rfl, Nat.le_of_ble_eq_true rfl⟩ (fun r2 h2 v2 ad2 ws2 H2 locs2 hK2 hg2 hA2 hN2 hR2 hP2 hD2 hS2 => ?_)
  obtain ⟨x, rfl, rfl⟩ := zSame_to hK2 hg1 hg2
  exact lv_icmp_eq (tgt := 1181) hx hb (by decide +kernel) (by decide) (fun _ => ex H2 locs2 _ _ ls (Nat.le_of_ble_eq_true rfl) (Nat.le_of_ble_eq_true rfl) hS2 (lv_sub hl [0, 4] rfl)) (fun q => absurd rfl q)
set_option maxHeartbeats 4000000 in
set_option maxRecDepth 100000 in
theorem zl_op_invited {p : Program} {l : Launch} {e : Env} {s : State} {m : MethodId} {below : List Frame} {meth : Method} {c : Code} {b : Nat} {xs : Nat → Int32} {D : va_G} {cy : Nat → ClassId} {ad : Nat → Nat} {ws : va_W} {H : Heap} {locs : List Loc} {ls : Array Slot} {q9 : Nat} {Q : State → Prop} (hx : p.tables.exec = Jvm.exec) (hb : c.code = code) (hml : c.maxLocals = 7) (hown : s.vm.findClass R_law = some m.cls) (hts : ∀ w ∈ lw_tbl, w.before #[Value.ref b] s = true) (hX : va_X b 6 xs s s.heap) (hbl : b < s.heap.size) (hst : zStat zSS D cy s) (hR : zR ad cy zh0 ws) (hP : va_P D vwCl ws H) (hD : va_D (fun q => s.heap.size ≤ q) ws) (hS : va_S (fun q => s.heap.size ≤ q) s.heap H locs) (hl : lv_has ls 7 [(4, .int 0), (3, .ref q9), (2, .ref (ad 102)), (1, .ref (ad 0)), (0, .ref b)])
    (ex : ∀ (H1 : Heap) (locs1 : List Loc) (cells slots : Nat) (ls1 : Array Slot), cells ≤ 1000 → slots ≤ 500000 → va_S (fun q => s.heap.size ≤ q) s.heap H1 locs1 → lv_has ls1 7 [(4, .int 0), (0, .ref b)] → W p l e room_1 s m #[Value.ref b] below meth c H1 locs1 cells slots Q (F0 m 1181 ls1 [])) :
    W p l e room_1 s m #[Value.ref b] below meth c H locs 127 117458 Q (F0 m 744 ls []) := by
  obtain ⟨a1, g1, hk⟩ := zl_ck_invited (xs 1)
  refine lv_aload_n (i := 1) (x := ad 0) hx hb (by decide +kernel) rfl (lv_at hl 3 rfl) ?_
  refine zl_arg hx hb hX hbl hS 1 (by omega) (by omega) (lv_at hl 4 rfl) (lv_at hl 0 rfl) (by decide +kernel) (by decide +kernel) (by decide +kernel) (by decide +kernel) (by decide +kernel) ?_
  refine zl_callV (a := 62) (n := 1) (q := 0) (ec := 10) (T9 := TX10) (N9 := 10) (As := [.int (xs 1)]) (rest := []) (ad := ad) (h := zh0) hx hb hml hown hts hst (show zN zMs 62 = some ((2, 6), 0, 0, zc_62) from rfl) hk (⟨_, _, rfl, ⟨rfl, fun k q => by cases q; exact Nat.le_of_ble_eq_true rfl⟩, _, _, rfl, g1 _ _, rfl⟩) (Nat.le_of_ble_eq_true rfl) rfl rfl (List.mem_of_getElem? (i := 1080) rfl) (List.mem_of_getElem? (i := 1081) rfl) (List.mem_of_getElem? (i := 1082) rfl) (by decide +kernel) rfl hR hP hD hS hl.1 (Nat.zero_le _) (by decide +kernel) ⟨Nat.le_of_ble_eq_true rfl, Nat.le_of_ble_eq_true rfl⟩ (fun r h1 v ad1 ws1 H1 locs1 hK1 hg1 hA1 hN1 hR1 hP1 hD1 hS1 => ?_)
  obtain ⟨⟨fs9, hq⟩, hk1⟩ := zThen_to hK1
  rw [List.append_nil]
  have h102 : ad1 102 = ad 102 := hA1 102 (Nat.le_of_ble_eq_true rfl)
  have hlt : 102 < h1.1 := Nat.lt_of_lt_of_le (Nat.le_of_ble_eq_true rfl : 102 < zh0.1) hN1
  refine lv_aload_n (i := 2) (x := ad 102) hx hb (by decide +kernel) rfl (lv_at hl 2 rfl) ?_
  rw [← h102]
  refine zl_arg hx hb hX hbl hS1 1 (by omega) (by omega) (lv_at hl 4 rfl) (lv_at hl 0 rfl) (by decide +kernel) (by decide +kernel) (by decide +kernel) (by decide +kernel) (by decide +kernel) ?_
  refine zl_callV (a := 108) (n := 1) (q := 102) (ec := 11) (T9 := TX11) (N9 := 57) (As := [.int (xs 1)]) (rest := v.toList) (ad := ad1) (h := h1) hx hb hml hown hts hst (show zN zMs 108 = some ((2, 5), 0, 0, zc_108) from rfl) hk1 (⟨_, _, rfl, ⟨rfl, fun k q => by cases q; exact hlt⟩, _, _, rfl, g1 _ _, rfl⟩) (Nat.le_of_ble_eq_true rfl) hq rfl (List.mem_of_getElem? (i := 1822) rfl) (List.mem_of_getElem? (i := 1823) rfl) (List.mem_of_getElem? (i := 1824) rfl) (by decide +kernel) rfl hR1 hP1 hD1 hS1 hl.1 (zl_cat1 v) (by decide +kernel) ⟨Nat.le_of_ble_eq_true rfl, Nat.le_of_ble_eq_true rfl⟩ (fun r2 h2 v2 ad2 ws2 H2 locs2 hK2 hg2 hA2 hN2 hR2 hP2 hD2 hS2 => ?_)
  obtain ⟨x, rfl, rfl⟩ := zSame_to hK2 hg1 hg2
  exact lv_icmp_eq (tgt := 1181) hx hb (by decide +kernel) (by decide) (fun _ => ex H2 locs2 _ _ ls (Nat.le_of_ble_eq_true rfl) (Nat.le_of_ble_eq_true rfl) hS2 (lv_sub hl [0, 4] rfl)) (fun q => absurd rfl q)
set_option maxHeartbeats 4000000 in
set_option maxRecDepth 100000 in
theorem zl_op_began {p : Program} {l : Launch} {e : Env} {s : State} {m : MethodId} {below : List Frame} {meth : Method} {c : Code} {b : Nat} {xs : Nat → Int32} {D : va_G} {cy : Nat → ClassId} {ad : Nat → Nat} {ws : va_W} {H : Heap} {locs : List Loc} {ls : Array Slot} {q9 : Nat} {Q : State → Prop} (hx : p.tables.exec = Jvm.exec) (hb : c.code = code) (hml : c.maxLocals = 7) (hown : s.vm.findClass R_law = some m.cls) (hts : ∀ w ∈ lw_tbl, w.before #[Value.ref b] s = true) (hX : va_X b 6 xs s s.heap) (hbl : b < s.heap.size) (hst : zStat zSS D cy s) (hR : zR ad cy zh0 ws) (hP : va_P D vwCl ws H) (hD : va_D (fun q => s.heap.size ≤ q) ws) (hS : va_S (fun q => s.heap.size ≤ q) s.heap H locs) (hl : lv_has ls 7 [(4, .int 0), (3, .ref q9), (2, .ref (ad 102)), (1, .ref (ad 0)), (0, .ref b)])
    (ex : ∀ (H1 : Heap) (locs1 : List Loc) (cells slots : Nat) (ls1 : Array Slot), cells ≤ 1000 → slots ≤ 500000 → va_S (fun q => s.heap.size ≤ q) s.heap H1 locs1 → lv_has ls1 7 [(4, .int 0), (0, .ref b)] → W p l e room_1 s m #[Value.ref b] below meth c H1 locs1 cells slots Q (F0 m 1181 ls1 [])) :
    W p l e room_1 s m #[Value.ref b] below meth c H locs 127 117458 Q (F0 m 769 ls []) := by
  have hk := zk_began
  refine lv_aload_n (i := 1) (x := ad 0) hx hb (by decide +kernel) rfl (lv_at hl 3 rfl) ?_
  refine zl_callV (a := 55) (n := 0) (q := 0) (ec := 10) (T9 := TX10) (N9 := 10) (As := []) (rest := []) (ad := ad) (h := zh0) hx hb hml hown hts hst (show zN zMs 55 = some ((1, 3), 0, 0, zc_55) from rfl) hk (⟨_, _, rfl, ⟨rfl, fun k q => by cases q; exact Nat.le_of_ble_eq_true rfl⟩, rfl⟩) (Nat.le_of_ble_eq_true rfl) rfl rfl (List.mem_of_getElem? (i := 1093) rfl) (List.mem_of_getElem? (i := 1094) rfl) (List.mem_of_getElem? (i := 1095) rfl) (by decide +kernel) rfl hR hP hD hS hl.1 (Nat.zero_le _) (by decide +kernel) ⟨Nat.le_of_ble_eq_true rfl, Nat.le_of_ble_eq_true rfl⟩ (fun r h1 v ad1 ws1 H1 locs1 hK1 hg1 hA1 hN1 hR1 hP1 hD1 hS1 => ?_)
  obtain ⟨⟨fs9, hq⟩, hk1⟩ := zThen_to hK1
  rw [List.append_nil]
  have h102 : ad1 102 = ad 102 := hA1 102 (Nat.le_of_ble_eq_true rfl)
  have hlt : 102 < h1.1 := Nat.lt_of_lt_of_le (Nat.le_of_ble_eq_true rfl : 102 < zh0.1) hN1
  refine lv_aload_n (i := 2) (x := ad 102) hx hb (by decide +kernel) rfl (lv_at hl 2 rfl) ?_
  rw [← h102]
  refine zl_callV (a := 96) (n := 0) (q := 102) (ec := 11) (T9 := TX11) (N9 := 57) (As := []) (rest := v.toList) (ad := ad1) (h := h1) hx hb hml hown hts hst (show zN zMs 96 = some ((1, 3), 0, 0, zc_96) from rfl) hk1 (⟨_, _, rfl, ⟨rfl, fun k q => by cases q; exact hlt⟩, rfl⟩) (Nat.le_of_ble_eq_true rfl) hq rfl (List.mem_of_getElem? (i := 1830) rfl) (List.mem_of_getElem? (i := 1831) rfl) (List.mem_of_getElem? (i := 1832) rfl) (by decide +kernel) rfl hR1 hP1 hD1 hS1 hl.1 (zl_cat1 v) (by decide +kernel) ⟨Nat.le_of_ble_eq_true rfl, Nat.le_of_ble_eq_true rfl⟩ (fun r2 h2 v2 ad2 ws2 H2 locs2 hK2 hg2 hA2 hN2 hR2 hP2 hD2 hS2 => ?_)
  obtain ⟨x, rfl, rfl⟩ := zSame_to hK2 hg1 hg2
  exact lv_icmp_eq (tgt := 1181) hx hb (by decide +kernel) (by decide) (fun _ => ex H2 locs2 _ _ ls (Nat.le_of_ble_eq_true rfl) (Nat.le_of_ble_eq_true rfl) hS2 (lv_sub hl [0, 4] rfl)) (fun q => absurd rfl q)
set_option maxHeartbeats 4000000 in
set_option maxRecDepth 100000 in
theorem zl_op_lent {p : Program} {l : Launch} {e : Env} {s : State} {m : MethodId} {below : List Frame} {meth : Method} {c : Code} {b : Nat} {xs : Nat → Int32} {D : va_G} {cy : Nat → ClassId} {ad : Nat → Nat} {ws : va_W} {H : Heap} {locs : List Loc} {ls : Array Slot} {q9 : Nat} {Q : State → Prop} (hx : p.tables.exec = Jvm.exec) (hb : c.code = code) (hml : c.maxLocals = 7) (hown : s.vm.findClass R_law = some m.cls) (hts : ∀ w ∈ lw_tbl, w.before #[Value.ref b] s = true) (hX : va_X b 6 xs s s.heap) (hbl : b < s.heap.size) (hst : zStat zSS D cy s) (hR : zR ad cy zh0 ws) (hP : va_P D vwCl ws H) (hD : va_D (fun q => s.heap.size ≤ q) ws) (hS : va_S (fun q => s.heap.size ≤ q) s.heap H locs) (hl : lv_has ls 7 [(4, .int 0), (3, .ref q9), (2, .ref (ad 102)), (1, .ref (ad 0)), (0, .ref b)])
    (ex : ∀ (H1 : Heap) (locs1 : List Loc) (cells slots : Nat) (ls1 : Array Slot), cells ≤ 1000 → slots ≤ 500000 → va_S (fun q => s.heap.size ≤ q) s.heap H1 locs1 → lv_has ls1 7 [(4, .int 0), (0, .ref b)] → W p l e room_1 s m #[Value.ref b] below meth c H1 locs1 cells slots Q (F0 m 1181 ls1 [])) :
    W p l e room_1 s m #[Value.ref b] below meth c H locs 127 117458 Q (F0 m 782 ls []) := by
  obtain ⟨a1, a2, ⟨g1, g2⟩, hk⟩ := zl_ck_lent (xs 1) (xs 2)
  refine lv_aload_n (i := 1) (x := ad 0) hx hb (by decide +kernel) rfl (lv_at hl 3 rfl) ?_
  refine zl_arg hx hb hX hbl hS 1 (by omega) (by omega) (lv_at hl 4 rfl) (lv_at hl 0 rfl) (by decide +kernel) (by decide +kernel) (by decide +kernel) (by decide +kernel) (by decide +kernel) ?_
  refine zl_arg hx hb hX hbl hS 2 (by omega) (by omega) (lv_at hl 4 rfl) (lv_at hl 0 rfl) (by decide +kernel) (by decide +kernel) (by decide +kernel) (by decide +kernel) (by decide +kernel) ?_
  refine zl_callV (a := 71) (n := 2) (q := 0) (ec := 10) (T9 := TX10) (N9 := 10) (As := [.int (xs 1), .int (xs 2)]) (rest := []) (ad := ad) (h := zh0) hx hb hml hown hts hst (show zN zMs 71 = some ((3, 4), 0, 0, zc_71) from rfl) hk (⟨_, _, rfl, ⟨rfl, fun k q => by cases q; exact Nat.le_of_ble_eq_true rfl⟩, _, _, rfl, g1 _ _, _, _, rfl, g2 _ _, rfl⟩) (Nat.le_of_ble_eq_true rfl) rfl rfl (List.mem_of_getElem? (i := 1101) rfl) (List.mem_of_getElem? (i := 1102) rfl) (List.mem_of_getElem? (i := 1103) rfl) (by decide +kernel) rfl hR hP hD hS hl.1 (Nat.zero_le _) (by decide +kernel) ⟨Nat.le_of_ble_eq_true rfl, Nat.le_of_ble_eq_true rfl⟩ (fun r h1 v ad1 ws1 H1 locs1 hK1 hg1 hA1 hN1 hR1 hP1 hD1 hS1 => ?_)
  obtain ⟨⟨fs9, hq⟩, hk1⟩ := zThen_to hK1
  rw [List.append_nil]
  have h102 : ad1 102 = ad 102 := hA1 102 (Nat.le_of_ble_eq_true rfl)
  have hlt : 102 < h1.1 := Nat.lt_of_lt_of_le (Nat.le_of_ble_eq_true rfl : 102 < zh0.1) hN1
  refine lv_aload_n (i := 2) (x := ad 102) hx hb (by decide +kernel) rfl (lv_at hl 2 rfl) ?_
  rw [← h102]
  refine zl_arg hx hb hX hbl hS1 1 (by omega) (by omega) (lv_at hl 4 rfl) (lv_at hl 0 rfl) (by decide +kernel) (by decide +kernel) (by decide +kernel) (by decide +kernel) (by decide +kernel) ?_
  refine zl_arg hx hb hX hbl hS1 2 (by omega) (by omega) (lv_at hl 4 rfl) (lv_at hl 0 rfl) (by decide +kernel) (by decide +kernel) (by decide +kernel) (by decide +kernel) (by decide +kernel) ?_
  refine zl_callV (a := 123) (n := 2) (q := 102) (ec := 11) (T9 := TX11) (N9 := 57) (As := [.int (xs 1), .int (xs 2)]) (rest := v.toList) (ad := ad1) (h := h1) hx hb hml hown hts hst (show zN zMs 123 = some ((3, 6), 0, 0, zc_123) from rfl) hk1 (⟨_, _, rfl, ⟨rfl, fun k q => by cases q; exact hlt⟩, _, _, rfl, g1 _ _, _, _, rfl, g2 _ _, rfl⟩) (Nat.le_of_ble_eq_true rfl) hq rfl (List.mem_of_getElem? (i := 1842) rfl) (List.mem_of_getElem? (i := 1843) rfl) (List.mem_of_getElem? (i := 1844) rfl) (by decide +kernel) rfl hR1 hP1 hD1 hS1 hl.1 (zl_cat1 v) (by decide +kernel) ⟨Nat.le_of_ble_eq_true rfl, Nat.le_of_ble_eq_true rfl⟩ (fun r2 h2 v2 ad2 ws2 H2 locs2 hK2 hg2 hA2 hN2 hR2 hP2 hD2 hS2 => ?_)
  obtain ⟨x, rfl, rfl⟩ := zSame_to hK2 hg1 hg2
  exact lv_icmp_eq (tgt := 1181) hx hb (by decide +kernel) (by decide) (fun _ => ex H2 locs2 _ _ ls (Nat.le_of_ble_eq_true rfl) (Nat.le_of_ble_eq_true rfl) hS2 (lv_sub hl [0, 4] rfl)) (fun q => absurd rfl q)
set_option maxHeartbeats 4000000 in
set_option maxRecDepth 100000 in
theorem zl_op_torches {p : Program} {l : Launch} {e : Env} {s : State} {m : MethodId} {below : List Frame} {meth : Method} {c : Code} {b : Nat} {xs : Nat → Int32} {D : va_G} {cy : Nat → ClassId} {ad : Nat → Nat} {ws : va_W} {H : Heap} {locs : List Loc} {ls : Array Slot} {q9 : Nat} {Q : State → Prop} (hx : p.tables.exec = Jvm.exec) (hb : c.code = code) (hml : c.maxLocals = 7) (hown : s.vm.findClass R_law = some m.cls) (hts : ∀ w ∈ lw_tbl, w.before #[Value.ref b] s = true) (hX : va_X b 6 xs s s.heap) (hbl : b < s.heap.size) (hst : zStat zSS D cy s) (hR : zR ad cy zh0 ws) (hP : va_P D vwCl ws H) (hD : va_D (fun q => s.heap.size ≤ q) ws) (hS : va_S (fun q => s.heap.size ≤ q) s.heap H locs) (hl : lv_has ls 7 [(4, .int 0), (3, .ref q9), (2, .ref (ad 102)), (1, .ref (ad 0)), (0, .ref b)])
    (ex : ∀ (H1 : Heap) (locs1 : List Loc) (cells slots : Nat) (ls1 : Array Slot), cells ≤ 1000 → slots ≤ 500000 → va_S (fun q => s.heap.size ≤ q) s.heap H1 locs1 → lv_has ls1 7 [(4, .int 0), (0, .ref b)] → W p l e room_1 s m #[Value.ref b] below meth c H1 locs1 cells slots Q (F0 m 1181 ls1 [])) :
    W p l e room_1 s m #[Value.ref b] below meth c H locs 127 117458 Q (F0 m 819 ls []) := by
  obtain ⟨a1, a2, a3, a4, ⟨g1, g2, g3, g4⟩, hk⟩ := zl_ck_torches (xs 1) (xs 2) (xs 3) (xs 4)
  refine lv_aload_n (i := 1) (x := ad 0) hx hb (by decide +kernel) rfl (lv_at hl 3 rfl) ?_
  refine zl_arg hx hb hX hbl hS 1 (by omega) (by omega) (lv_at hl 4 rfl) (lv_at hl 0 rfl) (by decide +kernel) (by decide +kernel) (by decide +kernel) (by decide +kernel) (by decide +kernel) ?_
  refine zl_arg hx hb hX hbl hS 2 (by omega) (by omega) (lv_at hl 4 rfl) (lv_at hl 0 rfl) (by decide +kernel) (by decide +kernel) (by decide +kernel) (by decide +kernel) (by decide +kernel) ?_
  refine zl_arg hx hb hX hbl hS 3 (by omega) (by omega) (lv_at hl 4 rfl) (lv_at hl 0 rfl) (by decide +kernel) (by decide +kernel) (by decide +kernel) (by decide +kernel) (by decide +kernel) ?_
  refine zl_arg hx hb hX hbl hS 4 (by omega) (by omega) (lv_at hl 4 rfl) (lv_at hl 0 rfl) (by decide +kernel) (by decide +kernel) (by decide +kernel) (by decide +kernel) (by decide +kernel) ?_
  refine zl_callV (a := 85) (n := 4) (q := 0) (ec := 10) (T9 := TX10) (N9 := 10) (As := [.int (xs 1), .int (xs 2), .int (xs 3), .int (xs 4)]) (rest := []) (ad := ad) (h := zh0) hx hb hml hown hts hst (show zN zMs 85 = some ((5, 9), 0, 0, zc_85) from rfl) hk (⟨_, _, rfl, ⟨rfl, fun k q => by cases q; exact Nat.le_of_ble_eq_true rfl⟩, _, _, rfl, g1 _ _, _, _, rfl, g2 _ _, _, _, rfl, g3 _ _, _, _, rfl, g4 _ _, rfl⟩) (Nat.le_of_ble_eq_true rfl) rfl rfl (List.mem_of_getElem? (i := 1110) rfl) (List.mem_of_getElem? (i := 1111) rfl) (List.mem_of_getElem? (i := 1112) rfl) (by decide +kernel) rfl hR hP hD hS hl.1 (Nat.zero_le _) (by decide +kernel) ⟨Nat.le_of_ble_eq_true rfl, Nat.le_of_ble_eq_true rfl⟩ (fun r h1 v ad1 ws1 H1 locs1 hK1 hg1 hA1 hN1 hR1 hP1 hD1 hS1 => ?_)
  obtain ⟨⟨fs9, hq⟩, hk1⟩ := zThen_to hK1
  rw [List.append_nil]
  have h102 : ad1 102 = ad 102 := hA1 102 (Nat.le_of_ble_eq_true rfl)
  have hlt : 102 < h1.1 := Nat.lt_of_lt_of_le (Nat.le_of_ble_eq_true rfl : 102 < zh0.1) hN1
  refine lv_aload_n (i := 2) (x := ad 102) hx hb (by decide +kernel) rfl (lv_at hl 2 rfl) ?_
  rw [← h102]
  refine zl_arg hx hb hX hbl hS1 1 (by omega) (by omega) (lv_at hl 4 rfl) (lv_at hl 0 rfl) (by decide +kernel) (by decide +kernel) (by decide +kernel) (by decide +kernel) (by decide +kernel) ?_
  refine zl_arg hx hb hX hbl hS1 2 (by omega) (by omega) (lv_at hl 4 rfl) (lv_at hl 0 rfl) (by decide +kernel) (by decide +kernel) (by decide +kernel) (by decide +kernel) (by decide +kernel) ?_
  refine zl_arg hx hb hX hbl hS1 3 (by omega) (by omega) (lv_at hl 4 rfl) (lv_at hl 0 rfl) (by decide +kernel) (by decide +kernel) (by decide +kernel) (by decide +kernel) (by decide +kernel) ?_
  refine zl_arg hx hb hX hbl hS1 4 (by omega) (by omega) (lv_at hl 4 rfl) (lv_at hl 0 rfl) (by decide +kernel) (by decide +kernel) (by decide +kernel) (by decide +kernel) (by decide +kernel) ?_
  refine zl_callV (a := 146) (n := 4) (q := 102) (ec := 11) (T9 := TX11) (N9 := 57) (As := [.int (xs 1), .int (xs 2), .int (xs 3), .int (xs 4)]) (rest := v.toList) (ad := ad1) (h := h1) hx hb hml hown hts hst (show zN zMs 146 = some ((5, 7), 0, 0, zc_146) from rfl) hk1 (⟨_, _, rfl, ⟨rfl, fun k q => by cases q; exact hlt⟩, _, _, rfl, g1 _ _, _, _, rfl, g2 _ _, _, _, rfl, g3 _ _, _, _, rfl, g4 _ _, rfl⟩) (Nat.le_of_ble_eq_true rfl) hq rfl (List.mem_of_getElem? (i := 1846) rfl) (List.mem_of_getElem? (i := 1847) rfl) (List.mem_of_getElem? (i := 1848) rfl) (by decide +kernel) rfl hR1 hP1 hD1 hS1 hl.1 (zl_cat1 v) (by decide +kernel) ⟨Nat.le_of_ble_eq_true rfl, Nat.le_of_ble_eq_true rfl⟩ (fun r2 h2 v2 ad2 ws2 H2 locs2 hK2 hg2 hA2 hN2 hR2 hP2 hD2 hS2 => ?_)
  obtain ⟨x, rfl, rfl⟩ := zSame_to hK2 hg1 hg2
  exact lv_icmp_eq (tgt := 1181) hx hb (by decide +kernel) (by decide) (fun _ => ex H2 locs2 _ _ ls (Nat.le_of_ble_eq_true rfl) (Nat.le_of_ble_eq_true rfl) hS2 (lv_sub hl [0, 4] rfl)) (fun q => absurd rfl q)
set_option maxHeartbeats 4000000 in
set_option maxRecDepth 100000 in
theorem zl_op_voted {p : Program} {l : Launch} {e : Env} {s : State} {m : MethodId} {below : List Frame} {meth : Method} {c : Code} {b : Nat} {xs : Nat → Int32} {D : va_G} {cy : Nat → ClassId} {ad : Nat → Nat} {ws : va_W} {H : Heap} {locs : List Loc} {ls : Array Slot} {q9 : Nat} {Q : State → Prop} (hx : p.tables.exec = Jvm.exec) (hb : c.code = code) (hml : c.maxLocals = 7) (hown : s.vm.findClass R_law = some m.cls) (hts : ∀ w ∈ lw_tbl, w.before #[Value.ref b] s = true) (hX : va_X b 6 xs s s.heap) (hbl : b < s.heap.size) (hst : zStat zSS D cy s) (hR : zR ad cy zh0 ws) (hP : va_P D vwCl ws H) (hD : va_D (fun q => s.heap.size ≤ q) ws) (hS : va_S (fun q => s.heap.size ≤ q) s.heap H locs) (hl : lv_has ls 7 [(4, .int 0), (3, .ref q9), (2, .ref (ad 102)), (1, .ref (ad 0)), (0, .ref b)])
    (ex : ∀ (H1 : Heap) (locs1 : List Loc) (cells slots : Nat) (ls1 : Array Slot), cells ≤ 1000 → slots ≤ 500000 → va_S (fun q => s.heap.size ≤ q) s.heap H1 locs1 → lv_has ls1 7 [(4, .int 0), (0, .ref b)] → W p l e room_1 s m #[Value.ref b] below meth c H1 locs1 cells slots Q (F0 m 1181 ls1 [])) :
    W p l e room_1 s m #[Value.ref b] below meth c H locs 127 117458 Q (F0 m 880 ls []) := by
  obtain ⟨a1, g1, hk⟩ := zl_ck_voted (xs 1)
  refine lv_aload_n (i := 1) (x := ad 0) hx hb (by decide +kernel) rfl (lv_at hl 3 rfl) ?_
  refine zl_arg hx hb hX hbl hS 1 (by omega) (by omega) (lv_at hl 4 rfl) (lv_at hl 0 rfl) (by decide +kernel) (by decide +kernel) (by decide +kernel) (by decide +kernel) (by decide +kernel) ?_
  refine zl_callV (a := 88) (n := 1) (q := 0) (ec := 10) (T9 := TX10) (N9 := 10) (As := [.int (xs 1)]) (rest := []) (ad := ad) (h := zh0) hx hb hml hown hts hst (show zN zMs 88 = some ((2, 6), 0, 0, zc_88) from rfl) hk (⟨_, _, rfl, ⟨rfl, fun k q => by cases q; exact Nat.le_of_ble_eq_true rfl⟩, _, _, rfl, g1 _ _, rfl⟩) (Nat.le_of_ble_eq_true rfl) rfl rfl (List.mem_of_getElem? (i := 1114) rfl) (List.mem_of_getElem? (i := 1115) rfl) (List.mem_of_getElem? (i := 1116) rfl) (by decide +kernel) rfl hR hP hD hS hl.1 (Nat.zero_le _) (by decide +kernel) ⟨Nat.le_of_ble_eq_true rfl, Nat.le_of_ble_eq_true rfl⟩ (fun r h1 v ad1 ws1 H1 locs1 hK1 hg1 hA1 hN1 hR1 hP1 hD1 hS1 => ?_)
  obtain ⟨⟨fs9, hq⟩, hk1⟩ := zThen_to hK1
  rw [List.append_nil]
  have h102 : ad1 102 = ad 102 := hA1 102 (Nat.le_of_ble_eq_true rfl)
  have hlt : 102 < h1.1 := Nat.lt_of_lt_of_le (Nat.le_of_ble_eq_true rfl : 102 < zh0.1) hN1
  refine lv_aload_n (i := 2) (x := ad 102) hx hb (by decide +kernel) rfl (lv_at hl 2 rfl) ?_
  rw [← h102]
  refine zl_arg hx hb hX hbl hS1 1 (by omega) (by omega) (lv_at hl 4 rfl) (lv_at hl 0 rfl) (by decide +kernel) (by decide +kernel) (by decide +kernel) (by decide +kernel) (by decide +kernel) ?_
  refine zl_callV (a := 150) (n := 1) (q := 102) (ec := 11) (T9 := TX11) (N9 := 57) (As := [.int (xs 1)]) (rest := v.toList) (ad := ad1) (h := h1) hx hb hml hown hts hst (show zN zMs 150 = some ((2, 5), 0, 0, zc_150) from rfl) hk1 (⟨_, _, rfl, ⟨rfl, fun k q => by cases q; exact hlt⟩, _, _, rfl, g1 _ _, rfl⟩) (Nat.le_of_ble_eq_true rfl) hq rfl (List.mem_of_getElem? (i := 1850) rfl) (List.mem_of_getElem? (i := 1851) rfl) (List.mem_of_getElem? (i := 1852) rfl) (by decide +kernel) rfl hR1 hP1 hD1 hS1 hl.1 (zl_cat1 v) (by decide +kernel) ⟨Nat.le_of_ble_eq_true rfl, Nat.le_of_ble_eq_true rfl⟩ (fun r2 h2 v2 ad2 ws2 H2 locs2 hK2 hg2 hA2 hN2 hR2 hP2 hD2 hS2 => ?_)
  obtain ⟨x, rfl, rfl⟩ := zSame_to hK2 hg1 hg2
  exact lv_icmp_eq (tgt := 1181) hx hb (by decide +kernel) (by decide) (fun _ => ex H2 locs2 _ _ ls (Nat.le_of_ble_eq_true rfl) (Nat.le_of_ble_eq_true rfl) hS2 (lv_sub hl [0, 4] rfl)) (fun q => absurd rfl q)
set_option maxHeartbeats 4000000 in
set_option maxRecDepth 100000 in
theorem zl_op_when {p : Program} {l : Launch} {e : Env} {s : State} {m : MethodId} {below : List Frame} {meth : Method} {c : Code} {b : Nat} {xs : Nat → Int32} {D : va_G} {cy : Nat → ClassId} {ad : Nat → Nat} {ws : va_W} {H : Heap} {locs : List Loc} {ls : Array Slot} {q9 : Nat} {Q : State → Prop} (hx : p.tables.exec = Jvm.exec) (hb : c.code = code) (hml : c.maxLocals = 7) (hown : s.vm.findClass R_law = some m.cls) (hts : ∀ w ∈ lw_tbl, w.before #[Value.ref b] s = true) (hX : va_X b 6 xs s s.heap) (hbl : b < s.heap.size) (hst : zStat zSS D cy s) (hR : zR ad cy zh0 ws) (hP : va_P D vwCl ws H) (hD : va_D (fun q => s.heap.size ≤ q) ws) (hS : va_S (fun q => s.heap.size ≤ q) s.heap H locs) (hl : lv_has ls 7 [(4, .int 0), (3, .ref q9), (2, .ref (ad 102)), (1, .ref (ad 0)), (0, .ref b)])
    (ex : ∀ (H1 : Heap) (locs1 : List Loc) (cells slots : Nat) (ls1 : Array Slot), cells ≤ 1000 → slots ≤ 500000 → va_S (fun q => s.heap.size ≤ q) s.heap H1 locs1 → lv_has ls1 7 [(4, .int 0), (0, .ref b)] → W p l e room_1 s m #[Value.ref b] below meth c H1 locs1 cells slots Q (F0 m 1181 ls1 [])) :
    W p l e room_1 s m #[Value.ref b] below meth c H locs 127 117458 Q (F0 m 905 ls []) := by
  obtain ⟨a1, g1, hk⟩ := zl_ck_when (xs 1)
  refine lv_aload_n (i := 1) (x := ad 0) hx hb (by decide +kernel) rfl (lv_at hl 3 rfl) ?_
  refine zl_arg hx hb hX hbl hS 1 (by omega) (by omega) (lv_at hl 4 rfl) (lv_at hl 0 rfl) (by decide +kernel) (by decide +kernel) (by decide +kernel) (by decide +kernel) (by decide +kernel) ?_
  refine zl_callV (a := 90) (n := 1) (q := 0) (ec := 10) (T9 := TX10) (N9 := 10) (As := [.int (xs 1)]) (rest := []) (ad := ad) (h := zh0) hx hb hml hown hts hst (show zN zMs 90 = some ((2, 2), 0, 0, zc_90) from rfl) hk (⟨_, _, rfl, ⟨rfl, fun k q => by cases q; exact Nat.le_of_ble_eq_true rfl⟩, _, _, rfl, g1 _ _, rfl⟩) (Nat.le_of_ble_eq_true rfl) rfl rfl (List.mem_of_getElem? (i := 1118) rfl) (List.mem_of_getElem? (i := 1119) rfl) (List.mem_of_getElem? (i := 1120) rfl) (by decide +kernel) rfl hR hP hD hS hl.1 (Nat.zero_le _) (by decide +kernel) ⟨Nat.le_of_ble_eq_true rfl, Nat.le_of_ble_eq_true rfl⟩ (fun r h1 v ad1 ws1 H1 locs1 hK1 hg1 hA1 hN1 hR1 hP1 hD1 hS1 => ?_)
  obtain ⟨⟨fs9, hq⟩, hk1⟩ := zThen_to hK1
  rw [List.append_nil]
  have h102 : ad1 102 = ad 102 := hA1 102 (Nat.le_of_ble_eq_true rfl)
  have hlt : 102 < h1.1 := Nat.lt_of_lt_of_le (Nat.le_of_ble_eq_true rfl : 102 < zh0.1) hN1
  refine lv_aload_n (i := 2) (x := ad 102) hx hb (by decide +kernel) rfl (lv_at hl 2 rfl) ?_
  rw [← h102]
  refine zl_arg hx hb hX hbl hS1 1 (by omega) (by omega) (lv_at hl 4 rfl) (lv_at hl 0 rfl) (by decide +kernel) (by decide +kernel) (by decide +kernel) (by decide +kernel) (by decide +kernel) ?_
  refine zl_callV (a := 153) (n := 1) (q := 102) (ec := 11) (T9 := TX11) (N9 := 57) (As := [.int (xs 1)]) (rest := v.toList) (ad := ad1) (h := h1) hx hb hml hown hts hst (show zN zMs 153 = some ((2, 2), 0, 0, zc_153) from rfl) hk1 (⟨_, _, rfl, ⟨rfl, fun k q => by cases q; exact hlt⟩, _, _, rfl, g1 _ _, rfl⟩) (Nat.le_of_ble_eq_true rfl) hq rfl (List.mem_of_getElem? (i := 1834) rfl) (List.mem_of_getElem? (i := 1835) rfl) (List.mem_of_getElem? (i := 1836) rfl) (by decide +kernel) rfl hR1 hP1 hD1 hS1 hl.1 (zl_cat1 v) (by decide +kernel) ⟨Nat.le_of_ble_eq_true rfl, Nat.le_of_ble_eq_true rfl⟩ (fun r2 h2 v2 ad2 ws2 H2 locs2 hK2 hg2 hA2 hN2 hR2 hP2 hD2 hS2 => ?_)
  obtain ⟨x, rfl, rfl⟩ := zSame_to hK2 hg1 hg2
  exact lv_icmp_eq (tgt := 1181) hx hb (by decide +kernel) (by decide) (fun _ => ex H2 locs2 _ _ ls (Nat.le_of_ble_eq_true rfl) (Nat.le_of_ble_eq_true rfl) hS2 (lv_sub hl [0, 4] rfl)) (fun q => absurd rfl q)
