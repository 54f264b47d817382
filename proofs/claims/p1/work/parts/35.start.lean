/-! THE LAW, WHOLE -/
set_option maxRecDepth 100000 in
theorem zl_hdt : decode code 40 = .ok (.tableswitch 1141 0 34 #[156, 229, 254, 267, 280, 348, 416, 453, 478, 503, 528, 553, 590, 603, 640, 653, 678, 691, 704, 729, 742, 779, 840, 865, 890, 903, 928, 965, 978, 1003, 1028, 1041, 1066, 1091, 1116], 156) := by decide +kernel
def zl_tg (k : Nat) : Nat := ([196, 269, 294, 307, 320, 388, 456, 493, 518, 543, 568, 593, 630, 643, 680, 693, 718, 731, 744, 769, 782, 819, 880, 905, 930, 943, 968, 1005, 1018, 1043, 1068, 1081, 1106, 1131, 1156] : List Nat).getD k 0
set_option maxRecDepth 100000 in
theorem zl_offs : ∀ k : Nat, k < 35 → (¬ (nI k).toInt < 0 ∧ ¬ (34 : Int) < (nI k).toInt ∧ (#[156, 229, 254, 267, 280, 348, 416, 453, 478, 503, 528, 553, 590, 603, 640, 653, 678, 691, 704, 729, 742, 779, 840, 865, 890, 903, 928, 965, 978, 1003, 1028, 1041, 1066, 1091, 1116] : Array Int)[((nI k).toInt - 0).toNat]? = some ((zl_tg k : Int) - 40)) := by decide +kernel
set_option maxHeartbeats 4000000 in
set_option maxRecDepth 100000 in
theorem zl_ops {p : Program} {l : Launch} {e : Env} {s : State} {m : MethodId} {below : List Frame} {meth : Method} {c : Code} {b : Nat} {xs : Nat → Int32} {D : va_G} {cy : Nat → ClassId} {ad : Nat → Nat} {ws : va_W} {H : Heap} {locs : List Loc} {ls : Array Slot} {q9 : Nat} {Q : State → Prop} (hx : p.tables.exec = Jvm.exec) (hb : c.code = code) (hml : c.maxLocals = 7) (hown : s.vm.findClass R_law = some m.cls) (hts : ∀ w ∈ lw_tbl, w.before #[Value.ref b] s = true) (hX : va_X b 6 xs s s.heap) (hbl : b < s.heap.size) (hst : zStat zSS D cy s) (hR : zR ad cy zh0 ws) (hP : va_P D vwCl ws H) (hD : va_D (fun q => s.heap.size ≤ q) ws) (hS : va_S (fun q => s.heap.size ≤ q) s.heap H locs) (hl : lv_has ls 7 [(4, .int 0), (3, .ref q9), (2, .ref (ad 102)), (1, .ref (ad 0)), (0, .ref b)])
    (ex : ∀ (H1 : Heap) (locs1 : List Loc) (cells slots : Nat) (ls1 : Array Slot), cells ≤ 1000 → slots ≤ 500000 → va_S (fun q => s.heap.size ≤ q) s.heap H1 locs1 → lv_has ls1 7 [(4, .int 0), (0, .ref b)] → W p l e room_1 s m #[Value.ref b] below meth c H1 locs1 cells slots Q (F0 m 1181 ls1 [])) (htr : l.stackTraces = false) (hF : xF (fun q => s.heap.size ≤ q) s) : ∀ k : Nat, k < 35 → W p l e room_1 s m #[Value.ref b] below meth c H locs 127 117458 Q (F0 m (zl_tg k) ls []) := by
  intro k hk
  match k, hk with
  | 0, _ => exact zl_op_feed hx hb hml hown hts hX hbl hst hR hP hD hS hl ex
  | 1, _ => exact zl_op_end hx hb hml hown hts hX hbl hst hR hP hD hS hl ex
  | 2, _ => exact zl_op_alleys hx hb hml hown hts hX hbl hst hR hP hD hS hl ex
  | 3, _ => exact zl_op_fault hx hb hml hown hts hX hbl hst hR hP hD hS hl ex
  | 4, _ => exact zl_op_chair hx hb hml hown hts hX hbl hst hR hP hD hS hl ex htr hF
  | 5, _ => exact zl_op_cell hx hb hml hown hts hX hbl hst hR hP hD hS hl ex htr hF
  | 6, _ => exact zl_op_way hx hb hml hown hts hX hbl hst hR hP hD hS hl ex
  | 7, _ => exact zl_op_next hx hb hml hown hts hX hbl hst hR hP hD hS hl ex
  | 8, _ => exact zl_op_order hx hb hml hown hts hX hbl hst hR hP hD hS hl ex
  | 9, _ => exact zl_op_on hx hb hml hown hts hX hbl hst hR hP hD hS hl ex
  | 10, _ => exact zl_op_now hx hb hml hown hts hX hbl hst hR hP hD hS hl ex
  | 11, _ => exact zl_op_met hx hb hml hown hts hX hbl hst hR hP hD hS hl ex
  | 12, _ => exact zl_op_undo hx hb hml hown hts hX hbl hst hR hP hD hS hl ex
  | 13, _ => exact zl_op_lane hx hb hml hown hts hX hbl hst hR hP hD hS hl ex
  | 14, _ => exact zl_op_untied hx hb hml hown hts hX hbl hst hR hP hD hS hl ex
  | 15, _ => exact zl_op_step hx hb hml hown hts hX hbl hst hR hP hD hS hl ex
  | 16, _ => exact zl_op_oneWay hx hb hml hown hts hX hbl hst hR hP hD hS hl ex
  | 17, _ => exact zl_op_last hx hb hml hown hts hX hbl hst hR hP hD hS hl ex
  | 18, _ => exact zl_op_invited hx hb hml hown hts hX hbl hst hR hP hD hS hl ex
  | 19, _ => exact zl_op_began hx hb hml hown hts hX hbl hst hR hP hD hS hl ex
  | 20, _ => exact zl_op_lent hx hb hml hown hts hX hbl hst hR hP hD hS hl ex
  | 21, _ => exact zl_op_torches hx hb hml hown hts hX hbl hst hR hP hD hS hl ex
  | 22, _ => exact zl_op_voted hx hb hml hown hts hX hbl hst hR hP hD hS hl ex
  | 23, _ => exact zl_op_when hx hb hml hown hts hX hbl hst hR hP hD hS hl ex
  | 24, _ => exact zl_op_latest hx hb hml hown hts hX hbl hst hR hP hD hS hl ex
  | 25, _ => exact zl_op_drawn hx hb hml hown hts hX hbl hst hR hP hD hS hl ex
  | 26, _ => exact zl_op_odds hx hb hml hown hts hX hbl hst hR hP hD hS hl ex
  | 27, _ => exact zl_op_plan hx hb hml hown hts hX hbl hst hR hP hD hS hl ex
  | 28, _ => exact zl_op_judge hx hb hml hown hts hX hbl hst hR hP hD hS hl ex
  | 29, _ => exact zl_op_judged hx hb hml hown hts hX hbl hst hR hP hD hS hl ex
  | 30, _ => exact zl_op_sentence hx hb hml hown hts hX hbl hst hR hP hD hS hl ex
  | 31, _ => exact zl_op_said hx hb hml hown hts hX hbl hst hR hP hD hS hl ex
  | 32, _ => exact zl_op_image hx hb hml hown hts hX hbl hst hR hP hD hS hl ex
  | 33, _ => exact zl_op_restore hx hb hml hown hts hX hbl hst hR hP hD hS hl ex
  | 34, _ => exact zl_op_count hx hb hml hown hts hX hbl hst hR hP hD hS hl ex
  | k + 35, h => exact absurd h (by omega)
set_option maxHeartbeats 4000000 in
set_option maxRecDepth 100000 in
theorem zl_40 {p : Program} {l : Launch} {e : Env} {s : State} {m : MethodId} {below : List Frame} {meth : Method} {c : Code} {b : Nat} {xs : Nat → Int32} {D : va_G} {cy : Nat → ClassId} {ad : Nat → Nat} {ws : va_W} {H : Heap} {locs : List Loc} {ls : Array Slot} {q9 : Nat} {Q : State → Prop} (hx : p.tables.exec = Jvm.exec) (hb : c.code = code) (hml : c.maxLocals = 7) (hown : s.vm.findClass R_law = some m.cls) (hts : ∀ w ∈ lw_tbl, w.before #[Value.ref b] s = true) (hX : va_X b 6 xs s s.heap) (hbl : b < s.heap.size) (hst : zStat zSS D cy s) (hR : zR ad cy zh0 ws) (hP : va_P D vwCl ws H) (hD : va_D (fun q => s.heap.size ≤ q) ws) (hS : va_S (fun q => s.heap.size ≤ q) s.heap H locs) (hl : lv_has ls 7 [(4, .int 0), (3, .ref q9), (2, .ref (ad 102)), (1, .ref (ad 0)), (0, .ref b)])
    (ex : ∀ (H1 : Heap) (locs1 : List Loc) (cells slots : Nat) (ls1 : Array Slot), cells ≤ 1000 → slots ≤ 500000 → va_S (fun q => s.heap.size ≤ q) s.heap H1 locs1 → lv_has ls1 7 [(4, .int 0), (0, .ref b)] → W p l e room_1 s m #[Value.ref b] below meth c H1 locs1 cells slots Q (F0 m 1181 ls1 [])) (htr : l.stackTraces = false) (hF : xF (fun q => s.heap.size ≤ q) s) (j : Nat) (hj : j < 64) : W p l e room_1 s m #[Value.ref b] below meth c H locs 127 117458 Q (F0 m 40 ls [.int (nI j)]) := by
  by_cases h34 : j < 35
  · obtain ⟨o1, o2, o3⟩ := zl_offs j h34
    exact lv_tableIn (tgt := zl_tg j) hx hb zl_hdt o1 o2 o3 (by omega) (zl_ops hx hb hml hown hts hX hbl hst hR hP hD hS hl ex htr hF j h34)
  · have hjt : (nI j).toInt = (j : Int) := Int32.toInt_ofNat_of_lt (by omega)
    exact lv_tableOut (tgt := 1181) hx hb zl_hdt (Or.inr (by rw [hjt]; omega)) (by decide) (ex H locs _ _ ls (Nat.le_of_ble_eq_true rfl) (Nat.le_of_ble_eq_true rfl) hS (lv_sub hl [0, 4] rfl))
set_option maxHeartbeats 4000000 in
set_option maxRecDepth 100000 in
theorem zl_33 {p : Program} {l : Launch} {e : Env} {s : State} {m : MethodId} {below : List Frame} {meth : Method} {c : Code} {b : Nat} {xs : Nat → Int32} {ad : Nat → Nat} {H : Heap} {locs : List Loc} {ls : Array Slot} {q9 : Nat} {Q : State → Prop} (hx : p.tables.exec = Jvm.exec) (hb : c.code = code) (hX : va_X b 6 xs s s.heap) (hbl : b < s.heap.size) (hS : va_S (fun q => s.heap.size ≤ q) s.heap H locs) (hl : lv_has ls 7 [(4, .int 0), (3, .ref q9), (2, .ref (ad 102)), (1, .ref (ad 0)), (0, .ref b)])
    (kk : ∀ j : Nat, j < 64 → W p l e room_1 s m #[Value.ref b] below meth c H locs 127 117458 Q (F0 m 40 ls [.int (nI j)])) : W p l e room_1 s m #[Value.ref b] below meth c H locs 127 117458 Q (F0 m 33 ls []) := by
  refine lv_aload_n hx hb (show decode code 33 = .ok (.aload_n 0, 1) by decide +kernel) rfl (lv_at hl 4 rfl) ?_
  refine lv_iload hx hb (show decode code 34 = .ok (.iload 4, 2) by decide +kernel) (lv_at hl 0 rfl) ?_
  refine va_sld (A := fun q => s.heap.size ≤ q) hx hb hX hbl (Nat.not_le.mpr hbl) hS (show vp_in (0 : Int32) 6 from zs_in (i := 0) (n := 6) (by omega) (by omega)) (show decode code 36 = .ok (.iaload, 1) by decide +kernel) ?_
  refine lv_bipush (v := 63) hx hb (show decode code 37 = .ok (.bipush 63, 2) by decide +kernel) (by decide) ?_
  refine lv_iand hx hb (show decode code 39 = .ok (.iand, 1) by decide +kernel) ?_
  obtain ⟨j, hj, hje⟩ := pk_andE (xs (Int32.toNatClampNeg 0)) (m := 63) 6 (by decide)
  rw [hje]
  exact kk j hj
set_option maxHeartbeats 4000000 in
set_option maxRecDepth 100000 in
theorem zl_l6 : ∀ L : Nat, L < 6 → Int32.ofNat L - 6 < 0 := by decide
set_option maxHeartbeats 4000000 in
set_option maxRecDepth 100000 in
theorem zl_23 {p : Program} {l : Launch} {e : Env} {s : State} {m : MethodId} {below : List Frame} {meth : Method} {c : Code} {b : Nat} {xs : Nat → Int32} {ad : Nat → Nat} {H : Heap} {locs : List Loc} {ls : Array Slot} {q9 : Nat} {Q : State → Prop} (hx : p.tables.exec = Jvm.exec) (hb : c.code = code) {L : Nat} (hL : L ≤ 6) (hX : va_X b L xs s s.heap) (hbl : b < s.heap.size) (hS : va_S (fun q => s.heap.size ≤ q) s.heap H locs) (hl : lv_has ls 7 [(4, .int 0), (3, .ref q9), (2, .ref (ad 102)), (1, .ref (ad 0)), (0, .ref b)])
    (k1 : L = 6 → W p l e room_1 s m #[Value.ref b] below meth c H locs 127 117458 Q (F0 m 33 ls [])) (k2 : W p l e room_1 s m #[Value.ref b] below meth c H locs 127 117458 Q (F0 m 1187 ls [])) : W p l e room_1 s m #[Value.ref b] below meth c H locs 127 117458 Q (F0 m 23 ls []) := by
  refine lv_iload hx hb (show decode code 23 = .ok (.iload 4, 2) by decide +kernel) (lv_at hl 0 rfl) ?_
  refine lv_aload_n hx hb (show decode code 25 = .ok (.aload_n 0, 1) by decide +kernel) rfl (lv_at hl 4 rfl) ?_
  refine va_slen (A := fun q => s.heap.size ≤ q) hx hb hX hbl (Nat.not_le.mpr hbl) hS (show decode code 26 = .ok (.arraylength, 1) by decide +kernel) ?_
  refine lv_bipush (v := 6) hx hb (show decode code 27 = .ok (.bipush 6, 2) by decide +kernel) (by decide) ?_
  refine lv_isub hx hb (show decode code 29 = .ok (.isub, 1) by decide +kernel) ?_
  refine lv_icmp_gt (tgt := 1187) hx hb (show decode code 30 = .ok (.if_icmp .gt 1157, 3) by decide +kernel) (by decide) (fun _ => k2) (fun q => k1 ?_)
  by_cases h : L = 6
  · exact h
  · exact absurd (zl_l6 L (by omega)) q
theorem whole_start {p : Program} {e : Env} {s : State} {m : MethodId} {below : List Frame} {meth : Method} {c : Code} (l : Launch) (hflags : l.flags = flags0) {b L : Nat} {xs : Nat → Int32} (hL : L ≤ 6) (C0 : lw_At p s m meth c b L xs) : W p l e room_1 s m #[Value.ref b] below meth c s.heap [] 0 0 (lw_Z below #[Value.ref b] s) (entryFrame m ([Value.ref b] : List Value).toArray 7) := by
  obtain ⟨hx, hb, hr, hml, hown, hts, hX, hbl, hlocks, hgv⟩ := C0
  have htr : l.stackTraces = false := by
    unfold Launch.stackTraces
    rw [hflags]
    decide
  have hF := xF_at hts hgv
  refine zl_init hx hb hml hown hts (fun D cy ad ws H locs ls q9 hst hR hP hD hS hl => ?_)
  refine zl_23 hx hb hL hX hbl hS hl (fun h6 => ?_) (zl_done hx hb hr hlocks (Nat.le_of_ble_eq_true rfl) (Nat.le_of_ble_eq_true rfl) hS)
  subst h6
  exact zl_33 hx hb hX hbl hS hl (fun j hj => zl_40 hx hb hml hown hts hX hbl hst hR hP hD hS hl (fun H1 locs1 cells slots ls1 hc hs hS1 hl1 => zl_exit hx hb hr hlocks hX hbl hc hs hS1 hl1) htr hF j hj)
