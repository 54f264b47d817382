/-! UNTIED -/
theorem zl_metU {l : Launch} {D : va_G} {cy : Nat → ClassId} {z : Nat} {ad : Nat → Nat} : zMt zSS 149 4 ∧ Met l (sY zSS 149) (wsO zSS 149) (zRm 12 0 0) (zPc zSS D cy z ad zu_h [.ref (ad 102)]) (zQ zSS D cy z ad zu_h.1 (fun r2 _ => zSame r2 (some (.inl 0)))) 0 0 (fun q => z ≤ q) := by
  have hG : zN zMs 149 = some ((1, 4), 0, 0, zc_149) := rfl
  have hrow := zs_rows 149 ((1, 4), 0, 0, zc_149) (by rw [← zN_eq]; exact hG)
  have hmt : zMt zSS 149 4 := zMtB_to hrow.1.1 hrow.1.2
  exact ⟨hmt, zs_met (G := zGG) (zP_ok 27) hG hmt zk_u2 ⟨_, _, rfl, ⟨rfl, fun k q => by cases q; exact Nat.le_of_ble_eq_true rfl⟩, rfl⟩ (by rw [hmt.2.1]; exact Nat.le_of_ble_eq_true rfl)⟩
set_option maxHeartbeats 4000000 in
set_option maxRecDepth 100000 in
theorem zl_op_untied {p : Program} {l : Launch} {e : Env} {s : State} {m : MethodId} {below : List Frame} {meth : Method} {c : Code} {b : Nat} {xs : Nat → Int32} {D : va_G} {cy : Nat → ClassId} {ad : Nat → Nat} {ws : va_W} {H : Heap} {locs : List Loc} {ls : Array Slot} {q9 : Nat} {Q : State → Prop} (hx : p.tables.exec = Jvm.exec) (hb : c.code = code) (hml : c.maxLocals = 7) (hown : s.vm.findClass R_law = some m.cls) (hts : ∀ w ∈ lw_tbl, w.before #[Value.ref b] s = true) (hX : va_X b 6 xs s s.heap) (hbl : b < s.heap.size) (hst : zStat zSS D cy s) (hR : zR ad cy zh0 ws) (hP : va_P D vwCl ws H) (hD : va_D (fun q => s.heap.size ≤ q) ws) (hS : va_S (fun q => s.heap.size ≤ q) s.heap H locs) (hl : lv_has ls 7 [(4, .int 0), (3, .ref q9), (2, .ref (ad 102)), (1, .ref (ad 0)), (0, .ref b)])
    (ex : ∀ (H1 : Heap) (locs1 : List Loc) (cells slots : Nat) (ls1 : Array Slot), cells ≤ 1000 → slots ≤ 500000 → va_S (fun q => s.heap.size ≤ q) s.heap H1 locs1 → lv_has ls1 7 [(4, .int 0), (0, .ref b)] → W p l e room_1 s m #[Value.ref b] below meth c H1 locs1 cells slots Q (F0 m 1181 ls1 [])) :
    W p l e room_1 s m #[Value.ref b] below meth c H locs 127 117458 Q (F0 m 680 ls []) := by
  refine lv_aload_n (i := 1) (x := ad 0) hx hb (show decode code 680 = .ok (.aload_n 1, 1) by decide +kernel) rfl (lv_at hl 3 rfl) ?_
  refine zl_callV (a := 87) (n := 0) (q := 0) (ec := 10) (T9 := TX10) (N9 := 10) (As := []) (rest := []) (ad := ad) (h := zh0) hx hb hml hown hts hst (show zN zMs 87 = some ((1, 1), 2, 2, zc_87) from rfl) zk_u1 (⟨_, _, rfl, ⟨rfl, fun k q => by cases q; exact Nat.le_of_ble_eq_true rfl⟩, rfl⟩) (Nat.le_of_ble_eq_true rfl) rfl rfl (List.mem_of_getElem? (i := 974) rfl) (List.mem_of_getElem? (i := 975) rfl) (List.mem_of_getElem? (i := 976) rfl) (by decide +kernel) rfl hR hP hD hS hl.1 (Nat.zero_le _) (by decide +kernel) ⟨Nat.le_of_ble_eq_true rfl, Nat.le_of_ble_eq_true rfl⟩ (fun r h1 v ad1 ws1 H1 locs1 hK1 hg1 hA1 hN1 hR1 hP1 hD1 hS1 => ?_)
  obtain ⟨hKa, hKh⟩ := zu_and hK1
  have hKh := zHeq_to hKh
  subst hKh
  obtain ⟨x, rfl, hx0⟩ := zSame_to (ad2 := ad) (n2 := 0) (v2 := some (.int (nI 0))) hKa hg1 rfl
  cases hx0
  have h102 : ad1 102 = ad 102 := hA1 102 (Nat.le_of_ble_eq_true rfl)
  refine lv_aload_n (i := 2) (x := ad 102) hx hb (show decode code 684 = .ok (.aload_n 2, 1) by decide +kernel) rfl (lv_at hl 2 rfl) ?_
  rw [← h102]
  obtain ⟨hmt, hM⟩ := zl_metU (l := l) (D := D) (cy := cy) (z := s.heap.size) (ad := ad1)
  obtain ⟨ee, he, hge⟩ := hR1.2.2 102 _ (show zGet zu_h 102 = some (.inl (11, _)) from rfl)
  obtain ⟨vs', rfl, -⟩ := hge
  refine zs_back (S := zSS) (h := zu_h) (va_runV (As := []) (rest := [.int (nI 0)]) (n := 0) ⟨hx, hb, hml, hown, hts⟩ hM ⟨callB_of 0 hts (zl_goodL hmt) rfl rfl rfl (hts _ (zWS_in _ hmt.2.2.2.2.1)) (hts (.methodLink R_law 90 (sY zSS 149)) (List.mem_of_getElem? (i := 1754) rfl)) ⟨hmt.2.2.2.2.2.1, hmt.2.2.2.2.2.2, by decide +kernel⟩ (zl_room (by rw [hmt.2.1]; exact hmt.2.2.1) rfl), hts (.instanceMethod (sY zSS 149)) (List.mem_of_getElem? (i := 1755) rfl), hts (.selects (sY zSS 149).cls (sY zSS 149) (sY zSS 149)) (List.mem_of_getElem? (i := 1756) rfl)⟩ ⟨zPc_blind, va_recv hst.1 hP1 (show vwCl[11]? = some (RX11, TX11, 57) from rfl) he, fun U hU hW => ⟨rfl, zStat_warm hW hst, by rw [hU]; exact hS1.1, ws1, hR1, by rw [hU]; exact hP1, hD1⟩⟩ rfl rfl hl.1 rfl (lv_room (Nat.le_of_ble_eq_true rfl)) (show decode code 685 = .ok (.invokevirtual 90, 3) by decide +kernel) ⟨Nat.le_of_ble_eq_true rfl, Nat.le_of_ble_eq_true rfl⟩) hS1 (fun r2 h2 v2 ad2 ws2 H2 locs2 hK2 hg2 hA2 hN2 hR2 hP2 hD2 hS2 => ?_)
  obtain ⟨x2, rfl, hx2⟩ := zSame_to (ad2 := ad) (n2 := 0) (v2 := some (.int (nI 0))) hK2 hg2 rfl
  cases hx2
  exact lv_icmp_eq (tgt := 1181) hx hb (show decode code 688 = .ok (.if_icmp .eq 493, 3) by decide +kernel) (by decide) (fun _ => ex H2 locs2 _ _ ls (Nat.le_of_ble_eq_true rfl) (Nat.le_of_ble_eq_true rfl) hS2 (lv_sub hl [0, 4] rfl)) (fun q => absurd rfl q)
