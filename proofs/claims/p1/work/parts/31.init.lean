/-! THE LAW: its end, its beginning -/
theorem zl_blank (k : Nat) (hk : k = 10 ∨ k = 11) : zNew (0, []) (zBlank k) (fun h => zHeq h (1, [[zBlank k]])) = true := by
  rcases hk with rfl | rfl <;> decide +kernel
theorem zl_empty {ad : Nat → Nat} {cy : Nat → ClassId} : zR ad cy (0, []) [] := by
  refine ⟨rfl, fun k p h => by simp at h, fun k c h => ?_⟩
  rw [zGet_eq] at h
  simp at h
theorem zVoid_to {ad : Nat → Nat} {n : Nat} {r : Option zV} {B : Bool} {v : Option Value} (h : zVoid r B = true) (hg : zGo ad n r v) : v = none ∧ B = true := by
  match r, v, h, hg with
  | none, none, h, _ => exact ⟨rfl, h⟩
theorem zl_dv10 : ∀ j, j < 10 → defaultValue (tyX10 j) = vp_V (((zDf[10]?).getD []).map zDv) j := by decide +kernel
theorem zl_dv11 : ∀ j, j < 57 → defaultValue (tyX11 j) = vp_V (((zDf[11]?).getD []).map zDv) j := by decide +kernel
theorem zl_bl10 : ∀ a ∈ (zDf[10]?).getD [], zBl a := zs_bl10
theorem zl_bl11 : ∀ a ∈ (zDf[11]?).getD [], zBl a := zs_bl11
section Zi
variable {p : Program} {l : Launch} {e : Env} {s : State} {m : MethodId} {below : List Frame} {meth : Method} {c : Code} {b L : Nat} {xs : Nat → Int32}
/-- the law's last rows: 1 -/
theorem zl_done (hx : p.tables.exec = Jvm.exec) (hb : c.code = code) (hr : meth.sig.returnType = ret) (hlocks : meth.locks = false) {H : Heap} {locs : List Loc} {ls : Array Slot} {cells slots : Nat} (hc : cells ≤ 1000) (hs : slots ≤ 500000) (hS : va_S (fun q => s.heap.size ≤ q) s.heap H locs) :
    W p l e room_1 s m #[Value.ref b] below meth c H locs cells slots (lw_Z below #[Value.ref b] s) (F0 m 1187 ls []) := by
  refine va_forget hS.2.2 ?_
  refine W.widen (Nat.le_trans hc (show 1000 ≤ 600002 from Nat.le_of_ble_eq_true rfl)) (Nat.le_trans hs (show 500000 ≤ 7302232 from Nat.le_of_ble_eq_true rfl)) ?_
  refine lv_iconst (v := 1) hx hb (show decode code 1187 = .ok (.iconst 1, 1) by decide +kernel) (by decide) ?_
  exact lw_ret hx hb hr hlocks (show decode code 1188 = .ok (.ireturn, 1) by decide +kernel)
/-- behind a call: once round the loop, and out -/
theorem zl_exit (hx : p.tables.exec = Jvm.exec) (hb : c.code = code) (hr : meth.sig.returnType = ret) (hlocks : meth.locks = false) (hX : va_X b 6 xs s s.heap) (hbl : b < s.heap.size) {H : Heap} {locs : List Loc} {ls : Array Slot} {cells slots : Nat} (hc : cells ≤ 1000) (hs : slots ≤ 500000) (hS : va_S (fun q => s.heap.size ≤ q) s.heap H locs) (hl : lv_has ls 7 [(4, .int 0), (0, .ref b)]) :
    W p l e room_1 s m #[Value.ref b] below meth c H locs cells slots (lw_Z below #[Value.ref b] s) (F0 m 1181 ls []) := by
  refine lv_iinc (k := 0) (v := 6) (lv' := [(4, .int 6), (0, .ref b)]) hx hb (show decode code 1181 = .ok (.iinc 4 6, 3) by decide +kernel) hl rfl (by decide) (by decide) rfl (fun ls hl => ?_)
  refine lv_goto (tgt := 23) hx hb (show decode code 1184 = .ok (.goto (-1161), 3) by decide +kernel) (by decide) ?_
  refine lv_iload hx hb (show decode code 23 = .ok (.iload 4, 2) by decide +kernel) (lv_at hl 0 rfl) ?_
  refine lv_aload_n hx hb (show decode code 25 = .ok (.aload_n 0, 1) by decide +kernel) rfl (lv_at hl 1 rfl) ?_
  refine va_slen (A := fun q => s.heap.size ≤ q) hx hb hX hbl (Nat.not_le.mpr hbl) hS (show decode code 26 = .ok (.arraylength, 1) by decide +kernel) ?_
  refine lv_bipush (v := 6) hx hb (show decode code 27 = .ok (.bipush 6, 2) by decide +kernel) (by decide) ?_
  refine lv_isub hx hb (show decode code 29 = .ok (.isub, 1) by decide +kernel) ?_
  refine lv_icmp_gt (tgt := 1187) hx hb (show decode code 30 = .ok (.if_icmp .gt 1157, 3) by decide +kernel) (by decide) (fun _ => ?_) (fun q => absurd (by decide) q)
  exact zl_done hx hb hr hlocks hc hs hS
set_option maxHeartbeats 4000000 in
set_option maxRecDepth 100000 in
/-- from the entry to the loop: the pair is made -/
theorem zl_init (hx : p.tables.exec = Jvm.exec) (hb : c.code = code) (hml : c.maxLocals = 7) (hown : s.vm.findClass R_law = some m.cls) (hts : ∀ w ∈ lw_tbl, w.before #[Value.ref b] s = true) {Q : State → Prop}
    (kk : ∀ (D : va_G) (cy : Nat → ClassId) (ad : Nat → Nat) (ws : va_W) (H : Heap) (locs : List Loc) (ls : Array Slot) (q9 : Nat), zStat zSS D cy s → zR ad cy zh0 ws → va_P D vwCl ws H → va_D (fun q => s.heap.size ≤ q) ws → va_S (fun q => s.heap.size ≤ q) s.heap H locs → lv_has ls 7 [(4, .int 0), (3, .ref q9), (2, .ref (ad 102)), (1, .ref (ad 0)), (0, .ref b)] → W p l e room_1 s m #[Value.ref b] below meth c H locs 127 117458 Q (F0 m 23 ls [])) :
    W p l e room_1 s m #[Value.ref b] below meth c s.heap [] 0 0 Q (entryFrame m ([Value.ref b] : List Value).toArray 7) := by
  obtain ⟨D, cy, hst⟩ := zl_stat hts
  have hA : ∀ q : Nat, s.heap.size ≤ q → (fun q : Nat => s.heap.size ≤ q) q := fun _ h => h
  have hS : va_S (fun q : Nat => s.heap.size ≤ q) s.heap s.heap [] := va_S.rf
  have hP : va_P D vwCl [] s.heap := fun k q h => by simp at h
  have hD : va_D (fun q : Nat => s.heap.size ≤ q) [] := ⟨fun i j p q h => by simp at h, fun k q h => by simp at h⟩
  have hl := lv_entry ([.ref b]) (n := 7) (Nat.le_of_ble_eq_true rfl)
  rw [lg_entry_eq]
  generalize (lg_sl ([.ref b]) ++ List.replicate (7 - (lg_sl ([.ref b])).length) Slot.unset).toArray = ls at hl ⊢
  have hl : lv_has ls 7 [(0, .ref b)] := hl
  -- the class
  refine va_new (ci := 10) (fs := ((zDf[10]?).getD []).map zDv) (C := RX10) (T := TX10) (N := 10) hx hb hts (fun w h => zWS_in _ ((zs_cls 10 RX10 TX10 10 rfl).1 w h)) tyX10 tyX10_ok hown (hts (.classLink R_law 8 RX10) (List.mem_of_getElem? (i := 137) rfl)) (hts _ (zWS_in _ zs_in1_10)) (hts _ (zWS_in _ zs_in2_10)) hst.1 hP hD hS hA rfl zl_dv10 (Nat.le_of_ble_eq_true rfl) (Nat.le_of_ble_eq_true rfl) (show decode code 0 = .ok (.new 8, 3) by decide +kernel) (fun q0 H hP hD hS => ?_)
  obtain ⟨hh, hk0, e1, e2⟩ := zNew_to (zl_blank 10 (Or.inl rfl))
  have hk0 := zHeq_to hk0
  subst hk0
  have hR := zR_add (ad := fun _ => 0) (cy := cy) (q := q0) zl_empty e1 e2 (e := .inr (10, ((zDf[10]?).getD []).map zDv)) ⟨_, rfl, zs_blank _ zl_bl10⟩
  generalize hadn : zAd (fun _ => 0) ((0, []) : zHp).1 q0 = ad at hR
  have hq0 : ad 0 = q0 := by rw [← hadn]; exact zAd_new
  rw [← hq0]
  refine lv_dup hx hb (show decode code 3 = .ok (.dup, 1) by decide +kernel) rfl ?_
  refine zl_callI (a := 53) (q := 0) (ad := ad) hx hb hml hown hts hst (show zN zMs 53 = some ((1, 1), 101, 5297, zc_53) from rfl) zk_ctor ⟨_, _, rfl, ⟨rfl, fun k q => by cases q; exact Nat.le_of_ble_eq_true rfl⟩, rfl⟩ (Nat.le_refl _) rfl rfl (List.mem_of_getElem? (i := 139) rfl) (List.mem_of_getElem? (i := 140) rfl) (by decide +kernel) hR hP hD hS hl.1 (Nat.le_of_ble_eq_true rfl) (show decode code 4 = .ok (.invokespecial 18, 3) by decide +kernel) ⟨Nat.le_of_ble_eq_true rfl, Nat.le_of_ble_eq_true rfl⟩ (fun r h1 v ad1 ws1 H1 locs1 hK1 hg1 hA1 hN1 hR1 hP1 hD1 hS1 => ?_)
  obtain ⟨rfl, hK1⟩ := zVoid_to hK1 hg1
  have h01 : ad1 0 = ad 0 := hA1 0 (Nat.le_of_ble_eq_true rfl)
  cases hn1 : Nat.beq h1.1 102 with
  | false => rw [hn1] at hK1; cases hK1
  | true =>
  rw [hn1, cond_true] at hK1
  have hn1 : h1.1 = 102 := Nat.eq_of_beq_eq_true hn1
  obtain ⟨h2, hK1, e1, e2⟩ := zNew_to hK1
  rw [← h01]
  show W p l e room_1 s m #[Value.ref b] below meth c H1 locs1 (0 + 1 + 101) (0 + 10 + 5297) Q (F0 m 7 ls [.ref (ad1 0)])
  refine lv_astore_n (lv' := [(1, .ref (ad1 0)), (0, .ref b)]) hx hb (show decode code 7 = .ok (.astore_n 1, 1) by decide +kernel) rfl hl (by decide) rfl (fun ls hl => ?_)
  -- the reference
  refine va_new (ci := 11) (fs := ((zDf[11]?).getD []).map zDv) (C := RX11) (T := TX11) (N := 57) hx hb hts (fun w h => zWS_in _ ((zs_cls 11 RX11 TX11 57 rfl).1 w h)) tyX11 tyX11_ok hown (hts (.classLink R_law 19 RX11) (List.mem_of_getElem? (i := 1351) rfl)) (hts _ (zWS_in _ zs_in1_11)) (hts _ (zWS_in _ zs_in2_11)) hst.1 hP1 hD1 hS1 hA rfl zl_dv11 (Nat.le_of_ble_eq_true rfl) (Nat.le_of_ble_eq_true rfl) (show decode code 8 = .ok (.new 19, 3) by decide +kernel) (fun q1 H2 hP2 hD2 hS2 => ?_)
  have hR2 := zR_add (q := q1) hR1 e1 e2 (e := .inr (11, ((zDf[11]?).getD []).map zDv)) ⟨_, rfl, zs_blank _ zl_bl11⟩
  generalize hadn2 : zAd ad1 h1.1 q1 = ad2 at hR2
  have hq1 : ad2 102 = q1 := by rw [← hadn2, hn1]; exact zAd_new
  have h02 : ad2 0 = ad1 0 := by rw [← hadn2]; exact zAd_old 0 (by omega)
  rw [← hq1]
  rw [← h02] at hl
  refine lv_dup hx hb (show decode code 11 = .ok (.dup, 1) by decide +kernel) rfl ?_
  refine zl_callI (a := 91) (q := 102) (ad := ad2) hx hb hml hown hts hst (show zN zMs 91 = some ((1, 1), 23, 112093, zc_91) from rfl) hK1 ⟨_, _, rfl, ⟨rfl, fun k q => by cases q; omega⟩, rfl⟩ (Nat.le_refl _) rfl rfl (List.mem_of_getElem? (i := 1352) rfl) (List.mem_of_getElem? (i := 1353) rfl) (by decide +kernel) hR2 hP2 hD2 hS2 hl.1 (Nat.le_of_ble_eq_true rfl) (show decode code 12 = .ok (.invokespecial 21, 3) by decide +kernel) ⟨Nat.le_of_ble_eq_true rfl, Nat.le_of_ble_eq_true rfl⟩ (fun r3 h3 v3 ad3 ws3 H3 locs3 hK3 hg3 hA3 hN3 hR3 hP3 hD3 hS3 => ?_)
  obtain ⟨rfl, hK3⟩ := zVoid_to hK3 hg3
  have hK3 := zHeq_to hK3
  subst hK3
  have h03 : ad3 0 = ad2 0 := hA3 0 (by omega)
  have h13 : ad3 102 = ad2 102 := hA3 102 (by omega)
  rw [← h13]
  rw [← h03] at hl
  show W p l e room_1 s m #[Value.ref b] below meth c H3 locs3 (0 + 1 + 101 + 1 + 23) (0 + 10 + 5297 + 57 + 112093) Q (F0 m 15 ls [.ref (ad3 102)])
  refine lv_astore_n (lv' := [(2, .ref (ad3 102)), (1, .ref (ad3 0)), (0, .ref b)]) hx hb (show decode code 15 = .ok (.astore_n 2, 1) by decide +kernel) rfl hl (by decide) rfl (fun ls hl => ?_)
  refine lv_iconst (v := 1) hx hb (show decode code 16 = .ok (.iconst 1, 1) by decide +kernel) (by decide) ?_
  refine va_newa (atype := .long) (ty := .long) (a0 := (1, .inr (.inl (fun _ => 0)))) hx hb (hts _ (zWS_in _ zs_ac.2.2.1)) rfl hst.1 hP3 hD3 hS3 hA (fun cA => rfl) (by decide) (by decide) (by decide) (Nat.le_of_ble_eq_true rfl) (Nat.le_of_ble_eq_true rfl) (show decode code 17 = .ok (.newarray .long, 2) by decide +kernel) (fun q9 cA H4 hK4 hP4 hD4 hS4 => ?_)
  have hP5 : va_P D vwCl ws3 H4 := fun k q h => hP4 k q (by rw [List.getElem?_append_left (List.getElem?_eq_some_iff.mp h).1]; exact h)
  refine lv_astore_n (lv' := [(3, .ref q9), (2, .ref (ad3 102)), (1, .ref (ad3 0)), (0, .ref b)]) hx hb (show decode code 19 = .ok (.astore_n 3, 1) by decide +kernel) rfl hl (by decide) rfl (fun ls hl => ?_)
  refine lv_iconst (v := 0) hx hb (show decode code 20 = .ok (.iconst 0, 1) by decide +kernel) (by decide) ?_
  refine lv_istore (lv' := [(4, .int 0), (3, .ref q9), (2, .ref (ad3 102)), (1, .ref (ad3 0)), (0, .ref b)]) hx hb (show decode code 21 = .ok (.istore 4, 2) by decide +kernel) hl (by decide) rfl (fun ls hl => ?_)
  exact kk D cy ad3 ws3 H4 _ ls q9 hst hR3 hP5 hD3 hS4 hl
end Zi
