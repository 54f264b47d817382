/-! THE LAW, WHOLE (printed by wip/whole/y/gen200.py) -/
set_option maxRecDepth 100000 in
theorem yl_hdt : decode code 40 = .ok (.tableswitch 1085 0 34 #[156, 229, 254, 267, 280, 320, 360, 397, 422, 447, 472, 497, 534, 547, 584, 597, 622, 635, 648, 673, 686, 723, 784, 809, 834, 847, 872, 909, 922, 947, 972, 985, 1010, 1035, 1060], 156) := by decide +kernel
def yl_tg (k : Nat) : Nat := ([196, 269, 294, 307, 320, 360, 400, 437, 462, 487, 512, 537, 574, 587, 624, 637, 662, 675, 688, 713, 726, 763, 824, 849, 874, 887, 912, 949, 962, 987, 1012, 1025, 1050, 1075, 1100] : List Nat).getD k 0
set_option maxRecDepth 100000 in
theorem yl_offs : ∀ k : Nat, k < 35 → (¬ (nI k).toInt < 0 ∧ ¬ (34 : Int) < (nI k).toInt ∧ (#[156, 229, 254, 267, 280, 320, 360, 397, 422, 447, 472, 497, 534, 547, 584, 597, 622, 635, 648, 673, 686, 723, 784, 809, 834, 847, 872, 909, 922, 947, 972, 985, 1010, 1035, 1060] : Array Int)[((nI k).toInt - 0).toNat]? = some ((yl_tg k : Int) - 40)) := by decide +kernel
section Yw
variable {p : Program} {l : Launch} {e : Env} {s : State} {m : MethodId} {below : List Frame} {meth : Method} {c : Code} {b L : Nat} {xs : Nat → Int32} {D : va_G} {cy : Nat → ClassId} {Q : State → Prop}
set_option maxHeartbeats 4000000 in
set_option maxRecDepth 100000 in
theorem yl_ops {ad : Nat → Nat} {N ns i cells slots : Nat} {T : Nat → Nat × Nat} {R : Nat → Nat → Option Nat} {I : Nat → Nat → Int} {H : Heap} {locs : List Loc} {ls : Array Slot} (X : lwX p l s m c b L xs D cy) (hi : i + 6 ≤ L) (S : lwS s D cy ad (N, T, R, I) H locs) (w : wInv N T R I ns) (hl : lv_has ls 7 [(4, .int (nI i)), (3, .ref (ad 126)), (2, .ref (ad 102)), (1, .ref (ad 0)), (0, .ref b)]) (hc : cells + 32 ≤ 601024) (hs : slots + gPt ns + 4431 ≤ 7293034)
    (ex : lwEx p l e s m below meth c b D cy Q i cells (slots + gPt ns + 4431)) : ∀ k : Nat, k < 35 → W p l e room_1 s m #[Value.ref b] below meth c H locs cells slots Q (F0 m (yl_tg k) ls []) := by
  intro k hk
  match k, hk with
  | 0, _ => exact yl_op_feed X hi S w hl hc hs ex
  | 1, _ => exact yl_op_end X hi S w hl hc hs ex
  | 2, _ => exact yl_op_alleys X hi S w hl hc hs ex
  | 3, _ => exact yl_op_fault X hi S w hl hc hs ex
  | 4, _ => exact yl_op_chair X hi S w hl hc hs ex
  | 5, _ => exact yl_op_cell X hi S w hl hc hs ex
  | 6, _ => exact yl_op_way X hi S w hl hc hs ex
  | 7, _ => exact yl_op_next X hi S w hl hc hs ex
  | 8, _ => exact yl_op_order X hi S w hl hc hs ex
  | 9, _ => exact yl_op_on X hi S w hl hc hs ex
  | 10, _ => exact yl_op_now X hi S w hl hc hs ex
  | 11, _ => exact yl_op_met X hi S w hl hc hs ex
  | 12, _ => exact yl_op_undo X hi S w hl hc hs ex
  | 13, _ => exact yl_op_lane X hi S w hl hc hs ex
  | 14, _ => exact yl_op_untied X hi S w hl hc hs ex
  | 15, _ => exact yl_op_step X hi S w hl hc hs ex
  | 16, _ => exact yl_op_oneWay X hi S w hl hc hs ex
  | 17, _ => exact yl_op_last X hi S w hl hc hs ex
  | 18, _ => exact yl_op_invited X hi S w hl hc hs ex
  | 19, _ => exact yl_op_began X hi S w hl hc hs ex
  | 20, _ => exact yl_op_lent X hi S w hl hc hs ex
  | 21, _ => exact yl_op_torches X hi S w hl hc hs ex
  | 22, _ => exact yl_op_voted X hi S w hl hc hs ex
  | 23, _ => exact yl_op_when X hi S w hl hc hs ex
  | 24, _ => exact yl_op_latest X hi S w hl hc hs ex
  | 25, _ => exact yl_op_drawn X hi S w hl hc hs ex
  | 26, _ => exact yl_op_odds X hi S w hl hc hs ex
  | 27, _ => exact yl_op_plan X hi S w hl hc hs ex
  | 28, _ => exact yl_op_judge X hi S w hl hc hs ex
  | 29, _ => exact yl_op_judged X hi S w hl hc hs ex
  | 30, _ => exact yl_op_sentence X hi S w hl hc hs ex
  | 31, _ => exact yl_op_said X hi S w hl hc hs ex
  | 32, _ => exact yl_op_image X hi S w hl hc hs ex
  | 33, _ => exact yl_op_restore X hi S w hl hc hs ex
  | 34, _ => exact yl_op_count X hi S w hl hc hs ex
  | k + 35, h => exact absurd h (by omega)
theorem yl_40 {ad : Nat → Nat} {N ns i cells slots : Nat} {T : Nat → Nat × Nat} {R : Nat → Nat → Option Nat} {I : Nat → Nat → Int} {H : Heap} {locs : List Loc} {ls : Array Slot} (X : lwX p l s m c b L xs D cy) (hi : i + 6 ≤ L) (S : lwS s D cy ad (N, T, R, I) H locs) (w : wInv N T R I ns) (hl : lv_has ls 7 [(4, .int (nI i)), (3, .ref (ad 126)), (2, .ref (ad 102)), (1, .ref (ad 0)), (0, .ref b)]) (hc : cells + 32 ≤ 601024) (hs : slots + gPt ns + 4431 ≤ 7293034)
    (ex : lwEx p l e s m below meth c b D cy Q i cells (slots + gPt ns + 4431)) (j : Nat) (hj : j < 64) : W p l e room_1 s m #[Value.ref b] below meth c H locs cells slots Q (F0 m 40 ls [.int (nI j)]) := by
  have hx := X.1
  have hb := X.2.1
  by_cases h34 : j < 35
  · obtain ⟨o1, o2, o3⟩ := yl_offs j h34
    exact lv_tableIn (tgt := yl_tg j) hx hb yl_hdt o1 o2 o3 (by omega) (yl_ops X hi S w hl hc hs ex j h34)
  · have hjt : (nI j).toInt = (j : Int) := Int32.toInt_ofNat_of_lt (by omega)
    exact lv_tableOut (tgt := 1125) hx hb yl_hdt (Or.inr (by rw [hjt]; omega)) (by decide) (ex ad N ns _ _ T R I H locs ls S w hl (Nat.le_add_right _ _) (by omega))
set_option maxRecDepth 100000 in
theorem yl_33 {ad : Nat → Nat} {N ns i cells slots : Nat} {T : Nat → Nat × Nat} {R : Nat → Nat → Option Nat} {I : Nat → Nat → Int} {H : Heap} {locs : List Loc} {ls : Array Slot} (X : lwX p l s m c b L xs D cy) (hi : i + 6 ≤ L) (S : lwS s D cy ad (N, T, R, I) H locs) (w : wInv N T R I ns) (hl : lv_has ls 7 [(4, .int (nI i)), (3, .ref (ad 126)), (2, .ref (ad 102)), (1, .ref (ad 0)), (0, .ref b)]) (hc : cells + 32 ≤ 601024) (hs : slots + gPt ns + 4431 ≤ 7293034)
    (ex : lwEx p l e s m below meth c b D cy Q i cells (slots + gPt ns + 4431)) : W p l e room_1 s m #[Value.ref b] below meth c H locs cells slots Q (F0 m 33 ls []) := by
  obtain ⟨hx, hb, -, -, -, hX, hbl, -, -, -, hL⟩ := id X
  obtain ⟨ws, hR, hP, hD, hS⟩ := id S
  refine lv_aload_n hx hb (show decode code 33 = .ok (.aload_n 0, 1) by decide +kernel) rfl (lv_at hl 4 rfl) ?_
  refine lv_iload hx hb (show decode code 34 = .ok (.iload 4, 2) by decide +kernel) (lv_at hl 0 rfl) ?_
  refine va_sld (A := fun q => s.heap.size ≤ q) hx hb hX hbl (Nat.not_le.mpr hbl) hS (vp_in_iff.mpr (by rw [nI_toInt (by omega)]; omega)) (show decode code 36 = .ok (.iaload, 1) by decide +kernel) ?_
  refine lv_bipush (v := 63) hx hb (show decode code 37 = .ok (.bipush 63, 2) by decide +kernel) (by decide) ?_
  refine lv_iand hx hb (show decode code 39 = .ok (.iand, 1) by decide +kernel) ?_
  obtain ⟨j, hj, hje⟩ := pk_andE (xs (Int32.toNatClampNeg (nI i))) (m := 63) 6 (by decide)
  rw [hje]
  exact yl_40 X hi S w hl hc hs ex j hj
theorem yl_sub {L : Nat} (h : L ≤ 3072) : (nI L - 6).toInt = (L : Int) - 6 := by
  have e := ysub_eq (x := (L : Int)) (y := 6) (by omega) (by omega)
  rw [← e]
  unfold ysub y32
  rw [Int32.ofInt_eq_ofNat]
  rfl
set_option maxRecDepth 100000 in
theorem yl_done (hx : p.tables.exec = Jvm.exec) (hb : c.code = code) (hr : meth.sig.returnType = ret) (hlocks : meth.locks = false) {H : Heap} {locs : List Loc} {ls : Array Slot} {cells slots : Nat} (hc : cells ≤ 601024) (hs : slots ≤ 7293034) (hS : va_S (fun q => s.heap.size ≤ q) s.heap H locs) :
    W p l e room_1 s m #[Value.ref b] below meth c H locs cells slots (lw_Z below #[Value.ref b] s) (F0 m 1131 ls []) := by
  refine va_forget hS.2.2 ?_
  refine W.widen hc hs ?_
  refine lv_iconst (v := 1) hx hb (show decode code 1131 = .ok (.iconst 1, 1) by decide +kernel) (by decide) ?_
  exact lw_ret hx hb hr hlocks (show decode code 1132 = .ok (.ireturn, 1) by decide +kernel)
set_option maxRecDepth 100000 in
/-- the loop: k calls may still come -/
theorem yl_loop (X : lwX p l s m c b L xs D cy) (hr : meth.sig.returnType = ret) (hlocks : meth.locks = false) : ∀ (k : Nat) (ad : Nat → Nat) (N ns i cells slots : Nat) (T : Nat → Nat × Nat) (R : Nat → Nat → Option Nat) (I : Nat → Nat → Int) (H : Heap) (locs : List Loc) (ls : Array Slot), L < i + 6 * (k + 1) → i ≤ 3072 + 6 → lwS s D cy ad (N, T, R, I) H locs → wInv N T R I ns → lv_has ls 7 [(4, .int (nI i)), (3, .ref (ad 126)), (2, .ref (ad 102)), (1, .ref (ad 0)), (0, .ref b)] → cells + 32 * k ≤ 601024 → slots + gPt ns + 4431 * k ≤ 7293034 → W p l e room_1 s m #[Value.ref b] below meth c H locs cells slots (lw_Z below #[Value.ref b] s) (F0 m 23 ls []) := by
  obtain ⟨hx, hb, -, -, -, hX, hbl, -, -, -, hL⟩ := id X
  intro k
  induction k with
  | zero =>
    intro ad N ns i cells slots T R I H locs ls h1 h2 S w hl hc hs
    obtain ⟨ws, hR, hP, hD, hS⟩ := S
    refine lv_iload hx hb (show decode code 23 = .ok (.iload 4, 2) by decide +kernel) (lv_at hl 0 rfl) ?_
    refine lv_aload_n hx hb (show decode code 25 = .ok (.aload_n 0, 1) by decide +kernel) rfl (lv_at hl 4 rfl) ?_
    refine va_slen (A := fun q => s.heap.size ≤ q) hx hb hX hbl (Nat.not_le.mpr hbl) hS (show decode code 26 = .ok (.arraylength, 1) by decide +kernel) ?_
    refine lv_bipush (v := 6) hx hb (show decode code 27 = .ok (.bipush 6, 2) by decide +kernel) (by decide) ?_
    refine lv_isub hx hb (show decode code 29 = .ok (.isub, 1) by decide +kernel) ?_
    refine lv_icmp_gt (tgt := 1131) hx hb (show decode code 30 = .ok (.if_icmp .gt 1101, 3) by decide +kernel) (by decide) (fun _ => yl_done hx hb hr hlocks (by omega) (by omega) hS) (fun q => absurd ?_ q)
    refine Int32.lt_iff_toInt_lt.mpr ?_
    rw [show (Int32.ofNat L - 6).toInt = (L : Int) - 6 from yl_sub hL, nI_toInt (by omega)]
    omega
  | succ k ih =>
    intro ad N ns i cells slots T R I H locs ls h1 h2 S w hl hc hs
    obtain ⟨ws, hR, hP, hD, hS⟩ := id S
    refine lv_iload hx hb (show decode code 23 = .ok (.iload 4, 2) by decide +kernel) (lv_at hl 0 rfl) ?_
    refine lv_aload_n hx hb (show decode code 25 = .ok (.aload_n 0, 1) by decide +kernel) rfl (lv_at hl 4 rfl) ?_
    refine va_slen (A := fun q => s.heap.size ≤ q) hx hb hX hbl (Nat.not_le.mpr hbl) hS (show decode code 26 = .ok (.arraylength, 1) by decide +kernel) ?_
    refine lv_bipush (v := 6) hx hb (show decode code 27 = .ok (.bipush 6, 2) by decide +kernel) (by decide) ?_
    refine lv_isub hx hb (show decode code 29 = .ok (.isub, 1) by decide +kernel) ?_
    refine lv_icmp_gt (tgt := 1131) hx hb (show decode code 30 = .ok (.if_icmp .gt 1101, 3) by decide +kernel) (by decide) (fun _ => yl_done hx hb hr hlocks (by omega) (by omega) hS) (fun q => ?_)
    have hi : i + 6 ≤ L := by
      have q := mt Int32.lt_iff_toInt_lt.mpr q
      rw [show (Int32.ofNat L - 6).toInt = (L : Int) - 6 from yl_sub hL, nI_toInt (by omega)] at q
      omega
    refine yl_33 X hi S w hl (by omega) (by omega) (fun ad' N' ns' cells' slots' T' R' I' H' locs' ls' S' w' hl' hc' hs' => ?_)
    refine lv_iinc (k := 0) (v := nI (i + 6)) (lv' := [(4, .int (nI (i + 6))), (3, .ref (ad' 126)), (2, .ref (ad' 102)), (1, .ref (ad' 0)), (0, .ref b)]) hx hb (show decode code 1125 = .ok (.iinc 4 6, 3) by decide +kernel) hl' rfl (nI_add i 6) (by decide) rfl (fun ls2 hl2 => ?_)
    refine lv_goto (tgt := 23) hx hb (show decode code 1128 = .ok (.goto (-1105), 3) by decide +kernel) (by decide) ?_
    exact ih ad' N' ns' (i + 6) cells' slots' T' R' I' H' locs' ls2 (by omega) (by omega) S' w' hl2 (by omega) (by omega)
end Yw
theorem whole_start {p : Program} {e : Env} {s : State} {m : MethodId} {below : List Frame} {meth : Method} {c : Code} (l : Launch) (hflags : l.flags = flags0) {b L : Nat} {xs : Nat → Int32} (hL : L ≤ 3072) (C0 : lw_At p s m meth c b L xs) : W p l e room_1 s m #[Value.ref b] below meth c s.heap [] 0 0 (lw_Z below #[Value.ref b] s) (entryFrame m ([Value.ref b] : List Value).toArray 7) := by
  obtain ⟨hx, hb, hr, hml, hown, hts, hX, hbl, hlocks, hgv⟩ := C0
  have htr : l.stackTraces = false := by
    unfold Launch.stackTraces
    rw [hflags]
    decide
  obtain ⟨D, cy, hst⟩ := yl_stat hts
  have X : lwX p l s m c b L xs D cy := ⟨hx, hb, hml, hown, hts, hX, hbl, hst, ⟨Nat.le_refl _, zTx_at hts hgv, xF_at hts hgv⟩, htr, hL⟩
  refine yl_init X (fun ad T R I H ls locs S w hl => ?_)
  have key : ∀ G : Nat, G ≤ 1100000 → 117458 + G + 4431 * 512 ≤ 7293034 := fun G h => by omega
  exact yl_loop X hr hlocks 512 ad 127 0 0 127 117458 T R I H locs ls (by omega) (by omega) S w hl (by decide) (key _ gPt_0)
