/-! THE LAW: chair and cell, which may throw (printed by wip/whole/y/gen200.py) -/
theorem ys_metX {l : Launch} {D : va_G} {cy : Nat → ClassId} {z : Nat} {a ml mc ms d' : Nat} (hmt : zMt zSS a ml) {lo' : yL} {K' : yKo} {h : yHp} {ad : Nat → Nat} {vs : List Value} (hk : yW l zSS D cy zFk z d' a mc ms K' 0 0 0 lo' [] h) (hlo : yGl ad h.1 lo' (lv_args 0 vs)) (hlen : (lg_sl vs).length ≤ sM zSS a) :
    vx_Met l (sY zSS a) (wsO zSS a) (zRm d' mc ms) (yPc zSS D cy zFk z ad h vs) (yQ zSS D cy zFk z ad h.1 K') (yXC zSS D cy zFk z a ad h.1 K') mc ms (fun q => z ≤ q) := by
  refine vx_ofW (cc := sC zSS a) (maxL := sM zSS a) (ret := sR zSS a) hmt.1 rfl ?_
  intro p e s m args below meth c s₁ B hml ht hv
  obtain ⟨rfl, hst, hz, ws, hR, hP, hD⟩ := hv
  have hctx : zCtx zSS D cy z a p s m vs.toArray meth c := ⟨B.exec, B.bytes, hml, B.returns, findClass_of_methodNamed B.named, atoms_spec (ws := wsO zSS a) B.pre, B.notSynchronized, (name_of_methodNamed B.named B.method).1, hst, hz, ht⟩
  rw [lg_entry_eq]
  exact hk p e s m vs.toArray below meth c hctx ad h.1 ad (fun _ _ => rfl) (Nat.le_refl _) ⟨Nat.zero_le _, Nat.zero_le _⟩ s.heap [] _ _ [] ws hR hP hD va_S.rf (lv_entry vs hlen) hlo rfl
theorem yl_backX {l : Launch} {D : va_G} {cy : Nat → ClassId} {z : Nat} {p : Program} {e : Env} {s : State} {m : MethodId} {args : Array Value} {below : List Frame} {meth : Method} {c : Code} {H : Heap} {locs : List Loc} {R : Room} {Q : State → Prop} {nc ns mc ms pc mi : Nat} {ls : Array Slot} {st0 rest : List Value} {ad : Nat → Nat} {h : yHp} {K' : yKo} {a' : Array Value}
    (hr : vx_Run p l e R s m args below meth c H locs nc ns mc ms (F0 m pc ls st0) rest (yQ zSS D cy zFk z ad h.1 K' a') (yXC zSS D cy zFk z mi ad h.1 K') (fun q => z ≤ q)) (hS : va_S (fun q => z ≤ q) s.heap H locs)
    (kx : ∀ (ce : Cell) (q9 : Addr) (h' : yHp) (ad' : Nat → Nat) (ws' : va_W) (H1 : Heap) (locs1 : List Loc), K' (some (yr none)) h' → (∀ k, k < h.1 → ad' k = ad k) → h.1 ≤ h'.1 → yRel ad' cy zFk h' ws' → va_P D vwCl ws' H1 → va_D (fun q => z ≤ q) ws' → va_S (fun q => z ≤ q) s.heap H1 locs1 → H1[q9]? = some ce → ce.vm = .none → s.vm.findClass xE = some ce.cls → vx_W p l e R s m args below meth c H1 locs1 (nc + mc) (ns + ms) Q (F0 m pc ls rest) q9)
    (kk : ∀ (r : Option yV) (h' : yHp) (v : Option Value) (ad' : Nat → Nat) (ws' : va_W) (H1 : Heap) (locs1 : List Loc), (K' r h' ∧ ∀ q, r ≠ some (yr q)) → yGo ad' h'.1 r v → (∀ k, k < h.1 → ad' k = ad k) → h.1 ≤ h'.1 → yRel ad' cy zFk h' ws' → va_P D vwCl ws' H1 → va_D (fun q => z ≤ q) ws' → va_S (fun q => z ≤ q) s.heap H1 locs1 → W p l e R s m args below meth c H1 locs1 (nc + mc) (ns + ms) Q (F0 m (pc + 3) ls (v.toList ++ rest))) :
    W p l e R s m args below meth c H locs nc ns Q (F0 m pc ls st0) := by
  intro T hT X
  rcases hr T hT X with ⟨v, st₀, t, T', L, h0, X', hL, e1, e2, ⟨r, h', v', ad', ws', q1, q2, q3, q4, q5, q6, q7, q8, q9⟩, st⟩ | ⟨q, st₀, t, T', L, E, ce, h0, X', hL, e1, e2, ⟨u, -, ⟨rfl, -, h', ad', ws', q1, q4, q5, q6, q7, q8⟩, q9⟩, hce, hcv, hcl, st⟩
  · cases q2
    obtain ⟨g1, g2⟩ := q9
    rw [h0] at g1 g2
    obtain ⟨t2, a1, b1⟩ := kk r h' v ad' ws' T'.heap (locs ++ L) q1 q3 q4 q5 q6 (by rw [e1]; exact q7) q8 ⟨Nat.le_trans hS.1 (by rw [e1]; exact g1), fun q k1 k2 => by rw [e1, g2 q (Nat.lt_of_lt_of_le k1 hS.1) k2]; exact hS.2.1 q k1 k2, fun q hq => by
        rcases List.mem_append.mp hq with hq | hq
        · exact hS.2.2 q hq
        · exact hL q hq⟩ T' rfl X'
    exact ⟨t2, st t2 a1, b1⟩
  · obtain ⟨g1, g2⟩ := q9
    rw [h0] at g1 g2
    obtain ⟨t2, a1, b1⟩ := kx ce q h' ad' ws' T'.heap (locs ++ L) q1 q4 q5 q6 (by rw [e1]; exact q7) q8 ⟨Nat.le_trans hS.1 (by rw [e1]; exact g1), fun q k1 k2 => by rw [e1, g2 q (Nat.lt_of_lt_of_le k1 hS.1) k2]; exact hS.2.1 q k1 k2, fun q hq => by
        rcases List.mem_append.mp hq with hq | hq
        · exact hS.2.2 q hq
        · exact hL q hq⟩ (by rw [e1]; exact hce) hcv hcl T' rfl X'
    exact ⟨t2, st.trans a1, b1⟩
/-- behind the law's own chair, cell -/
def kH (N : Nat) (T : Nat → Nat × Nat) (R : Nat → Nat → Option Nat) (I : Nat → Nat → Int) : yKo := fun r h' => ∃ (x : Int) (I' : Nat → Nat → Int), r = some (yi x) ∧ h' = (N, T, R, I') ∧ ∀ k j, k ≠ 126 → I' k j = I k j
def xRmL : Room := { frames := 100, cells := 1, slots := 6, locals := 8000 }
def xM_chair : List Jvm.Cond := [.methodLink "ChairAlleyLaw" 41 ⟨"ChairAlleyLaw", "chair", "(LChairAlley;II[J)I"⟩, .static ⟨"ChairAlleyLaw", "chair", "(LChairAlley;II[J)I"⟩, .initialized "ChairAlleyLaw", .codeWith ⟨"ChairAlleyLaw", "chair", "(LChairAlley;II[J)I"⟩ method_3_code 5 (some .int) [(0, 10, 13, 13)]]
def xN_chair : List Jvm.Cond := [.classLink "ChairAlleyLaw" 13 xE, .methodLink "ChairAlleyLaw" 7 ⟨"ChairAlley", "chair", "(II)I"⟩, .instanceMethod ⟨"ChairAlley", "chair", "(II)I"⟩, .selects "ChairAlley" ⟨"ChairAlley", "chair", "(II)I"⟩ ⟨"ChairAlley", "chair", "(II)I"⟩, .initialized "ChairAlley"]
def xL_chair : List Jvm.Cond := Jvm.Cond.codeWith ⟨"ChairAlleyLaw", "chair", "(LChairAlley;II[J)I"⟩ method_3_code 5 (some .int) [(0, 10, 13, 13)] :: (xN_chair ++ zWS)
set_option maxRecDepth 100000 in
theorem xM_in_chair : ∀ w ∈ xM_chair, w ∈ lw_tbl := List.forall_mem_cons.mpr ⟨(List.mem_of_getElem? (i := 1257) rfl), List.forall_mem_cons.mpr ⟨(List.mem_of_getElem? (i := 1258) rfl), List.forall_mem_cons.mpr ⟨(List.mem_of_getElem? (i := 114) rfl), List.forall_mem_cons.mpr ⟨(List.mem_of_getElem? (i := 1259) rfl), fun _ h => nomatch h⟩⟩⟩⟩
set_option maxRecDepth 100000 in
theorem xN_in_chair : ∀ w ∈ xN_chair, w ∈ lw_tbl := List.forall_mem_cons.mpr ⟨(List.mem_of_getElem? (i := 1260) rfl), List.forall_mem_cons.mpr ⟨(List.mem_of_getElem? (i := 1261) rfl), List.forall_mem_cons.mpr ⟨(List.mem_of_getElem? (i := 1262) rfl), List.forall_mem_cons.mpr ⟨(List.mem_of_getElem? (i := 1263) rfl), List.forall_mem_cons.mpr ⟨(List.mem_of_getElem? (i := 115) rfl), fun _ h => nomatch h⟩⟩⟩⟩⟩
set_option maxRecDepth 100000 in
theorem xMN_good_chair : (xM_chair ++ xN_chair).all goodWord = true := by decide +kernel
theorem xL_good_chair : GoodIn lw_tbl (va_wsS R_law 41 ⟨"ChairAlleyLaw", "chair", "(LChairAlley;II[J)I"⟩ xL_chair) := by
  intro w hw
  have hw : w ∈ xM_chair ++ (xN_chair ++ zWS) := hw
  have hgd := List.all_eq_true.mp xMN_good_chair
  rcases List.mem_append.mp hw with h | h
  · exact ⟨xM_in_chair w h, good_of_word (hgd w (List.mem_append_left _ h))⟩
  rcases List.mem_append.mp h with h | h
  · exact ⟨xN_in_chair w h, good_of_word (hgd w (List.mem_append_right _ h))⟩
  · exact ⟨zWS_in w h, good_of_word (zWS_good w h)⟩
theorem xC_good_chair {ml : Nat} (hmt : zMt zSS 117 ml) : GoodIn xL_chair (wsO zSS 117) := by
  intro w hw
  have hw' : w ∈ zWS := by
    rcases List.mem_cons.mp hw with rfl | hw
    · exact hmt.2.2.2.1
    · exact hw
  exact ⟨List.mem_cons_of_mem _ (List.mem_append_right _ hw'), good_of_word (zWS_good w hw')⟩
set_option maxHeartbeats 4000000 in
set_option maxRecDepth 100000 in
theorem yh_chair {l : Launch} (htr : l.stackTraces = false) {D : va_G} {cy : Nat → ClassId} {z : Nat} {ad : Nat → Nat} {N ns0 : Nat} {T0 : Nat → Nat × Nat} {R0 : Nat → Nat → Option Nat} {I0 : Nat → Nat → Int} (w : wInv N T0 R0 I0 ns0) (x1 x2 : Int32) : Met l ⟨"ChairAlleyLaw", "chair", "(LChairAlley;II[J)I"⟩ xL_chair xRmL (yPc zSS D cy zFk z ad (N, T0, R0, I0) [.ref (ad 0), .int x1, .int x2, .ref (ad 126)]) (yQ zSS D cy zFk z ad N (kH N T0 R0 I0)) 1 6 (fun q => z ≤ q) := by
  have h127 := w.2.2.2.2.2.1
  have hmet : vx_Met l ⟨"ChairAlleyLaw", "chair", "(LChairAlley;II[J)I"⟩ xL_chair xRmL (yPc zSS D cy zFk z ad (N, T0, R0, I0) [.ref (ad 0), .int x1, .int x2, .ref (ad 126)]) (yQ zSS D cy zFk z ad N (kH N T0 R0 I0)) (fun _ _ _ => False) 1 6 (fun q => z ≤ q) := by
    refine vx_ofWH (cc := method_3_code) (maxL := 5) (ret := some .int) (hh := [(0, 10, 13, 13)]) (by decide) rfl ?_
    intro p e s m args below meth c s₁ B hml hv
    obtain ⟨rfl, hst, hz, ws, hR, hP, hD⟩ := hv
    have hx := B.exec
    have hb := B.bytes
    have hts := atoms_spec (ws := xL_chair) B.pre
    have hwn : ∀ w ∈ xN_chair, w.before #[Value.ref (ad 0), .int x1, .int x2, .ref (ad 126)] s = true := fun w h => hts w (List.mem_cons_of_mem _ (List.mem_append_left _ h))
    have hown : s.vm.findClass "ChairAlleyLaw" = some m.cls := findClass_of_methodNamed B.named
    have htab := vx_table (x := ⟨"ChairAlleyLaw", "chair", "(LChairAlley;II[J)I"⟩) B (hts _ List.mem_cons_self)
    have hS : va_S (fun q => z ≤ q) s.heap s.heap [] := va_S.rf
    have hl := lv_entry ([.ref (ad 0), .int x1, .int x2, .ref (ad 126)]) (n := 5) (Nat.le_of_ble_eq_true rfl)
    rw [lg_entry_eq]
    generalize (lg_sl ([.ref (ad 0), .int x1, .int x2, .ref (ad 126)]) ++ List.replicate (5 - (lg_sl ([.ref (ad 0), .int x1, .int x2, .ref (ad 126)])).length) Slot.unset).toArray = ls at hl ⊢
    have hl : lv_has ls 5 [(0, .ref (ad 0)), (1, .int x1), (2, .int x2), (3, .ref (ad 126))] := hl
    refine lv_aload_n hx hb (show decode method_3_code 0 = .ok (.aload_n 3, 1) by decide +kernel) rfl (lv_at hl 3 rfl) ?_
    refine lv_iconst (v := 0) hx hb (show decode method_3_code 1 = .ok (.iconst 0, 1) by decide +kernel) (by decide) ?_
    refine lv_aload_n hx hb (show decode method_3_code 2 = .ok (.aload_n 0, 1) by decide +kernel) rfl (lv_at hl 0 rfl) ?_
    refine lv_iload_n hx hb (show decode method_3_code 3 = .ok (.iload_n 1, 1) by decide +kernel) rfl (lv_at hl 1 rfl) ?_
    refine lv_iload_n hx hb (show decode method_3_code 4 = .ok (.iload_n 2, 1) by decide +kernel) rfl (lv_at hl 2 rfl) ?_
    obtain ⟨e0, he0, hge0⟩ := hR.2.2 0 (show 0 < N by omega)
    obtain ⟨vs0, rfl, -⟩ := hge0.2.2.2.1 10 (by show (T0 0).1 = 10 + 10; rw [w.1.2.1 0 rfl]; rfl)
    have hmt : zMt zSS 117 4 := zMtB_to zm_117
    have hgs : yGs ad N [yr (some 0), yi x1.toInt, yi x2.toInt] [.ref (ad 0), .int x1, .int x2] := ⟨_, _, rfl, yG_r (show 0 < N by omega), _, _, rfl, yG_i _, _, _, rfl, yG_i _, rfl⟩
    have hM := ys_metX (l := l) (D := D) (cy := cy) (z := z) (a := 117) (mc := 1) (ms := 6) (d' := 60) (h := (N, T0, R0, I0)) (ad := ad) (vs := [.ref (ad 0), .int x1, .int x2]) (K' := fun r h' => (∃ x, r = some (yi x) ∧ h' = (N, T0, R0, I0)) ∨ (r = some (yr none) ∧ h' = (N, T0, R0, I0))) hmt (v_117 w.1 htr (Nat.le_refl _) (Nat.le_refl _) (fun r => .inl ⟨r, rfl, rfl⟩) (.inr ⟨rfl, rfl⟩)) (yArg_to _ _ 0 hgs) (by rw [hmt.2.1]; exact Nat.le_of_ble_eq_true rfl)
    refine yl_backX (h := (N, T0, R0, I0)) (vx_runV (As := [.int x1, .int x2]) (rest := [.int 0, .ref (ad 126)]) (n := 2) ⟨hx, hb, hml, hown, hts⟩ hM ⟨callB_of 2 hts (xC_good_chair hmt) rfl rfl rfl (hwn _ (List.mem_of_getElem? (i := 4) rfl)) (hwn (.methodLink "ChairAlleyLaw" 7 (sY zSS 117)) (List.mem_of_getElem? (i := 1) rfl)) ⟨hmt.2.2.2.2.2.1, hmt.2.2.2.2.2.2, by decide +kernel⟩ ⟨Nat.le_of_ble_eq_true rfl, Nat.le_of_ble_eq_true rfl⟩, hwn (.instanceMethod (sY zSS 117)) (List.mem_of_getElem? (i := 2) rfl), hwn (.selects (sY zSS 117).cls (sY zSS 117) (sY zSS 117)) (List.mem_of_getElem? (i := 3) rfl)⟩ ⟨yPc_blind, va_recv hst.1 hP (show vwCl[10]? = some (RX10, TX10, 10) from rfl) he0, fun U hU hW => ⟨rfl, zStat_warm hW hst, zHp_to hW hU hS hz, ws, hR, by rw [hU]; exact hP, hD⟩⟩ rfl rfl hl.1 rfl (lv_room (Nat.le_of_ble_eq_true rfl)) (show decode method_3_code 5 = .ok (.invokevirtual 7, 3) by decide +kernel) ⟨Nat.le_of_ble_eq_true rfl, Nat.le_of_ble_eq_true rfl⟩) hS (fun ce q1 h1 ad1 ws1 H1 locs1 hK hA hN hR1 hP1 hD1 hS1 hce hcv hcl => ?_) (fun r h1 v ad1 ws1 H1 locs1 hK hg hA hN hR1 hP1 hD1 hS1 => ?_)
    · have e1 : h1 = (N, T0, R0, I0) := by
        rcases hK with ⟨x, _, e⟩ | ⟨_, e⟩ <;> exact e
      subst e1
      refine vx_catch (own := "ChairAlleyLaw") (name := xE) hown [] ⟨0, 10, 13, 13⟩ [] (by rw [htab]; rfl) (fun z hz => nomatch hz) (by decide) (by decide) (hwn _ (List.mem_of_getElem? (i := 0) rfl)) (va_Nw.use rfl (hz.2.2.1 (.castable xE xE) (List.mem_of_getElem? (i := 3) rfl))) hce hcv hcl ?_
      refine lv_astore (lv' := [(4, .ref q1), (0, .ref (ad 0)), (1, .int x1), (2, .int x2), (3, .ref (ad 126))]) hx hb (show decode method_3_code 13 = .ok (.astore 4, 2) by decide +kernel) hl (by decide) rfl (fun ls hl => ?_)
      refine lv_iconst (v := nI 1) hx hb (show decode method_3_code 15 = .ok (.iconst 1, 1) by decide +kernel) (by decide) ?_
      refine vx_ret (W.widen (show 0 + 1 ≤ 1 from Nat.le_refl _) (show 0 + 6 ≤ 6 from Nat.le_refl _) ?_)
      exact W.iret hx hb B.returns (fun t' ht' _ => ⟨some (yi (nI 1).toInt), (N, T0, R0, I0), some (.int (nI 1)), ad1, ws1, ⟨⟨_, I0, rfl, rfl, fun _ _ _ => rfl⟩, fun q w => by cases w⟩, rfl, ⟨nI 1, rfl, rfl⟩, hA, Nat.le_refl _, hR1, by rw [ht']; exact hP1, hD1, hS1.F ht'⟩) hS1.2.2 (show decode method_3_code 16 = .ok (.ireturn, 1) by decide +kernel) B.notSynchronized
    · obtain ⟨hK, hnr⟩ := hK
      rcases hK with ⟨x, rfl, rfl⟩ | ⟨e, _⟩
      · obtain ⟨y, rfl, rfl⟩ := yGo_int hg
        have a126 : ad1 126 = ad 126 := hA 126 (show 126 < N by omega)
        rw [← a126] at hl ⊢
        refine lv_i2l (v := y.toInt64) hx hb (show decode method_3_code 8 = .ok (.i2l, 1) by decide +kernel) rfl ?_
        obtain ⟨ee, he, hge⟩ := hR1.2.2 126 (show 126 < N by omega)
        have ht : yTy (N, T0, R0, I0) 126 = (2, 1) := w.2.2.2.2.1
        obtain ⟨f, rfl, f2⟩ := hge.2.1 (by rw [ht])
        rw [ht] at f2 he
        refine va_last hx hb hst.1 hP1 hD1 hS1 126 2 he rfl (show vp_in (0 : Int32) 1 from vp_in_iff.mpr (by decide)) (show decode method_3_code 9 = .ok (.lastore, 1) by decide +kernel) (fun H2 locs2 hP2 hD2 hS2 => ?_)
        refine lv_goto (tgt := 17) hx hb (show decode method_3_code 10 = .ok (.goto 7, 3) by decide +kernel) (by decide) ?_
        refine lv_iconst (v := nI 0) hx hb (show decode method_3_code 17 = .ok (.iconst 0, 1) by decide +kernel) (by decide) ?_
        refine vx_ret (W.widen (show 0 + 1 ≤ 1 from Nat.le_refl _) (show 0 + 6 ≤ 6 from Nat.le_refl _) ?_)
        refine W.iret hx hb B.returns (fun t' ht' _ => ⟨some (yi (nI 0).toInt), ySI (N, T0, R0, I0) 126 0 (y.toInt64).toInt, some (.int (nI 0)), ad1, _, ⟨⟨_, _, rfl, rfl, fun k j g => if_neg (fun q => g q.1)⟩, fun q w => by cases w⟩, rfl, ⟨nI 0, rfl, rfl⟩, hA, Nat.le_refl _, yRel_set hR1 (show 126 < N by omega) rfl rfl (fun k' hk' b' => y_ra (N, T0, R0, I0) 126 _ _ k' hk' b') ?_, by rw [ht']; exact hP2, hD2, hS2.F ht'⟩) hS2.2.2 (show decode method_3_code 18 = .ok (.ireturn, 1) by decide +kernel) B.notSynchronized
        unfold yGc
        have ht2 : yTy (ySI (N, T0, R0, I0) 126 0 (y.toInt64).toInt) 126 = (2, 1) := ht
        rw [ht2]
        refine ⟨fun g => ?_, fun _ => ⟨_, rfl, fun j hj => ?_⟩, fun g => ?_, fun c' g => ?_, fun n g => absurd (congrArg Prod.fst g) (by show ¬ (2 = 3); decide)⟩
        · simp at g
        · have e0 : j = 0 := by
            have hj : j < 1 := hj
            omega
          subst e0
          show (vp_updL f (0 : Int32).toNatClampNeg y.toInt64 0).toInt = if (126 = 126 ∧ 0 = 0) then (y.toInt64).toInt else I0 126 0
          rw [if_pos ⟨rfl, rfl⟩]
          rfl
        · simp at g
        · simp at g; omega
      · exact absurd e (hnr none)
  refine MetFree.mono hmet (fun _ _ h => h) (fun _ _ _ _ _ h => h) (fun a st o t _ hq => ?_)
  rcases hq with h | ⟨q, _, E, ce, L, hf, _⟩
  · exact h
  · exact hf.elim
section Yo
variable {p : Program} {l : Launch} {e : Env} {s : State} {m : MethodId} {below : List Frame} {meth : Method} {c : Code} {b L : Nat} {xs : Nat → Int32} {D : va_G} {cy : Nat → ClassId} {Q : State → Prop}
set_option maxHeartbeats 4000000 in
set_option maxRecDepth 100000 in
theorem yl_op_chair {ad : Nat → Nat} {N ns i cells slots : Nat} {T : Nat → Nat × Nat} {R : Nat → Nat → Option Nat} {I : Nat → Nat → Int} {H : Heap} {locs : List Loc} {ls : Array Slot} (X : lwX p l s m c b L xs D cy) (hi : i + 6 ≤ L) (S : lwS s D cy ad (N, T, R, I) H locs) (w : wInv N T R I ns) (hl : lv_has ls 7 [(4, .int (nI i)), (3, .ref (ad 126)), (2, .ref (ad 102)), (1, .ref (ad 0)), (0, .ref b)]) (hc : cells + 32 ≤ 601024) (hs : slots + gPt ns + 4431 ≤ 7293034)
    (ex : lwEx p l e s m below meth c b D cy Q i cells (slots + gPt ns + 4431)) : W p l e room_1 s m #[Value.ref b] below meth c H locs cells slots Q (F0 m 320 ls []) := by
  have hx := X.1
  have hb := X.2.1
  have h127 := w.2.2.2.2.2.1
  refine lv_aload_n (i := 1) (x := ad 0) hx hb (show decode code 320 = .ok (.aload_n 1, 1) by decide +kernel) rfl (lv_at hl 3 rfl) ?_
  refine yl_arg X S i 1 (by omega) (lv_at hl 4 rfl) (lv_at hl 0 rfl) (by decide +kernel) (by decide +kernel) (by decide +kernel) (by decide +kernel) (by decide +kernel) ?_
  refine yl_arg X S i 2 (by omega) (lv_at hl 4 rfl) (lv_at hl 0 rfl) (by decide +kernel) (by decide +kernel) (by decide +kernel) (by decide +kernel) (by decide +kernel) ?_
  refine lv_aload_n (i := 3) (x := ad 126) hx hb (show decode code 333 = .ok (.aload_n 3, 1) by decide +kernel) rfl (lv_at hl 1 rfl) ?_
  obtain ⟨_, _, hml, hown, hts, -, -, hst, hz, htr, -⟩ := id X
  obtain ⟨ws, hR, hP, hD, hS⟩ := S
  refine ys_back (S := zSS) (h := (N, T, R, I)) (vx_runSW (As := [.ref (ad 0), .int (xs (i + 1)), .int (xs (i + 2)), .ref (ad 126)]) (rest := []) (n := 4) ⟨hx, hb, hml, hown, hts⟩ (yh_chair (D := D) (cy := cy) (z := s.heap.size) (ad := ad) htr w (xs (i + 1)) (xs (i + 2))) (vx_cwSW 4 hts xL_good_chair rfl rfl rfl ⟨by decide, by decide, by decide +kernel⟩ ⟨Nat.le_of_ble_eq_true rfl, Nat.le_of_ble_eq_true rfl⟩) ⟨yPc_blind, fun U hU hW => ⟨rfl, zStat_warm hW hst, zHp_to hW hU hS hz, ws, hR, by rw [hU]; exact hP, hD⟩⟩ rfl rfl hl.1 rfl (lv_room (Nat.zero_le _)) (show decode code 334 = .ok (.invokestatic 41, 3) by decide +kernel) ⟨(show cells + 1 ≤ 601024 by omega), (show slots + 6 ≤ 7293034 by omega)⟩) hS (fun r h1 v ad1 ws1 H1 locs1 hK hg hA hN hR1 hP1 hD1 hS1 => ?_)
  obtain ⟨x1, I1, rfl, rfl, f⟩ := hK
  obtain ⟨y1, rfl, -⟩ := yGo_int hg
  have S1 : lwS s D cy ad1 (N, T, R, I1) H1 locs1 := ⟨ws1, hR1, hP1, hD1, hS1⟩
  have e0 : ad1 0 = ad 0 := hA 0 (show 0 < N by omega)
  have e102 : ad1 102 = ad 102 := hA 102 (show 102 < N by omega)
  have e126 : ad1 126 = ad 126 := hA 126 (show 126 < N by omega)
  rw [← e0, ← e102, ← e126] at hl
  refine lv_istore (lv' := [(5, .int y1), (4, .int (nI i)), (3, .ref (ad1 126)), (2, .ref (ad1 102)), (1, .ref (ad1 0)), (0, .ref b)]) hx hb (show decode code 337 = .ok (.istore 5, 2) by decide +kernel) hl (by decide) rfl (fun ls hl => ?_)
  refine lv_aload_n (i := 2) (x := ad1 102) hx hb (show decode code 339 = .ok (.aload_n 2, 1) by decide +kernel) rfl (lv_at hl 3 rfl) ?_
  refine yl_arg X S1 i 1 (by omega) (lv_at hl 5 rfl) (lv_at hl 1 rfl) (by decide +kernel) (by decide +kernel) (by decide +kernel) (by decide +kernel) (by decide +kernel) ?_
  refine yl_arg X S1 i 2 (by omega) (lv_at hl 5 rfl) (lv_at hl 1 rfl) (by decide +kernel) (by decide +kernel) (by decide +kernel) (by decide +kernel) (by decide +kernel) ?_
  refine yl_callV X (a := 167) (ml := 3) (n := 2) (q := 102) (nq := 57) (ec := 11) (mc := 0) (ms := 0) (T9 := TX11) (N9 := 57) (as := [yi (xs (i + 1)).toInt, yi (xs (i + 2)).toInt]) (As := [.int (xs (i + 1)), .int (xs (i + 2))]) (rest := []) (ad := ad1) (h := (N, T, R, I1)) (K' := fun r0 h' => ∃ (r : Int) (I' : Nat → Nat → Int) (L : Int), r0 = some (yi r) ∧ h' = (N, T, R, I') ∧ uPo I1 I' L ∧ L = I1 102 2 ∧ uLn I1 I')
    rfl zm_167 (v_167 w.1.2.1 w.1.2.2.1 (show 126 ≤ N by omega) (uInv_cg w.2.1 (fun k j g1 g2 => f k j (by omega))) (fun r I' L hu u1 u2 => ⟨r, I', L, rfl, rfl, hu, u1, u2⟩)) rfl (⟨_, _, rfl, yG_r (show 102 < N by omega), _, _, rfl, yG_i _, _, _, rfl, yG_i _, rfl⟩) (Nat.le_of_ble_eq_true rfl) (show 102 < N by omega) (w.1.2.1 102 rfl) rfl (List.mem_of_getElem? (i := 1633) rfl) (List.mem_of_getElem? (i := 1634) rfl) (List.mem_of_getElem? (i := 1635) rfl) (by decide +kernel) rfl S1 hl.1 (Nat.zero_le _) (show decode code 352 = .ok (.invokevirtual 46, 3) by decide +kernel) ⟨(show cells + 1 + 0 ≤ 601024 by omega), (show slots + 6 + 0 ≤ 7293034 by omega)⟩ (fun r h' g => by obtain ⟨r, _, _, e, _⟩ := g; exact ⟨r, e⟩) (fun y2 h2 ad2 H2 locs2 hK2 hA2 hN2 S2 => ?_)
  obtain ⟨r2, I2, L2, er2, rfl, hu, u1, u2⟩ := hK2
  have f0 : ad2 0 = ad1 0 := hA2 0 (show 0 < N by omega)
  have f102 : ad2 102 = ad1 102 := hA2 102 (show 102 < N by omega)
  have f126 : ad2 126 = ad1 126 := hA2 126 (show 126 < N by omega)
  rw [← f0, ← f102, ← f126] at hl
  refine lv_istore (lv' := [(6, .int y2), (5, .int y1), (4, .int (nI i)), (3, .ref (ad2 126)), (2, .ref (ad2 102)), (1, .ref (ad2 0)), (0, .ref b)]) hx hb (show decode code 355 = .ok (.istore 6, 2) by decide +kernel) hl (by decide) rfl (fun ls hl => ?_)
  exact lv_goto (tgt := 1125) hx hb (show decode code 357 = .ok (.goto 768, 3) by decide +kernel) (by decide) (ex ad2 N ns _ _ T R I2 H2 locs2 ls S2 (w_ou w f hu u1 u2) (lv_sub hl [2, 3, 4, 5, 6] rfl) (show cells + 1 + 0 ≤ cells + 32 by omega) (show slots + 6 + 0 + gPt ns ≤ slots + gPt ns + 4431 by omega))
end Yo
def xM_cell : List Jvm.Cond := [.methodLink "ChairAlleyLaw" 47 ⟨"ChairAlleyLaw", "cell", "(LChairAlley;II[J)I"⟩, .static ⟨"ChairAlleyLaw", "cell", "(LChairAlley;II[J)I"⟩, .initialized "ChairAlleyLaw", .codeWith ⟨"ChairAlleyLaw", "cell", "(LChairAlley;II[J)I"⟩ method_4_code 5 (some .int) [(0, 10, 13, 13)]]
def xN_cell : List Jvm.Cond := [.classLink "ChairAlleyLaw" 13 xE, .methodLink "ChairAlleyLaw" 15 ⟨"ChairAlley", "cell", "(II)I"⟩, .instanceMethod ⟨"ChairAlley", "cell", "(II)I"⟩, .selects "ChairAlley" ⟨"ChairAlley", "cell", "(II)I"⟩ ⟨"ChairAlley", "cell", "(II)I"⟩, .initialized "ChairAlley"]
def xL_cell : List Jvm.Cond := Jvm.Cond.codeWith ⟨"ChairAlleyLaw", "cell", "(LChairAlley;II[J)I"⟩ method_4_code 5 (some .int) [(0, 10, 13, 13)] :: (xN_cell ++ zWS)
set_option maxRecDepth 100000 in
theorem xM_in_cell : ∀ w ∈ xM_cell, w ∈ lw_tbl := List.forall_mem_cons.mpr ⟨(List.mem_of_getElem? (i := 1326) rfl), List.forall_mem_cons.mpr ⟨(List.mem_of_getElem? (i := 1327) rfl), List.forall_mem_cons.mpr ⟨(List.mem_of_getElem? (i := 114) rfl), List.forall_mem_cons.mpr ⟨(List.mem_of_getElem? (i := 1328) rfl), fun _ h => nomatch h⟩⟩⟩⟩
set_option maxRecDepth 100000 in
theorem xN_in_cell : ∀ w ∈ xN_cell, w ∈ lw_tbl := List.forall_mem_cons.mpr ⟨(List.mem_of_getElem? (i := 1260) rfl), List.forall_mem_cons.mpr ⟨(List.mem_of_getElem? (i := 1329) rfl), List.forall_mem_cons.mpr ⟨(List.mem_of_getElem? (i := 1330) rfl), List.forall_mem_cons.mpr ⟨(List.mem_of_getElem? (i := 1331) rfl), List.forall_mem_cons.mpr ⟨(List.mem_of_getElem? (i := 115) rfl), fun _ h => nomatch h⟩⟩⟩⟩⟩
set_option maxRecDepth 100000 in
theorem xMN_good_cell : (xM_cell ++ xN_cell).all goodWord = true := by decide +kernel
theorem xL_good_cell : GoodIn lw_tbl (va_wsS R_law 47 ⟨"ChairAlleyLaw", "cell", "(LChairAlley;II[J)I"⟩ xL_cell) := by
  intro w hw
  have hw : w ∈ xM_cell ++ (xN_cell ++ zWS) := hw
  have hgd := List.all_eq_true.mp xMN_good_cell
  rcases List.mem_append.mp hw with h | h
  · exact ⟨xM_in_cell w h, good_of_word (hgd w (List.mem_append_left _ h))⟩
  rcases List.mem_append.mp h with h | h
  · exact ⟨xN_in_cell w h, good_of_word (hgd w (List.mem_append_right _ h))⟩
  · exact ⟨zWS_in w h, good_of_word (zWS_good w h)⟩
theorem xC_good_cell {ml : Nat} (hmt : zMt zSS 116 ml) : GoodIn xL_cell (wsO zSS 116) := by
  intro w hw
  have hw' : w ∈ zWS := by
    rcases List.mem_cons.mp hw with rfl | hw
    · exact hmt.2.2.2.1
    · exact hw
  exact ⟨List.mem_cons_of_mem _ (List.mem_append_right _ hw'), good_of_word (zWS_good w hw')⟩
set_option maxHeartbeats 4000000 in
set_option maxRecDepth 100000 in
theorem yh_cell {l : Launch} (htr : l.stackTraces = false) {D : va_G} {cy : Nat → ClassId} {z : Nat} {ad : Nat → Nat} {N ns0 : Nat} {T0 : Nat → Nat × Nat} {R0 : Nat → Nat → Option Nat} {I0 : Nat → Nat → Int} (w : wInv N T0 R0 I0 ns0) (x1 x2 : Int32) : Met l ⟨"ChairAlleyLaw", "cell", "(LChairAlley;II[J)I"⟩ xL_cell xRmL (yPc zSS D cy zFk z ad (N, T0, R0, I0) [.ref (ad 0), .int x1, .int x2, .ref (ad 126)]) (yQ zSS D cy zFk z ad N (kH N T0 R0 I0)) 1 6 (fun q => z ≤ q) := by
  have h127 := w.2.2.2.2.2.1
  have hmet : vx_Met l ⟨"ChairAlleyLaw", "cell", "(LChairAlley;II[J)I"⟩ xL_cell xRmL (yPc zSS D cy zFk z ad (N, T0, R0, I0) [.ref (ad 0), .int x1, .int x2, .ref (ad 126)]) (yQ zSS D cy zFk z ad N (kH N T0 R0 I0)) (fun _ _ _ => False) 1 6 (fun q => z ≤ q) := by
    refine vx_ofWH (cc := method_4_code) (maxL := 5) (ret := some .int) (hh := [(0, 10, 13, 13)]) (by decide) rfl ?_
    intro p e s m args below meth c s₁ B hml hv
    obtain ⟨rfl, hst, hz, ws, hR, hP, hD⟩ := hv
    have hx := B.exec
    have hb := B.bytes
    have hts := atoms_spec (ws := xL_cell) B.pre
    have hwn : ∀ w ∈ xN_cell, w.before #[Value.ref (ad 0), .int x1, .int x2, .ref (ad 126)] s = true := fun w h => hts w (List.mem_cons_of_mem _ (List.mem_append_left _ h))
    have hown : s.vm.findClass "ChairAlleyLaw" = some m.cls := findClass_of_methodNamed B.named
    have htab := vx_table (x := ⟨"ChairAlleyLaw", "cell", "(LChairAlley;II[J)I"⟩) B (hts _ List.mem_cons_self)
    have hS : va_S (fun q => z ≤ q) s.heap s.heap [] := va_S.rf
    have hl := lv_entry ([.ref (ad 0), .int x1, .int x2, .ref (ad 126)]) (n := 5) (Nat.le_of_ble_eq_true rfl)
    rw [lg_entry_eq]
    generalize (lg_sl ([.ref (ad 0), .int x1, .int x2, .ref (ad 126)]) ++ List.replicate (5 - (lg_sl ([.ref (ad 0), .int x1, .int x2, .ref (ad 126)])).length) Slot.unset).toArray = ls at hl ⊢
    have hl : lv_has ls 5 [(0, .ref (ad 0)), (1, .int x1), (2, .int x2), (3, .ref (ad 126))] := hl
    refine lv_aload_n hx hb (show decode method_4_code 0 = .ok (.aload_n 3, 1) by decide +kernel) rfl (lv_at hl 3 rfl) ?_
    refine lv_iconst (v := 0) hx hb (show decode method_4_code 1 = .ok (.iconst 0, 1) by decide +kernel) (by decide) ?_
    refine lv_aload_n hx hb (show decode method_4_code 2 = .ok (.aload_n 0, 1) by decide +kernel) rfl (lv_at hl 0 rfl) ?_
    refine lv_iload_n hx hb (show decode method_4_code 3 = .ok (.iload_n 1, 1) by decide +kernel) rfl (lv_at hl 1 rfl) ?_
    refine lv_iload_n hx hb (show decode method_4_code 4 = .ok (.iload_n 2, 1) by decide +kernel) rfl (lv_at hl 2 rfl) ?_
    obtain ⟨e0, he0, hge0⟩ := hR.2.2 0 (show 0 < N by omega)
    obtain ⟨vs0, rfl, -⟩ := hge0.2.2.2.1 10 (by show (T0 0).1 = 10 + 10; rw [w.1.2.1 0 rfl]; rfl)
    have hmt : zMt zSS 116 4 := zMtB_to zm_116
    have hgs : yGs ad N [yr (some 0), yi x1.toInt, yi x2.toInt] [.ref (ad 0), .int x1, .int x2] := ⟨_, _, rfl, yG_r (show 0 < N by omega), _, _, rfl, yG_i _, _, _, rfl, yG_i _, rfl⟩
    have hM := ys_metX (l := l) (D := D) (cy := cy) (z := z) (a := 116) (mc := 1) (ms := 6) (d' := 60) (h := (N, T0, R0, I0)) (ad := ad) (vs := [.ref (ad 0), .int x1, .int x2]) (K' := fun r h' => (∃ x, r = some (yi x) ∧ h' = (N, T0, R0, I0)) ∨ (r = some (yr none) ∧ h' = (N, T0, R0, I0))) hmt (v_116 w.1 htr (Nat.le_refl _) (Nat.le_refl _) (fun r => .inl ⟨r, rfl, rfl⟩) (.inr ⟨rfl, rfl⟩)) (yArg_to _ _ 0 hgs) (by rw [hmt.2.1]; exact Nat.le_of_ble_eq_true rfl)
    refine yl_backX (h := (N, T0, R0, I0)) (vx_runV (As := [.int x1, .int x2]) (rest := [.int 0, .ref (ad 126)]) (n := 2) ⟨hx, hb, hml, hown, hts⟩ hM ⟨callB_of 2 hts (xC_good_cell hmt) rfl rfl rfl (hwn _ (List.mem_of_getElem? (i := 4) rfl)) (hwn (.methodLink "ChairAlleyLaw" 15 (sY zSS 116)) (List.mem_of_getElem? (i := 1) rfl)) ⟨hmt.2.2.2.2.2.1, hmt.2.2.2.2.2.2, by decide +kernel⟩ ⟨Nat.le_of_ble_eq_true rfl, Nat.le_of_ble_eq_true rfl⟩, hwn (.instanceMethod (sY zSS 116)) (List.mem_of_getElem? (i := 2) rfl), hwn (.selects (sY zSS 116).cls (sY zSS 116) (sY zSS 116)) (List.mem_of_getElem? (i := 3) rfl)⟩ ⟨yPc_blind, va_recv hst.1 hP (show vwCl[10]? = some (RX10, TX10, 10) from rfl) he0, fun U hU hW => ⟨rfl, zStat_warm hW hst, zHp_to hW hU hS hz, ws, hR, by rw [hU]; exact hP, hD⟩⟩ rfl rfl hl.1 rfl (lv_room (Nat.le_of_ble_eq_true rfl)) (show decode method_4_code 5 = .ok (.invokevirtual 15, 3) by decide +kernel) ⟨Nat.le_of_ble_eq_true rfl, Nat.le_of_ble_eq_true rfl⟩) hS (fun ce q1 h1 ad1 ws1 H1 locs1 hK hA hN hR1 hP1 hD1 hS1 hce hcv hcl => ?_) (fun r h1 v ad1 ws1 H1 locs1 hK hg hA hN hR1 hP1 hD1 hS1 => ?_)
    · have e1 : h1 = (N, T0, R0, I0) := by
        rcases hK with ⟨x, _, e⟩ | ⟨_, e⟩ <;> exact e
      subst e1
      refine vx_catch (own := "ChairAlleyLaw") (name := xE) hown [] ⟨0, 10, 13, 13⟩ [] (by rw [htab]; rfl) (fun z hz => nomatch hz) (by decide) (by decide) (hwn _ (List.mem_of_getElem? (i := 0) rfl)) (va_Nw.use rfl (hz.2.2.1 (.castable xE xE) (List.mem_of_getElem? (i := 3) rfl))) hce hcv hcl ?_
      refine lv_astore (lv' := [(4, .ref q1), (0, .ref (ad 0)), (1, .int x1), (2, .int x2), (3, .ref (ad 126))]) hx hb (show decode method_4_code 13 = .ok (.astore 4, 2) by decide +kernel) hl (by decide) rfl (fun ls hl => ?_)
      refine lv_iconst (v := nI 1) hx hb (show decode method_4_code 15 = .ok (.iconst 1, 1) by decide +kernel) (by decide) ?_
      refine vx_ret (W.widen (show 0 + 1 ≤ 1 from Nat.le_refl _) (show 0 + 6 ≤ 6 from Nat.le_refl _) ?_)
      exact W.iret hx hb B.returns (fun t' ht' _ => ⟨some (yi (nI 1).toInt), (N, T0, R0, I0), some (.int (nI 1)), ad1, ws1, ⟨⟨_, I0, rfl, rfl, fun _ _ _ => rfl⟩, fun q w => by cases w⟩, rfl, ⟨nI 1, rfl, rfl⟩, hA, Nat.le_refl _, hR1, by rw [ht']; exact hP1, hD1, hS1.F ht'⟩) hS1.2.2 (show decode method_4_code 16 = .ok (.ireturn, 1) by decide +kernel) B.notSynchronized
    · obtain ⟨hK, hnr⟩ := hK
      rcases hK with ⟨x, rfl, rfl⟩ | ⟨e, _⟩
      · obtain ⟨y, rfl, rfl⟩ := yGo_int hg
        have a126 : ad1 126 = ad 126 := hA 126 (show 126 < N by omega)
        rw [← a126] at hl ⊢
        refine lv_i2l (v := y.toInt64) hx hb (show decode method_4_code 8 = .ok (.i2l, 1) by decide +kernel) rfl ?_
        obtain ⟨ee, he, hge⟩ := hR1.2.2 126 (show 126 < N by omega)
        have ht : yTy (N, T0, R0, I0) 126 = (2, 1) := w.2.2.2.2.1
        obtain ⟨f, rfl, f2⟩ := hge.2.1 (by rw [ht])
        rw [ht] at f2 he
        refine va_last hx hb hst.1 hP1 hD1 hS1 126 2 he rfl (show vp_in (0 : Int32) 1 from vp_in_iff.mpr (by decide)) (show decode method_4_code 9 = .ok (.lastore, 1) by decide +kernel) (fun H2 locs2 hP2 hD2 hS2 => ?_)
        refine lv_goto (tgt := 17) hx hb (show decode method_4_code 10 = .ok (.goto 7, 3) by decide +kernel) (by decide) ?_
        refine lv_iconst (v := nI 0) hx hb (show decode method_4_code 17 = .ok (.iconst 0, 1) by decide +kernel) (by decide) ?_
        refine vx_ret (W.widen (show 0 + 1 ≤ 1 from Nat.le_refl _) (show 0 + 6 ≤ 6 from Nat.le_refl _) ?_)
        refine W.iret hx hb B.returns (fun t' ht' _ => ⟨some (yi (nI 0).toInt), ySI (N, T0, R0, I0) 126 0 (y.toInt64).toInt, some (.int (nI 0)), ad1, _, ⟨⟨_, _, rfl, rfl, fun k j g => if_neg (fun q => g q.1)⟩, fun q w => by cases w⟩, rfl, ⟨nI 0, rfl, rfl⟩, hA, Nat.le_refl _, yRel_set hR1 (show 126 < N by omega) rfl rfl (fun k' hk' b' => y_ra (N, T0, R0, I0) 126 _ _ k' hk' b') ?_, by rw [ht']; exact hP2, hD2, hS2.F ht'⟩) hS2.2.2 (show decode method_4_code 18 = .ok (.ireturn, 1) by decide +kernel) B.notSynchronized
        unfold yGc
        have ht2 : yTy (ySI (N, T0, R0, I0) 126 0 (y.toInt64).toInt) 126 = (2, 1) := ht
        rw [ht2]
        refine ⟨fun g => ?_, fun _ => ⟨_, rfl, fun j hj => ?_⟩, fun g => ?_, fun c' g => ?_, fun n g => absurd (congrArg Prod.fst g) (by show ¬ (2 = 3); decide)⟩
        · simp at g
        · have e0 : j = 0 := by
            have hj : j < 1 := hj
            omega
          subst e0
          show (vp_updL f (0 : Int32).toNatClampNeg y.toInt64 0).toInt = if (126 = 126 ∧ 0 = 0) then (y.toInt64).toInt else I0 126 0
          rw [if_pos ⟨rfl, rfl⟩]
          rfl
        · simp at g
        · simp at g; omega
      · exact absurd e (hnr none)
  refine MetFree.mono hmet (fun _ _ h => h) (fun _ _ _ _ _ h => h) (fun a st o t _ hq => ?_)
  rcases hq with h | ⟨q, _, E, ce, L, hf, _⟩
  · exact h
  · exact hf.elim
section Yo
variable {p : Program} {l : Launch} {e : Env} {s : State} {m : MethodId} {below : List Frame} {meth : Method} {c : Code} {b L : Nat} {xs : Nat → Int32} {D : va_G} {cy : Nat → ClassId} {Q : State → Prop}
set_option maxHeartbeats 4000000 in
set_option maxRecDepth 100000 in
theorem yl_op_cell {ad : Nat → Nat} {N ns i cells slots : Nat} {T : Nat → Nat × Nat} {R : Nat → Nat → Option Nat} {I : Nat → Nat → Int} {H : Heap} {locs : List Loc} {ls : Array Slot} (X : lwX p l s m c b L xs D cy) (hi : i + 6 ≤ L) (S : lwS s D cy ad (N, T, R, I) H locs) (w : wInv N T R I ns) (hl : lv_has ls 7 [(4, .int (nI i)), (3, .ref (ad 126)), (2, .ref (ad 102)), (1, .ref (ad 0)), (0, .ref b)]) (hc : cells + 32 ≤ 601024) (hs : slots + gPt ns + 4431 ≤ 7293034)
    (ex : lwEx p l e s m below meth c b D cy Q i cells (slots + gPt ns + 4431)) : W p l e room_1 s m #[Value.ref b] below meth c H locs cells slots Q (F0 m 360 ls []) := by
  have hx := X.1
  have hb := X.2.1
  have h127 := w.2.2.2.2.2.1
  refine lv_aload_n (i := 1) (x := ad 0) hx hb (show decode code 360 = .ok (.aload_n 1, 1) by decide +kernel) rfl (lv_at hl 3 rfl) ?_
  refine yl_arg X S i 1 (by omega) (lv_at hl 4 rfl) (lv_at hl 0 rfl) (by decide +kernel) (by decide +kernel) (by decide +kernel) (by decide +kernel) (by decide +kernel) ?_
  refine yl_arg X S i 2 (by omega) (lv_at hl 4 rfl) (lv_at hl 0 rfl) (by decide +kernel) (by decide +kernel) (by decide +kernel) (by decide +kernel) (by decide +kernel) ?_
  refine lv_aload_n (i := 3) (x := ad 126) hx hb (show decode code 373 = .ok (.aload_n 3, 1) by decide +kernel) rfl (lv_at hl 1 rfl) ?_
  obtain ⟨_, _, hml, hown, hts, -, -, hst, hz, htr, -⟩ := id X
  obtain ⟨ws, hR, hP, hD, hS⟩ := S
  refine ys_back (S := zSS) (h := (N, T, R, I)) (vx_runSW (As := [.ref (ad 0), .int (xs (i + 1)), .int (xs (i + 2)), .ref (ad 126)]) (rest := []) (n := 4) ⟨hx, hb, hml, hown, hts⟩ (yh_cell (D := D) (cy := cy) (z := s.heap.size) (ad := ad) htr w (xs (i + 1)) (xs (i + 2))) (vx_cwSW 4 hts xL_good_cell rfl rfl rfl ⟨by decide, by decide, by decide +kernel⟩ ⟨Nat.le_of_ble_eq_true rfl, Nat.le_of_ble_eq_true rfl⟩) ⟨yPc_blind, fun U hU hW => ⟨rfl, zStat_warm hW hst, zHp_to hW hU hS hz, ws, hR, by rw [hU]; exact hP, hD⟩⟩ rfl rfl hl.1 rfl (lv_room (Nat.zero_le _)) (show decode code 374 = .ok (.invokestatic 47, 3) by decide +kernel) ⟨(show cells + 1 ≤ 601024 by omega), (show slots + 6 ≤ 7293034 by omega)⟩) hS (fun r h1 v ad1 ws1 H1 locs1 hK hg hA hN hR1 hP1 hD1 hS1 => ?_)
  obtain ⟨x1, I1, rfl, rfl, f⟩ := hK
  obtain ⟨y1, rfl, -⟩ := yGo_int hg
  have S1 : lwS s D cy ad1 (N, T, R, I1) H1 locs1 := ⟨ws1, hR1, hP1, hD1, hS1⟩
  have e0 : ad1 0 = ad 0 := hA 0 (show 0 < N by omega)
  have e102 : ad1 102 = ad 102 := hA 102 (show 102 < N by omega)
  have e126 : ad1 126 = ad 126 := hA 126 (show 126 < N by omega)
  rw [← e0, ← e102, ← e126] at hl
  refine lv_istore (lv' := [(5, .int y1), (4, .int (nI i)), (3, .ref (ad1 126)), (2, .ref (ad1 102)), (1, .ref (ad1 0)), (0, .ref b)]) hx hb (show decode code 377 = .ok (.istore 5, 2) by decide +kernel) hl (by decide) rfl (fun ls hl => ?_)
  refine lv_aload_n (i := 2) (x := ad1 102) hx hb (show decode code 379 = .ok (.aload_n 2, 1) by decide +kernel) rfl (lv_at hl 3 rfl) ?_
  refine yl_arg X S1 i 1 (by omega) (lv_at hl 5 rfl) (lv_at hl 1 rfl) (by decide +kernel) (by decide +kernel) (by decide +kernel) (by decide +kernel) (by decide +kernel) ?_
  refine yl_arg X S1 i 2 (by omega) (lv_at hl 5 rfl) (lv_at hl 1 rfl) (by decide +kernel) (by decide +kernel) (by decide +kernel) (by decide +kernel) (by decide +kernel) ?_
  refine yl_callV X (a := 165) (ml := 3) (n := 2) (q := 102) (nq := 57) (ec := 11) (mc := 0) (ms := 0) (T9 := TX11) (N9 := 57) (as := [yi (xs (i + 1)).toInt, yi (xs (i + 2)).toInt]) (As := [.int (xs (i + 1)), .int (xs (i + 2))]) (rest := []) (ad := ad1) (h := (N, T, R, I1)) (K' := fun r0 h' => ∃ (r : Int) (I' : Nat → Nat → Int) (L : Int), r0 = some (yi r) ∧ h' = (N, T, R, I') ∧ uPo I1 I' L ∧ L = I1 102 2 ∧ uLn I1 I')
    rfl zm_165 (v_165 w.1.2.1 w.1.2.2.1 (show 126 ≤ N by omega) (uInv_cg w.2.1 (fun k j g1 g2 => f k j (by omega))) (fun r I' L hu u1 u2 => ⟨r, I', L, rfl, rfl, hu, u1, u2⟩)) rfl (⟨_, _, rfl, yG_r (show 102 < N by omega), _, _, rfl, yG_i _, _, _, rfl, yG_i _, rfl⟩) (Nat.le_of_ble_eq_true rfl) (show 102 < N by omega) (w.1.2.1 102 rfl) rfl (List.mem_of_getElem? (i := 1645) rfl) (List.mem_of_getElem? (i := 1646) rfl) (List.mem_of_getElem? (i := 1647) rfl) (by decide +kernel) rfl S1 hl.1 (Nat.zero_le _) (show decode code 392 = .ok (.invokevirtual 49, 3) by decide +kernel) ⟨(show cells + 1 + 0 ≤ 601024 by omega), (show slots + 6 + 0 ≤ 7293034 by omega)⟩ (fun r h' g => by obtain ⟨r, _, _, e, _⟩ := g; exact ⟨r, e⟩) (fun y2 h2 ad2 H2 locs2 hK2 hA2 hN2 S2 => ?_)
  obtain ⟨r2, I2, L2, er2, rfl, hu, u1, u2⟩ := hK2
  have f0 : ad2 0 = ad1 0 := hA2 0 (show 0 < N by omega)
  have f102 : ad2 102 = ad1 102 := hA2 102 (show 102 < N by omega)
  have f126 : ad2 126 = ad1 126 := hA2 126 (show 126 < N by omega)
  rw [← f0, ← f102, ← f126] at hl
  refine lv_istore (lv' := [(6, .int y2), (5, .int y1), (4, .int (nI i)), (3, .ref (ad2 126)), (2, .ref (ad2 102)), (1, .ref (ad2 0)), (0, .ref b)]) hx hb (show decode code 395 = .ok (.istore 6, 2) by decide +kernel) hl (by decide) rfl (fun ls hl => ?_)
  exact lv_goto (tgt := 1125) hx hb (show decode code 397 = .ok (.goto 728, 3) by decide +kernel) (by decide) (ex ad2 N ns _ _ T R I2 H2 locs2 ls S2 (w_ou w f hu u1 u2) (lv_sub hl [2, 3, 4, 5, 6] rfl) (show cells + 1 + 0 ≤ cells + 32 by omega) (show slots + 6 + 0 + gPt ns ≤ slots + gPt ns + 4431 by omega))
end Yo
