/-! CHAIR AND CELL: on a fresh object they throw; the law's own methods catch it -/
def xE : String := "java/util/NoSuchElementException"
abbrev xNm : List String := ["java/lang/RuntimeException", "java/lang/Exception"]
def xB : List Jvm.Cond := [.declares (Bundle.init0 "java/lang/RuntimeException"), .declares (Bundle.init0 "java/lang/Exception"), .declares (Bundle.init0 Bundle.tN), .castable xE xE]
def xX : List Jvm.Cond := [.fieldLink "ChairAlley" 19 "ChairAlley" "world" "LChairAlley$World;", .fieldLink "ChairAlley" 28 "ChairAlley$World" "land" "LChairAlley$Land;", .methodLink "ChairAlley" 120 ⟨"ChairAlley$Land", "isChair", "(I)Z"⟩, .instanceMethod ⟨"ChairAlley$Land", "isChair", "(I)Z"⟩, .selects "ChairAlley$Land" ⟨"ChairAlley$Land", "isChair", "(I)Z"⟩ ⟨"ChairAlley$Land", "isChair", "(I)Z"⟩, .methodLink "ChairAlley" 159 ⟨"ChairAlley$Land", "isCell", "(I)Z"⟩, .instanceMethod ⟨"ChairAlley$Land", "isCell", "(I)Z"⟩, .selects "ChairAlley$Land" ⟨"ChairAlley$Land", "isCell", "(I)Z"⟩ ⟨"ChairAlley$Land", "isCell", "(I)Z"⟩]
def xG : List Jvm.Cond := xX ++ (Jvm.Cond.classLink "ChairAlley" 124 xE :: Jvm.Cond.initialized xE :: (vx_at0 "ChairAlley" 126 xE xNm).filter goodWord)
set_option maxRecDepth 100000 in
theorem xG_in : ∀ w ∈ xG, w ∈ lw_tbl := by decide +kernel
set_option maxRecDepth 100000 in
theorem xG_good : ∀ w ∈ xG, goodWord w = true := by decide +kernel
set_option maxRecDepth 100000 in
theorem xB_in : ∀ w ∈ xB, w ∈ lw_tbl := by decide +kernel
set_option maxRecDepth 100000 in
theorem xAt_bad : ∀ w ∈ (vx_at0 "ChairAlley" 126 xE xNm).filter (fun w => !goodWord w), w ∈ xB := by decide +kernel
set_option maxRecDepth 100000 in
theorem xAt_ot : ∀ w ∈ Jvm.Cond.classLink "ChairAlley" 124 xE :: Jvm.Cond.initialized xE :: vx_at0 "ChairAlley" 126 xE xNm, vx_ot w = true := by decide +kernel
/-- what a throw rests on, beside the words -/
def xF (A : Nat → Prop) (U : State) : Prop := (∀ w ∈ xB, va_Nw w U) ∧ vx_Zq Bundle.tN "UNASSIGNED_STACK" Bundle.steD A U U.heap ∧ vx_Zq Bundle.tN "SUPPRESSED_SENTINEL" Bundle.listD A U U.heap
theorem xF_to {A : Nat → Prop} {s U : State} (hW : s.WarmedH U.vm) (hh : ∀ a : Nat, a < s.heap.size → ¬ A a → U.heap[a]? = s.heap[a]?) (h : xF A s) : xF A U := by
  refine ⟨fun w hw => ?_, (h.2.1.moved hW.alike).kept hh, (h.2.2.moved hW.alike).kept hh⟩
  have h1 := h.1 w hw
  simp only [xB, List.mem_cons, List.not_mem_nil, or_false] at hw
  rcases hw with rfl | rfl | rfl | rfl
  · exact va_Nw.warmD hW h1
  · exact va_Nw.warmD hW h1
  · exact va_Nw.warmD hW h1
  · exact va_Nw.warmC hW h1
theorem xF_same {A : Nat → Prop} {s U : State} (hvm : s.vm = U.vm) (hh : s.heap = U.heap) (h : xF A s) : xF A U := by
  refine ⟨fun w hw => ?_, ?_, ?_⟩
  · have h1 := h.1 w hw
    simp only [xB, List.mem_cons, List.not_mem_nil, or_false] at hw
    rcases hw with rfl | rfl | rfl | rfl <;> exact va_Nw.same rfl hvm h1
  · have := h.2.1.moved (U := U) (by rw [hvm]; exact Vm.Alike.refl _)
    rw [hh] at this
    exact this
  · have := h.2.2.moved (U := U) (by rw [hvm]; exact Vm.Alike.refl _)
    rw [hh] at this
    exact this
def xWs (y : MethodName) (co : ByteArray) : List Jvm.Cond := Jvm.Cond.code y co 4 (some .int) :: (zWS ++ xG)
def xRm : Room := { frames := 20, cells := 1, slots := 6, locals := 3000 }
/-- the pair is fresh -/
def xWd (D : va_G) (cy : Nat → ClassId) (z : Nat) (ad : Nat → Nat) (H : Heap) : Prop := ∃ ws, zR ad cy zh0 ws ∧ va_P D vwCl ws H ∧ va_D (fun q => z ≤ q) ws
def xPc (D : va_G) (cy : Nat → ClassId) (z : Nat) (ad : Nat → Nat) (vs : List Value) : Array Value → State → Prop := va_Pc vs (fun U => zStat zSS D cy U ∧ z ≤ U.heap.size ∧ xF (fun q => z ≤ q) U ∧ xWd D cy z ad U.heap)
theorem xPc_blind {D : va_G} {cy : Nat → ClassId} {z : Nat} {ad : Nat → Nat} {vs : List Value} : FrameBlind (xPc D cy z ad vs) := by
  intro a U g mk q
  obtain ⟨q0, q1, q2, q3, q4⟩ := q
  exact ⟨q0, zStat_same rfl q1, q2, xF_same (s := U) (U := U.calling g mk a) rfl rfl q3, q4⟩
def xXC (D : va_G) (cy : Nat → ClassId) (z : Nat) (ad : Nat → Nat) : String → State → State → Prop := vx_X (fun _ : Unit => True) (fun E _ t => E = xE ∧ xWd D cy z ad t.heap) (fun q => z ≤ q)
def xQ (z : Nat) : Array Value → State → Outcome → State → Prop := va_Qi (fun (_ : Int32) (_ : Unit) => False) (fun _ _ => True) (fun q => z ≤ q)
def xhQ (D : va_G) (cy : Nat → ClassId) (z : Nat) (ad : Nat → Nat) : Array Value → State → Outcome → State → Prop := va_Qi (fun (r : Int32) (_ : Unit) => r = nI 1) (fun _ t => xWd D cy z ad t.heap) (fun q => z ≤ q)
theorem xWd_kept {D : va_G} {cy : Nat → ClassId} {z : Nat} {ad : Nat → Nat} {H H1 : Heap} (h : xWd D cy z ad H) (hk : ∀ q : Nat, q < H.size → H1[q]? = H[q]?) : xWd D cy z ad H1 := by
  obtain ⟨ws, h1, h2, h3⟩ := h
  exact ⟨ws, h1, h2.kept (fun k x hx => hk x.1 ((h2 k x hx).lt)), h3⟩
theorem x_ad {ad ad' : Nat → Nat} {cy : Nat → ClassId} {ws : va_W} (h : ∀ k, k < zh0.1 → ad' k = ad k) (hR : zR ad' cy zh0 ws) : zR ad cy zh0 ws := by
  refine ⟨hR.1, fun k p hk => ?_, fun k c hk => ?_⟩
  · rw [hR.2.1 k p hk]
    exact h k (by rw [← hR.1]; exact (List.getElem?_eq_some_iff.mp hk).1)
  · obtain ⟨e, he, hg⟩ := hR.2.2 k c hk
    refine ⟨e, ?_, zGc_up (fun k hk => (h k hk).symm) (Nat.le_refl _) hg⟩
    rw [he, h k (by rw [← hR.1]; exact (List.getElem?_eq_some_iff.mp he).1)]
theorem and_eq_true_iff_z {a b : Bool} (h : (a && b) = true) : a = true ∧ b = true := by
  cases a <;> cases b <;> first | exact ⟨rfl, rfl⟩ | cases h
noncomputable def xK : zKo := fun r h => zSame r (some (.inl 0)) && zHeq h zh0
noncomputable def xThr : zKo := fun r h => match r with
  | some (.inl _) => cond (zRcv 11 [zRef (some 102)] h) (zq 144 [(0, zRef (some 102))] h (fun r2 _ => zSame r2 (some (.inl 1)))) false
  | _ => false
set_option maxRecDepth 100000 in
theorem zx_chair_0 : zq 7 [(0, zRef (some 4)), (1, .inr (.inl (0, 2147483647)))] zh0 xK = true := by decide +kernel
set_option maxRecDepth 100000 in
theorem zy_chair_0 : zq 99 [(0, zRef (some 102)), (1, .inr (.inl (0, 2147483647))), (2, zAny)] zh0 xThr = true := by decide +kernel
set_option maxRecDepth 100000 in
theorem zx_chair_1 : zq 7 [(0, zRef (some 4)), (1, .inr (.inl (2147483648, 4294967295)))] zh0 xK = true := by decide +kernel
set_option maxRecDepth 100000 in
theorem zy_chair_1 : zq 99 [(0, zRef (some 102)), (1, .inr (.inl (2147483648, 4294967295))), (2, zAny)] zh0 xThr = true := by decide +kernel
theorem zl_ck_chair (x1 : Int32) : ∃ a1 : zV, (∀ (ad : Nat → Nat) (bn : Nat), zG ad bn a1 (.int x1)) ∧ zq 7 [(0, zRef (some 4)), (1, a1)] zh0 xK = true ∧ zq 99 [(0, zRef (some 102)), (1, a1), (2, zAny)] zh0 xThr = true := by
  have hm := zB_max x1
  by_cases h : zB x1 ≤ 2147483647
  · exact ⟨.inr (.inl (0, 2147483647)), fun ad bn => ⟨x1, rfl, Nat.zero_le _, h⟩, zx_chair_0, zy_chair_0⟩
  · exact ⟨.inr (.inl (2147483648, 4294967295)), fun ad bn => ⟨x1, rfl, by omega, hm⟩, zx_chair_1, zy_chair_1⟩
set_option maxHeartbeats 4000000 in
set_option maxRecDepth 100000 in
theorem x_chair {l : Launch} (htr : l.stackTraces = false) {D : va_G} {cy : Nat → ClassId} {z : Nat} {ad : Nat → Nat} (x1 x2 : Int32) : vx_Met l ⟨"ChairAlley", "chair", "(II)I"⟩ (xWs ⟨"ChairAlley", "chair", "(II)I"⟩ prog_1_method_6_code) xRm (xPc D cy z ad [.ref (ad 0), .int x1, .int x2]) (xQ z) (xXC D cy z ad) 1 6 (fun q => z ≤ q) := by
  refine vx_ofW (cc := prog_1_method_6_code) (maxL := 4) (ret := some .int) (by decide) rfl ?_
  intro p e s m args below meth c s₁ B hml htab hv
  obtain ⟨rfl, hst, hz, hF, ws, hR, hP, hD⟩ := hv
  have hx := B.exec
  have hb := B.bytes
  have hts := atoms_spec (ws := xWs ⟨"ChairAlley", "chair", "(II)I"⟩ prog_1_method_6_code) B.pre
  have hwz : ∀ w ∈ zWS, w ∈ xWs ⟨"ChairAlley", "chair", "(II)I"⟩ prog_1_method_6_code := fun w h => List.mem_cons_of_mem _ (List.mem_append_left _ h)
  have hwg : ∀ w ∈ xG, w.before #[Value.ref (ad 0), .int x1, .int x2] s = true := fun w h => hts w (List.mem_cons_of_mem _ (List.mem_append_right _ h))
  have hwx : ∀ w ∈ xX, w.before #[Value.ref (ad 0), .int x1, .int x2] s = true := fun w h => hwg w (List.mem_append_left _ h)
  have hwt : ∀ w ∈ Jvm.Cond.classLink "ChairAlley" 124 xE :: Jvm.Cond.initialized xE :: (vx_at0 "ChairAlley" 126 xE xNm).filter goodWord, w.before #[Value.ref (ad 0), .int x1, .int x2] s = true := fun w h => hwg w (List.mem_append_right _ h)
  have hown : s.vm.findClass "ChairAlley" = some m.cls := findClass_of_methodNamed B.named
  have hS : va_S (fun q => z ≤ q) s.heap s.heap [] := va_S.rf
  have hl := lv_entry ([.ref (ad 0), .int x1, .int x2]) (n := 4) (Nat.le_of_ble_eq_true rfl)
  rw [lg_entry_eq]
  generalize (lg_sl ([.ref (ad 0), .int x1, .int x2]) ++ List.replicate (4 - (lg_sl ([.ref (ad 0), .int x1, .int x2])).length) Slot.unset).toArray = ls at hl ⊢
  have hl : lv_has ls 4 [(0, .ref (ad 0)), (1, .int x1), (2, .int x2)] := hl
  refine lv_aload_n hx hb (show decode prog_1_method_6_code 0 = .ok (.aload_n 0, 1) by decide +kernel) rfl (lv_at hl 0 rfl) ?_
  obtain ⟨e0, he0, vs0, rfl, hg0⟩ := hR.2.2 0 _ (show zGet zh0 0 = some (.inl (10, _)) from rfl)
  obtain ⟨u0, hu0, hv0⟩ := zGs_get (k := 1) (a := zRef (some 3)) hg0 rfl
  have hv0 : u0 = .ref (ad 3) := hv0.1
  subst hv0
  refine va_get hx hb hts (fun w h => hwz w ((zs_cls 10 RX10 TX10 10 rfl).1 w h)) hown hst.1 hP 0 he0 (show vwCl[10]? = some (RX10, TX10, 10) from rfl) 1 (by decide) (hwx (.fieldLink "ChairAlley" 19 (TX10 1).1 (TX10 1).2.1 (TX10 1).2.2.1) (List.mem_of_getElem? (i := 0) rfl)) (fun _ q => q) hu0 (show decode prog_1_method_6_code 1 = .ok (.getfield 19, 3) by decide +kernel) ?_
  obtain ⟨e3, he3, vs3, rfl, hg3⟩ := hR.2.2 3 _ (show zGet zh0 3 = some (.inl (9, _)) from rfl)
  obtain ⟨u3, hu3, hv3⟩ := zGs_get (k := 0) (a := zRef (some 4)) hg3 rfl
  have hv3 : u3 = .ref (ad 4) := hv3.1
  subst hv3
  refine va_get hx hb hts (fun w h => hwz w ((zs_cls 9 RX9 TX9 4 rfl).1 w h)) hown hst.1 hP 3 he3 (show vwCl[9]? = some (RX9, TX9, 4) from rfl) 0 (by decide) (hwx (.fieldLink "ChairAlley" 28 (TX9 0).1 (TX9 0).2.1 (TX9 0).2.2.1) (List.mem_of_getElem? (i := 1) rfl)) (fun _ q => q) hu3 (show decode prog_1_method_6_code 4 = .ok (.getfield 28, 3) by decide +kernel) ?_
  refine lv_iload_n hx hb (show decode prog_1_method_6_code 7 = .ok (.iload_n 1, 1) by decide +kernel) rfl (lv_at hl 1 rfl) ?_
  obtain ⟨a1, g1, hk, -⟩ := zl_ck_chair x1
  obtain ⟨hmt, hM⟩ := zl_met (l := l) (D := D) (cy := cy) (z := z) (ad := ad) (vs := [.ref (ad 4), .int x1]) (show zN zMs 7 = some ((2, 2), 0, 0, zc_7) from rfl) hk ⟨_, _, rfl, ⟨rfl, fun k q => by cases q; exact Nat.le_of_ble_eq_true rfl⟩, _, _, rfl, g1 _ _, rfl⟩ (Nat.le_of_ble_eq_true rfl)
  have hgi : GoodIn (xWs ⟨"ChairAlley", "chair", "(II)I"⟩ prog_1_method_6_code) (wsO zSS 7) := by
    intro w hw
    have hw' : w ∈ zWS := by
      rcases List.mem_cons.mp hw with rfl | hw
      · exact hmt.2.2.2.1
      · exact hw
    exact ⟨hwz w hw', good_of_word (zWS_good w hw')⟩
  obtain ⟨e4, he4, vs4, rfl, -⟩ := hR.2.2 4 _ (show zGet zh0 4 = some (.inl (1, _)) from rfl)
  refine zs_back (S := zSS) (h := zh0) (va_runV (As := [.int x1]) (rest := []) (n := 1) ⟨hx, hb, hml, hown, hts⟩ hM ⟨callB_of 1 hts hgi rfl rfl rfl (hts _ (hwz _ hmt.2.2.2.2.1)) (hwx (.methodLink "ChairAlley" 120 (sY zSS 7)) (List.mem_of_getElem? (i := 2) rfl)) ⟨hmt.2.2.2.2.2.1, hmt.2.2.2.2.2.2, by decide +kernel⟩ ⟨Nat.le_of_ble_eq_true rfl, Nat.le_of_ble_eq_true rfl⟩, hwx (.instanceMethod (sY zSS 7)) (List.mem_of_getElem? (i := 2 + 1) rfl), hwx (.selects (sY zSS 7).cls (sY zSS 7) (sY zSS 7)) (List.mem_of_getElem? (i := 2 + 2) rfl)⟩ ⟨zPc_blind, va_recv hst.1 hP (show vwCl[1]? = some (RX1, TX1, 15) from rfl) he4, fun U hU hW => ⟨rfl, zStat_warm hW hst, by rw [hU]; exact hz, ws, hR, by rw [hU]; exact hP, hD⟩⟩ rfl rfl hl.1 rfl (lv_room (Nat.zero_le _)) (show decode prog_1_method_6_code 8 = .ok (.invokevirtual 120, 3) by decide +kernel) ⟨Nat.le_of_ble_eq_true rfl, Nat.le_of_ble_eq_true rfl⟩) hS (fun r h' v ad' ws' H1 locs1 hK' hgo hA' hN' hR' hP' hD' hS' => ?_)
  obtain ⟨hK1, hK2⟩ := and_eq_true_iff_z hK'
  have hK2 := zHeq_to hK2
  subst hK2
  obtain ⟨x, rfl, hx0⟩ := zSame_to (ad2 := ad) (n2 := 0) (v2 := some (.int (nI 0))) hK1 hgo rfl
  cases hx0
  have hR'' := x_ad hA' hR'
  refine lv_if_ne (tgt := 22) hx hb (show decode prog_1_method_6_code 11 = .ok (.ifCond .ne 11, 3) by decide +kernel) (by decide) (fun q => absurd (by decide) q) (fun _ => ?_)
  refine vx_throw0 (own := "ChairAlley") (cls := xE) (names := xNm) (ik := 124) (ic := 126) (A := fun q => z ≤ q) hx hb htr hown (by decide +kernel) (by decide +kernel) (hwt _ List.mem_cons_self) (hwt _ (List.mem_cons_of_mem _ List.mem_cons_self)) (vx_hat (B := xB) (fun w hw => hwt w (List.mem_cons_of_mem _ (List.mem_cons_of_mem _ hw))) xAt_bad (fun w hw => va_Nw.use (by simp only [xB, List.mem_cons, List.not_mem_nil, or_false] at hw; rcases hw with rfl | rfl | rfl | rfl <;> rfl) (hF.1 w hw))) xAt_ot hF.2.1 hF.2.2 hS' (by rw [hml]; exact hl.1) (show decode prog_1_method_6_code 14 = .ok (.new 124, 3) by decide +kernel) (show decode prog_1_method_6_code 17 = .ok (.dup, 1) by decide +kernel) (show decode prog_1_method_6_code 18 = .ok (.invokespecial 126, 3) by decide +kernel) (show decode prog_1_method_6_code 21 = .ok (.athrow, 1) by decide +kernel) (fun x hx => (htab x hx).elim) (Nat.le_of_ble_eq_true rfl) (Nat.le_of_ble_eq_true rfl) (Nat.le_of_ble_eq_true rfl) (Nat.le_of_ble_eq_true rfl) B.notSynchronized (fun t _ h1 h2 => ⟨(), trivial, ⟨rfl, xWd_kept ⟨ws', hR'', hP', hD'⟩ h2⟩, Nat.le_trans hS'.1 h1, fun q k1 k2 => by rw [h2 q (Nat.lt_of_lt_of_le k1 hS'.1)]; exact hS'.2.1 q k1 k2⟩) hS'.2.2 (Nat.le_of_ble_eq_true rfl) (Nat.le_of_ble_eq_true rfl)
set_option maxRecDepth 100000 in
theorem zx_cell_0 : zq 6 [(0, zRef (some 4)), (1, .inr (.inl (0, 2147483647)))] zh0 xK = true := by decide +kernel
set_option maxRecDepth 100000 in
theorem zy_cell_0 : zq 98 [(0, zRef (some 102)), (1, .inr (.inl (0, 2147483647))), (2, zAny)] zh0 xThr = true := by decide +kernel
set_option maxRecDepth 100000 in
theorem zx_cell_1 : zq 6 [(0, zRef (some 4)), (1, .inr (.inl (2147483648, 4294967295)))] zh0 xK = true := by decide +kernel
set_option maxRecDepth 100000 in
theorem zy_cell_1 : zq 98 [(0, zRef (some 102)), (1, .inr (.inl (2147483648, 4294967295))), (2, zAny)] zh0 xThr = true := by decide +kernel
theorem zl_ck_cell (x1 : Int32) : ∃ a1 : zV, (∀ (ad : Nat → Nat) (bn : Nat), zG ad bn a1 (.int x1)) ∧ zq 6 [(0, zRef (some 4)), (1, a1)] zh0 xK = true ∧ zq 98 [(0, zRef (some 102)), (1, a1), (2, zAny)] zh0 xThr = true := by
  have hm := zB_max x1
  by_cases h : zB x1 ≤ 2147483647
  · exact ⟨.inr (.inl (0, 2147483647)), fun ad bn => ⟨x1, rfl, Nat.zero_le _, h⟩, zx_cell_0, zy_cell_0⟩
  · exact ⟨.inr (.inl (2147483648, 4294967295)), fun ad bn => ⟨x1, rfl, by omega, hm⟩, zx_cell_1, zy_cell_1⟩
set_option maxHeartbeats 4000000 in
set_option maxRecDepth 100000 in
theorem x_cell {l : Launch} (htr : l.stackTraces = false) {D : va_G} {cy : Nat → ClassId} {z : Nat} {ad : Nat → Nat} (x1 x2 : Int32) : vx_Met l ⟨"ChairAlley", "cell", "(II)I"⟩ (xWs ⟨"ChairAlley", "cell", "(II)I"⟩ prog_1_method_7_code) xRm (xPc D cy z ad [.ref (ad 0), .int x1, .int x2]) (xQ z) (xXC D cy z ad) 1 6 (fun q => z ≤ q) := by
  refine vx_ofW (cc := prog_1_method_7_code) (maxL := 4) (ret := some .int) (by decide) rfl ?_
  intro p e s m args below meth c s₁ B hml htab hv
  obtain ⟨rfl, hst, hz, hF, ws, hR, hP, hD⟩ := hv
  have hx := B.exec
  have hb := B.bytes
  have hts := atoms_spec (ws := xWs ⟨"ChairAlley", "cell", "(II)I"⟩ prog_1_method_7_code) B.pre
  have hwz : ∀ w ∈ zWS, w ∈ xWs ⟨"ChairAlley", "cell", "(II)I"⟩ prog_1_method_7_code := fun w h => List.mem_cons_of_mem _ (List.mem_append_left _ h)
  have hwg : ∀ w ∈ xG, w.before #[Value.ref (ad 0), .int x1, .int x2] s = true := fun w h => hts w (List.mem_cons_of_mem _ (List.mem_append_right _ h))
  have hwx : ∀ w ∈ xX, w.before #[Value.ref (ad 0), .int x1, .int x2] s = true := fun w h => hwg w (List.mem_append_left _ h)
  have hwt : ∀ w ∈ Jvm.Cond.classLink "ChairAlley" 124 xE :: Jvm.Cond.initialized xE :: (vx_at0 "ChairAlley" 126 xE xNm).filter goodWord, w.before #[Value.ref (ad 0), .int x1, .int x2] s = true := fun w h => hwg w (List.mem_append_right _ h)
  have hown : s.vm.findClass "ChairAlley" = some m.cls := findClass_of_methodNamed B.named
  have hS : va_S (fun q => z ≤ q) s.heap s.heap [] := va_S.rf
  have hl := lv_entry ([.ref (ad 0), .int x1, .int x2]) (n := 4) (Nat.le_of_ble_eq_true rfl)
  rw [lg_entry_eq]
  generalize (lg_sl ([.ref (ad 0), .int x1, .int x2]) ++ List.replicate (4 - (lg_sl ([.ref (ad 0), .int x1, .int x2])).length) Slot.unset).toArray = ls at hl ⊢
  have hl : lv_has ls 4 [(0, .ref (ad 0)), (1, .int x1), (2, .int x2)] := hl
  refine lv_aload_n hx hb (show decode prog_1_method_7_code 0 = .ok (.aload_n 0, 1) by decide +kernel) rfl (lv_at hl 0 rfl) ?_
  obtain ⟨e0, he0, vs0, rfl, hg0⟩ := hR.2.2 0 _ (show zGet zh0 0 = some (.inl (10, _)) from rfl)
  obtain ⟨u0, hu0, hv0⟩ := zGs_get (k := 1) (a := zRef (some 3)) hg0 rfl
  have hv0 : u0 = .ref (ad 3) := hv0.1
  subst hv0
  refine va_get hx hb hts (fun w h => hwz w ((zs_cls 10 RX10 TX10 10 rfl).1 w h)) hown hst.1 hP 0 he0 (show vwCl[10]? = some (RX10, TX10, 10) from rfl) 1 (by decide) (hwx (.fieldLink "ChairAlley" 19 (TX10 1).1 (TX10 1).2.1 (TX10 1).2.2.1) (List.mem_of_getElem? (i := 0) rfl)) (fun _ q => q) hu0 (show decode prog_1_method_7_code 1 = .ok (.getfield 19, 3) by decide +kernel) ?_
  obtain ⟨e3, he3, vs3, rfl, hg3⟩ := hR.2.2 3 _ (show zGet zh0 3 = some (.inl (9, _)) from rfl)
  obtain ⟨u3, hu3, hv3⟩ := zGs_get (k := 0) (a := zRef (some 4)) hg3 rfl
  have hv3 : u3 = .ref (ad 4) := hv3.1
  subst hv3
  refine va_get hx hb hts (fun w h => hwz w ((zs_cls 9 RX9 TX9 4 rfl).1 w h)) hown hst.1 hP 3 he3 (show vwCl[9]? = some (RX9, TX9, 4) from rfl) 0 (by decide) (hwx (.fieldLink "ChairAlley" 28 (TX9 0).1 (TX9 0).2.1 (TX9 0).2.2.1) (List.mem_of_getElem? (i := 1) rfl)) (fun _ q => q) hu3 (show decode prog_1_method_7_code 4 = .ok (.getfield 28, 3) by decide +kernel) ?_
  refine lv_astore_n (lv' := [(3, .ref (ad 4)), (0, .ref (ad 0)), (1, .int x1), (2, .int x2)]) hx hb (show decode prog_1_method_7_code 7 = .ok (.astore_n 3, 1) by decide +kernel) rfl hl (by decide) rfl (fun ls hl => ?_)
  refine lv_aload_n hx hb (show decode prog_1_method_7_code 8 = .ok (.aload_n 3, 1) by decide +kernel) rfl (lv_at hl 0 rfl) ?_
  refine lv_iload_n hx hb (show decode prog_1_method_7_code 9 = .ok (.iload_n 1, 1) by decide +kernel) rfl (lv_at hl 2 rfl) ?_
  obtain ⟨a1, g1, hk, -⟩ := zl_ck_cell x1
  obtain ⟨hmt, hM⟩ := zl_met (l := l) (D := D) (cy := cy) (z := z) (ad := ad) (vs := [.ref (ad 4), .int x1]) (show zN zMs 6 = some ((2, 2), 0, 0, zc_6) from rfl) hk ⟨_, _, rfl, ⟨rfl, fun k q => by cases q; exact Nat.le_of_ble_eq_true rfl⟩, _, _, rfl, g1 _ _, rfl⟩ (Nat.le_of_ble_eq_true rfl)
  have hgi : GoodIn (xWs ⟨"ChairAlley", "cell", "(II)I"⟩ prog_1_method_7_code) (wsO zSS 6) := by
    intro w hw
    have hw' : w ∈ zWS := by
      rcases List.mem_cons.mp hw with rfl | hw
      · exact hmt.2.2.2.1
      · exact hw
    exact ⟨hwz w hw', good_of_word (zWS_good w hw')⟩
  obtain ⟨e4, he4, vs4, rfl, -⟩ := hR.2.2 4 _ (show zGet zh0 4 = some (.inl (1, _)) from rfl)
  refine zs_back (S := zSS) (h := zh0) (va_runV (As := [.int x1]) (rest := []) (n := 1) ⟨hx, hb, hml, hown, hts⟩ hM ⟨callB_of 1 hts hgi rfl rfl rfl (hts _ (hwz _ hmt.2.2.2.2.1)) (hwx (.methodLink "ChairAlley" 159 (sY zSS 6)) (List.mem_of_getElem? (i := 5) rfl)) ⟨hmt.2.2.2.2.2.1, hmt.2.2.2.2.2.2, by decide +kernel⟩ ⟨Nat.le_of_ble_eq_true rfl, Nat.le_of_ble_eq_true rfl⟩, hwx (.instanceMethod (sY zSS 6)) (List.mem_of_getElem? (i := 5 + 1) rfl), hwx (.selects (sY zSS 6).cls (sY zSS 6) (sY zSS 6)) (List.mem_of_getElem? (i := 5 + 2) rfl)⟩ ⟨zPc_blind, va_recv hst.1 hP (show vwCl[1]? = some (RX1, TX1, 15) from rfl) he4, fun U hU hW => ⟨rfl, zStat_warm hW hst, by rw [hU]; exact hz, ws, hR, by rw [hU]; exact hP, hD⟩⟩ rfl rfl hl.1 rfl (lv_room (Nat.zero_le _)) (show decode prog_1_method_7_code 10 = .ok (.invokevirtual 159, 3) by decide +kernel) ⟨Nat.le_of_ble_eq_true rfl, Nat.le_of_ble_eq_true rfl⟩) hS (fun r h' v ad' ws' H1 locs1 hK' hgo hA' hN' hR' hP' hD' hS' => ?_)
  obtain ⟨hK1, hK2⟩ := and_eq_true_iff_z hK'
  have hK2 := zHeq_to hK2
  subst hK2
  obtain ⟨x, rfl, hx0⟩ := zSame_to (ad2 := ad) (n2 := 0) (v2 := some (.int (nI 0))) hK1 hgo rfl
  cases hx0
  have hR'' := x_ad hA' hR'
  refine lv_if_ne (tgt := 24) hx hb (show decode prog_1_method_7_code 13 = .ok (.ifCond .ne 11, 3) by decide +kernel) (by decide) (fun q => absurd (by decide) q) (fun _ => ?_)
  refine vx_throw0 (own := "ChairAlley") (cls := xE) (names := xNm) (ik := 124) (ic := 126) (A := fun q => z ≤ q) hx hb htr hown (by decide +kernel) (by decide +kernel) (hwt _ List.mem_cons_self) (hwt _ (List.mem_cons_of_mem _ List.mem_cons_self)) (vx_hat (B := xB) (fun w hw => hwt w (List.mem_cons_of_mem _ (List.mem_cons_of_mem _ hw))) xAt_bad (fun w hw => va_Nw.use (by simp only [xB, List.mem_cons, List.not_mem_nil, or_false] at hw; rcases hw with rfl | rfl | rfl | rfl <;> rfl) (hF.1 w hw))) xAt_ot hF.2.1 hF.2.2 hS' (by rw [hml]; exact hl.1) (show decode prog_1_method_7_code 16 = .ok (.new 124, 3) by decide +kernel) (show decode prog_1_method_7_code 19 = .ok (.dup, 1) by decide +kernel) (show decode prog_1_method_7_code 20 = .ok (.invokespecial 126, 3) by decide +kernel) (show decode prog_1_method_7_code 23 = .ok (.athrow, 1) by decide +kernel) (fun x hx => (htab x hx).elim) (Nat.le_of_ble_eq_true rfl) (Nat.le_of_ble_eq_true rfl) (Nat.le_of_ble_eq_true rfl) (Nat.le_of_ble_eq_true rfl) B.notSynchronized (fun t _ h1 h2 => ⟨(), trivial, ⟨rfl, xWd_kept ⟨ws', hR'', hP', hD'⟩ h2⟩, Nat.le_trans hS'.1 h1, fun q k1 k2 => by rw [h2 q (Nat.lt_of_lt_of_le k1 hS'.1)]; exact hS'.2.1 q k1 k2⟩) hS'.2.2 (Nat.le_of_ble_eq_true rfl) (Nat.le_of_ble_eq_true rfl)
theorem xThr_to {ad : Nat → Nat} {n : Nat} {r : Option zV} {h : zHp} {v : Option Value} (hk : xThr r h = true) (hg : zGo ad n r v) : (∃ x : Int32, v = some (.int x)) ∧ (∃ fs, zGet h 102 = some (.inl (11, fs))) ∧ zq 144 [(0, zRef (some 102))] h (fun r2 _ => zSame r2 (some (.inl 1))) = true := by
  match r, v, hk, hg with
  | some (.inl a), some y, hk, hg =>
    refine ⟨⟨nI a, by rw [show y = _ from hg]⟩, ?_⟩
    simp only [xThr] at hk
    cases hr : zRcv 11 [zRef (some 102)] h with
    | false => rw [hr] at hk; cases hk
    | true =>
      rw [hr] at hk
      refine ⟨?_, hk⟩
      simp only [zRcv] at hr
      cases hg : zGet h 102 with
      | none => rw [hg] at hr; cases hr
      | some cell =>
        rw [hg] at hr
        match cell, hr with
        | .inl (k, fs), hr => exact ⟨fs, by rw [Nat.eq_of_beq_eq_true hr]⟩
        | .inr _, hr => cases hr
def xRmL : Room := { frames := 40, cells := 1, slots := 6, locals := 4000 }
set_option maxRecDepth 100000 in
theorem xF_at {s : State} {args : Array Value} (hts : ∀ w ∈ lw_tbl, w.before args s = true) (hgv : (Jvm.Cond.and given_1 narrow_1).before args s = true) : xF (fun q => s.heap.size ≤ q) s := by
  have hg := flat_of_before _ hgv
  refine ⟨fun w hw => ?_, vx_Zqof (hts _ (List.mem_of_getElem? (i := 1292) rfl)) (hts _ (List.mem_of_getElem? (i := 133) rfl)) (hg _ (by decide +kernel)) (fun a h => Nat.not_le.mpr h), vx_Zqof (hts _ (List.mem_of_getElem? (i := 1294) rfl)) (hts _ (List.mem_of_getElem? (i := 133) rfl)) (hg _ (by decide +kernel)) (fun a h => Nat.not_le.mpr h)⟩
  have h1 := hts w (xB_in w hw)
  simp only [xB, List.mem_cons, List.not_mem_nil, or_false] at hw
  rcases hw with rfl | rfl | rfl | rfl <;> exact va_Nw.of rfl h1
def xM_chair : List Jvm.Cond := [.methodLink "ChairAlleyLaw" 41 ⟨"ChairAlleyLaw", "chair", "(LChairAlley;II[J)I"⟩, .static ⟨"ChairAlleyLaw", "chair", "(LChairAlley;II[J)I"⟩, .initialized "ChairAlleyLaw", .codeWith ⟨"ChairAlleyLaw", "chair", "(LChairAlley;II[J)I"⟩ method_3_code 5 (some .int) [(0, 10, 13, 13)]]
def xN_chair : List Jvm.Cond := [.code ⟨"ChairAlley", "chair", "(II)I"⟩ prog_1_method_6_code 4 (some .int), .classLink "ChairAlleyLaw" 13 xE, .methodLink "ChairAlleyLaw" 7 ⟨"ChairAlley", "chair", "(II)I"⟩, .instanceMethod ⟨"ChairAlley", "chair", "(II)I"⟩, .selects "ChairAlley" ⟨"ChairAlley", "chair", "(II)I"⟩ ⟨"ChairAlley", "chair", "(II)I"⟩, .initialized "ChairAlley"]
def xL_chair : List Jvm.Cond := Jvm.Cond.codeWith ⟨"ChairAlleyLaw", "chair", "(LChairAlley;II[J)I"⟩ method_3_code 5 (some .int) [(0, 10, 13, 13)] :: (xN_chair ++ (zWS ++ xG))
set_option maxRecDepth 100000 in
theorem xM_in_chair : ∀ w ∈ xM_chair, w ∈ lw_tbl := List.forall_mem_cons.mpr ⟨List.mem_of_getElem? (i := 1257) rfl, List.forall_mem_cons.mpr ⟨List.mem_of_getElem? (i := 1258) rfl, List.forall_mem_cons.mpr ⟨List.mem_of_getElem? (i := 114) rfl, List.forall_mem_cons.mpr ⟨List.mem_of_getElem? (i := 1259) rfl, fun _ h => nomatch h⟩⟩⟩⟩
set_option maxRecDepth 100000 in
theorem xN_in_chair : ∀ w ∈ xN_chair, w ∈ lw_tbl := List.forall_mem_cons.mpr ⟨List.mem_of_getElem? (i := 1264) rfl, List.forall_mem_cons.mpr ⟨List.mem_of_getElem? (i := 1260) rfl, List.forall_mem_cons.mpr ⟨List.mem_of_getElem? (i := 1261) rfl, List.forall_mem_cons.mpr ⟨List.mem_of_getElem? (i := 1262) rfl, List.forall_mem_cons.mpr ⟨List.mem_of_getElem? (i := 1263) rfl, List.forall_mem_cons.mpr ⟨List.mem_of_getElem? (i := 115) rfl, fun _ h => nomatch h⟩⟩⟩⟩⟩⟩
set_option maxRecDepth 100000 in
theorem xMN_good_chair : (xM_chair ++ xN_chair).all goodWord = true := by decide +kernel
theorem xL_good_chair : GoodIn lw_tbl (va_wsS R_law 41 ⟨"ChairAlleyLaw", "chair", "(LChairAlley;II[J)I"⟩ xL_chair) := by
  intro w hw
  have hw : w ∈ xM_chair ++ (xN_chair ++ (zWS ++ xG)) := hw
  have hgd := List.all_eq_true.mp xMN_good_chair
  rcases List.mem_append.mp hw with h | h
  · exact ⟨xM_in_chair w h, good_of_word (hgd w (List.mem_append_left _ h))⟩
  rcases List.mem_append.mp h with h | h
  · exact ⟨xN_in_chair w h, good_of_word (hgd w (List.mem_append_right _ h))⟩
  rcases List.mem_append.mp h with h | h
  · exact ⟨zWS_in w h, good_of_word (zWS_good w h)⟩
  · exact ⟨xG_in w h, good_of_word (xG_good w h)⟩
theorem xC_good_chair : GoodIn xL_chair (xWs ⟨"ChairAlley", "chair", "(II)I"⟩ prog_1_method_6_code) := by
  intro w hw
  rcases List.mem_cons.mp hw with rfl | h
  · exact ⟨List.mem_cons_of_mem _ (List.mem_append_left _ List.mem_cons_self), good_of_word rfl⟩
  refine ⟨List.mem_cons_of_mem _ (List.mem_append_right _ h), good_of_word ?_⟩
  rcases List.mem_append.mp h with h | h
  · exact zWS_good w h
  · exact xG_good w h
set_option maxHeartbeats 4000000 in
set_option maxRecDepth 100000 in
theorem xh_chair {l : Launch} (htr : l.stackTraces = false) {D : va_G} {cy : Nat → ClassId} {z : Nat} {ad : Nat → Nat} (x1 x2 : Int32) (q9 : Nat) : Met l ⟨"ChairAlleyLaw", "chair", "(LChairAlley;II[J)I"⟩ xL_chair xRmL (xPc D cy z ad [.ref (ad 0), .int x1, .int x2, .ref q9]) (xhQ D cy z ad) 1 6 (fun q => z ≤ q) := by
  have hmet : vx_Met l ⟨"ChairAlleyLaw", "chair", "(LChairAlley;II[J)I"⟩ xL_chair xRmL (xPc D cy z ad [.ref (ad 0), .int x1, .int x2, .ref q9]) (xhQ D cy z ad) (fun _ _ _ => False) 1 6 (fun q => z ≤ q) := by
    refine vx_ofWH (cc := method_3_code) (maxL := 5) (ret := some .int) (hh := [(0, 10, 13, 13)]) (by decide) rfl ?_
    intro p e s m args below meth c s₁ B hml hv
    obtain ⟨rfl, hst, hz, hF, ws, hR, hP, hD⟩ := hv
    have hx := B.exec
    have hb := B.bytes
    have hts := atoms_spec (ws := xL_chair) B.pre
    have hwn : ∀ w ∈ xN_chair, w.before #[Value.ref (ad 0), .int x1, .int x2, .ref q9] s = true := fun w h => hts w (List.mem_cons_of_mem _ (List.mem_append_left _ h))
    have hown : s.vm.findClass "ChairAlleyLaw" = some m.cls := findClass_of_methodNamed B.named
    have htab := vx_table (x := ⟨"ChairAlleyLaw", "chair", "(LChairAlley;II[J)I"⟩) B (hts _ List.mem_cons_self)
    have hS : va_S (fun q => z ≤ q) s.heap s.heap [] := va_S.rf
    have hl := lv_entry ([.ref (ad 0), .int x1, .int x2, .ref q9]) (n := 5) (Nat.le_of_ble_eq_true rfl)
    rw [lg_entry_eq]
    generalize (lg_sl ([.ref (ad 0), .int x1, .int x2, .ref q9]) ++ List.replicate (5 - (lg_sl ([.ref (ad 0), .int x1, .int x2, .ref q9])).length) Slot.unset).toArray = ls at hl ⊢
    have hl : lv_has ls 5 [(0, .ref (ad 0)), (1, .int x1), (2, .int x2), (3, .ref q9)] := hl
    refine lv_aload_n hx hb (show decode method_3_code 0 = .ok (.aload_n 3, 1) by decide +kernel) rfl (lv_at hl 3 rfl) ?_
    refine lv_iconst (v := 0) hx hb (show decode method_3_code 1 = .ok (.iconst 0, 1) by decide +kernel) (by decide) ?_
    refine lv_aload_n hx hb (show decode method_3_code 2 = .ok (.aload_n 0, 1) by decide +kernel) rfl (lv_at hl 0 rfl) ?_
    refine lv_iload_n hx hb (show decode method_3_code 3 = .ok (.iload_n 1, 1) by decide +kernel) rfl (lv_at hl 1 rfl) ?_
    refine lv_iload_n hx hb (show decode method_3_code 4 = .ok (.iload_n 2, 1) by decide +kernel) rfl (lv_at hl 2 rfl) ?_
    obtain ⟨e0, he0, vs0, rfl, -⟩ := hR.2.2 0 _ (show zGet zh0 0 = some (.inl (10, _)) from rfl)
    refine vx_calli (A0 := fun q => z ≤ q) (vx_runV (As := [.int x1, .int x2]) (rest := [.int 0, .ref q9]) (n := 2) ⟨hx, hb, hml, hown, hts⟩ (x_chair htr x1 x2) ⟨callB_of 2 hts xC_good_chair rfl rfl rfl (hwn _ (List.mem_of_getElem? (i := 5) rfl)) (hwn (.methodLink "ChairAlleyLaw" 7 ⟨"ChairAlley", "chair", "(II)I"⟩) (List.mem_of_getElem? (i := 2) rfl)) ⟨by decide, by decide, by decide +kernel⟩ ⟨Nat.le_of_ble_eq_true rfl, Nat.le_of_ble_eq_true rfl⟩, hwn (.instanceMethod ⟨"ChairAlley", "chair", "(II)I"⟩) (List.mem_of_getElem? (i := 3) rfl), hwn (.selects "ChairAlley" ⟨"ChairAlley", "chair", "(II)I"⟩ ⟨"ChairAlley", "chair", "(II)I"⟩) (List.mem_of_getElem? (i := 4) rfl)⟩ ⟨xPc_blind, va_recv hst.1 hP (show vwCl[10]? = some (RX10, TX10, 10) from rfl) he0, fun U hU hW => ⟨rfl, zStat_warm hW hst, by rw [hU]; exact hz, xF_to hW (fun a _ _ => by rw [hU]) hF, by rw [hU]; exact ⟨ws, hR, hP, hD⟩⟩⟩ rfl rfl hl.1 rfl (lv_room (Nat.le_of_ble_eq_true rfl)) (show decode method_3_code 5 = .ok (.invokevirtual 7, 3) by decide +kernel) ⟨Nat.le_of_ble_eq_true rfl, Nat.le_of_ble_eq_true rfl⟩) hS (fun _ _ h => h) (fun _ h => h) (fun _ _ h => h) (fun E ce q1 u t H1 locs1 ht _ _ hBX _ _ hS1 hce hcv hcl => ?_) (fun r u t H1 locs1 _ _ hf => hf.elim)
    obtain ⟨rfl, hWd⟩ := hBX
    refine vx_catch (own := "ChairAlleyLaw") (name := xE) hown [] ⟨0, 10, 13, 13⟩ [] (by rw [htab]; rfl) (fun z hz => nomatch hz) (by decide) (by decide) (hwn _ (List.mem_of_getElem? (i := 1) rfl)) (va_Nw.use rfl (hF.1 (.castable xE xE) (List.mem_of_getElem? (i := 3) rfl))) hce hcv hcl ?_
    refine lv_astore (lv' := [(4, .ref q1), (0, .ref (ad 0)), (1, .int x1), (2, .int x2), (3, .ref q9)]) hx hb (show decode method_3_code 13 = .ok (.astore 4, 2) by decide +kernel) hl (by decide) rfl (fun ls hl => ?_)
    refine lv_iconst (v := nI 1) hx hb (show decode method_3_code 15 = .ok (.iconst 1, 1) by decide +kernel) (by decide) ?_
    refine vx_ret (W.widen (show 0 + 1 ≤ 1 from Nat.le_refl _) (show 0 + 6 ≤ 6 from Nat.le_refl _) ?_)
    exact W.iret hx hb B.returns (fun t' ht' _ => ⟨⟨nI 1, (), rfl, rfl, by show xWd D cy z ad t'.heap; rw [ht', ← ht]; exact hWd⟩, hS1.F ht'⟩) hS1.2.2 (show decode method_3_code 16 = .ok (.ireturn, 1) by decide +kernel) B.notSynchronized
  refine MetFree.mono hmet (fun _ _ h => h) (fun _ _ _ _ _ h => h) (fun a st o t _ hq => ?_)
  rcases hq with h | ⟨q, _, E, ce, L, hf, _⟩
  · exact h
  · exact hf.elim
def xM_cell : List Jvm.Cond := [.methodLink "ChairAlleyLaw" 50 ⟨"ChairAlleyLaw", "cell", "(LChairAlley;II[J)I"⟩, .static ⟨"ChairAlleyLaw", "cell", "(LChairAlley;II[J)I"⟩, .initialized "ChairAlleyLaw", .codeWith ⟨"ChairAlleyLaw", "cell", "(LChairAlley;II[J)I"⟩ method_4_code 5 (some .int) [(0, 10, 13, 13)]]
def xN_cell : List Jvm.Cond := [.code ⟨"ChairAlley", "cell", "(II)I"⟩ prog_1_method_7_code 4 (some .int), .classLink "ChairAlleyLaw" 13 xE, .methodLink "ChairAlleyLaw" 15 ⟨"ChairAlley", "cell", "(II)I"⟩, .instanceMethod ⟨"ChairAlley", "cell", "(II)I"⟩, .selects "ChairAlley" ⟨"ChairAlley", "cell", "(II)I"⟩ ⟨"ChairAlley", "cell", "(II)I"⟩, .initialized "ChairAlley"]
def xL_cell : List Jvm.Cond := Jvm.Cond.codeWith ⟨"ChairAlleyLaw", "cell", "(LChairAlley;II[J)I"⟩ method_4_code 5 (some .int) [(0, 10, 13, 13)] :: (xN_cell ++ (zWS ++ xG))
set_option maxRecDepth 100000 in
theorem xM_in_cell : ∀ w ∈ xM_cell, w ∈ lw_tbl := List.forall_mem_cons.mpr ⟨List.mem_of_getElem? (i := 1326) rfl, List.forall_mem_cons.mpr ⟨List.mem_of_getElem? (i := 1327) rfl, List.forall_mem_cons.mpr ⟨List.mem_of_getElem? (i := 114) rfl, List.forall_mem_cons.mpr ⟨List.mem_of_getElem? (i := 1328) rfl, fun _ h => nomatch h⟩⟩⟩⟩
set_option maxRecDepth 100000 in
theorem xN_in_cell : ∀ w ∈ xN_cell, w ∈ lw_tbl := List.forall_mem_cons.mpr ⟨List.mem_of_getElem? (i := 1332) rfl, List.forall_mem_cons.mpr ⟨List.mem_of_getElem? (i := 1260) rfl, List.forall_mem_cons.mpr ⟨List.mem_of_getElem? (i := 1329) rfl, List.forall_mem_cons.mpr ⟨List.mem_of_getElem? (i := 1330) rfl, List.forall_mem_cons.mpr ⟨List.mem_of_getElem? (i := 1331) rfl, List.forall_mem_cons.mpr ⟨List.mem_of_getElem? (i := 115) rfl, fun _ h => nomatch h⟩⟩⟩⟩⟩⟩
set_option maxRecDepth 100000 in
theorem xMN_good_cell : (xM_cell ++ xN_cell).all goodWord = true := by decide +kernel
theorem xL_good_cell : GoodIn lw_tbl (va_wsS R_law 50 ⟨"ChairAlleyLaw", "cell", "(LChairAlley;II[J)I"⟩ xL_cell) := by
  intro w hw
  have hw : w ∈ xM_cell ++ (xN_cell ++ (zWS ++ xG)) := hw
  have hgd := List.all_eq_true.mp xMN_good_cell
  rcases List.mem_append.mp hw with h | h
  · exact ⟨xM_in_cell w h, good_of_word (hgd w (List.mem_append_left _ h))⟩
  rcases List.mem_append.mp h with h | h
  · exact ⟨xN_in_cell w h, good_of_word (hgd w (List.mem_append_right _ h))⟩
  rcases List.mem_append.mp h with h | h
  · exact ⟨zWS_in w h, good_of_word (zWS_good w h)⟩
  · exact ⟨xG_in w h, good_of_word (xG_good w h)⟩
theorem xC_good_cell : GoodIn xL_cell (xWs ⟨"ChairAlley", "cell", "(II)I"⟩ prog_1_method_7_code) := by
  intro w hw
  rcases List.mem_cons.mp hw with rfl | h
  · exact ⟨List.mem_cons_of_mem _ (List.mem_append_left _ List.mem_cons_self), good_of_word rfl⟩
  refine ⟨List.mem_cons_of_mem _ (List.mem_append_right _ h), good_of_word ?_⟩
  rcases List.mem_append.mp h with h | h
  · exact zWS_good w h
  · exact xG_good w h
set_option maxHeartbeats 4000000 in
set_option maxRecDepth 100000 in
theorem xh_cell {l : Launch} (htr : l.stackTraces = false) {D : va_G} {cy : Nat → ClassId} {z : Nat} {ad : Nat → Nat} (x1 x2 : Int32) (q9 : Nat) : Met l ⟨"ChairAlleyLaw", "cell", "(LChairAlley;II[J)I"⟩ xL_cell xRmL (xPc D cy z ad [.ref (ad 0), .int x1, .int x2, .ref q9]) (xhQ D cy z ad) 1 6 (fun q => z ≤ q) := by
  have hmet : vx_Met l ⟨"ChairAlleyLaw", "cell", "(LChairAlley;II[J)I"⟩ xL_cell xRmL (xPc D cy z ad [.ref (ad 0), .int x1, .int x2, .ref q9]) (xhQ D cy z ad) (fun _ _ _ => False) 1 6 (fun q => z ≤ q) := by
    refine vx_ofWH (cc := method_4_code) (maxL := 5) (ret := some .int) (hh := [(0, 10, 13, 13)]) (by decide) rfl ?_
    intro p e s m args below meth c s₁ B hml hv
    obtain ⟨rfl, hst, hz, hF, ws, hR, hP, hD⟩ := hv
    have hx := B.exec
    have hb := B.bytes
    have hts := atoms_spec (ws := xL_cell) B.pre
    have hwn : ∀ w ∈ xN_cell, w.before #[Value.ref (ad 0), .int x1, .int x2, .ref q9] s = true := fun w h => hts w (List.mem_cons_of_mem _ (List.mem_append_left _ h))
    have hown : s.vm.findClass "ChairAlleyLaw" = some m.cls := findClass_of_methodNamed B.named
    have htab := vx_table (x := ⟨"ChairAlleyLaw", "cell", "(LChairAlley;II[J)I"⟩) B (hts _ List.mem_cons_self)
    have hS : va_S (fun q => z ≤ q) s.heap s.heap [] := va_S.rf
    have hl := lv_entry ([.ref (ad 0), .int x1, .int x2, .ref q9]) (n := 5) (Nat.le_of_ble_eq_true rfl)
    rw [lg_entry_eq]
    generalize (lg_sl ([.ref (ad 0), .int x1, .int x2, .ref q9]) ++ List.replicate (5 - (lg_sl ([.ref (ad 0), .int x1, .int x2, .ref q9])).length) Slot.unset).toArray = ls at hl ⊢
    have hl : lv_has ls 5 [(0, .ref (ad 0)), (1, .int x1), (2, .int x2), (3, .ref q9)] := hl
    refine lv_aload_n hx hb (show decode method_4_code 0 = .ok (.aload_n 3, 1) by decide +kernel) rfl (lv_at hl 3 rfl) ?_
    refine lv_iconst (v := 0) hx hb (show decode method_4_code 1 = .ok (.iconst 0, 1) by decide +kernel) (by decide) ?_
    refine lv_aload_n hx hb (show decode method_4_code 2 = .ok (.aload_n 0, 1) by decide +kernel) rfl (lv_at hl 0 rfl) ?_
    refine lv_iload_n hx hb (show decode method_4_code 3 = .ok (.iload_n 1, 1) by decide +kernel) rfl (lv_at hl 1 rfl) ?_
    refine lv_iload_n hx hb (show decode method_4_code 4 = .ok (.iload_n 2, 1) by decide +kernel) rfl (lv_at hl 2 rfl) ?_
    obtain ⟨e0, he0, vs0, rfl, -⟩ := hR.2.2 0 _ (show zGet zh0 0 = some (.inl (10, _)) from rfl)
    refine vx_calli (A0 := fun q => z ≤ q) (vx_runV (As := [.int x1, .int x2]) (rest := [.int 0, .ref q9]) (n := 2) ⟨hx, hb, hml, hown, hts⟩ (x_cell htr x1 x2) ⟨callB_of 2 hts xC_good_cell rfl rfl rfl (hwn _ (List.mem_of_getElem? (i := 5) rfl)) (hwn (.methodLink "ChairAlleyLaw" 15 ⟨"ChairAlley", "cell", "(II)I"⟩) (List.mem_of_getElem? (i := 2) rfl)) ⟨by decide, by decide, by decide +kernel⟩ ⟨Nat.le_of_ble_eq_true rfl, Nat.le_of_ble_eq_true rfl⟩, hwn (.instanceMethod ⟨"ChairAlley", "cell", "(II)I"⟩) (List.mem_of_getElem? (i := 3) rfl), hwn (.selects "ChairAlley" ⟨"ChairAlley", "cell", "(II)I"⟩ ⟨"ChairAlley", "cell", "(II)I"⟩) (List.mem_of_getElem? (i := 4) rfl)⟩ ⟨xPc_blind, va_recv hst.1 hP (show vwCl[10]? = some (RX10, TX10, 10) from rfl) he0, fun U hU hW => ⟨rfl, zStat_warm hW hst, by rw [hU]; exact hz, xF_to hW (fun a _ _ => by rw [hU]) hF, by rw [hU]; exact ⟨ws, hR, hP, hD⟩⟩⟩ rfl rfl hl.1 rfl (lv_room (Nat.le_of_ble_eq_true rfl)) (show decode method_4_code 5 = .ok (.invokevirtual 15, 3) by decide +kernel) ⟨Nat.le_of_ble_eq_true rfl, Nat.le_of_ble_eq_true rfl⟩) hS (fun _ _ h => h) (fun _ h => h) (fun _ _ h => h) (fun E ce q1 u t H1 locs1 ht _ _ hBX _ _ hS1 hce hcv hcl => ?_) (fun r u t H1 locs1 _ _ hf => hf.elim)
    obtain ⟨rfl, hWd⟩ := hBX
    refine vx_catch (own := "ChairAlleyLaw") (name := xE) hown [] ⟨0, 10, 13, 13⟩ [] (by rw [htab]; rfl) (fun z hz => nomatch hz) (by decide) (by decide) (hwn _ (List.mem_of_getElem? (i := 1) rfl)) (va_Nw.use rfl (hF.1 (.castable xE xE) (List.mem_of_getElem? (i := 3) rfl))) hce hcv hcl ?_
    refine lv_astore (lv' := [(4, .ref q1), (0, .ref (ad 0)), (1, .int x1), (2, .int x2), (3, .ref q9)]) hx hb (show decode method_4_code 13 = .ok (.astore 4, 2) by decide +kernel) hl (by decide) rfl (fun ls hl => ?_)
    refine lv_iconst (v := nI 1) hx hb (show decode method_4_code 15 = .ok (.iconst 1, 1) by decide +kernel) (by decide) ?_
    refine vx_ret (W.widen (show 0 + 1 ≤ 1 from Nat.le_refl _) (show 0 + 6 ≤ 6 from Nat.le_refl _) ?_)
    exact W.iret hx hb B.returns (fun t' ht' _ => ⟨⟨nI 1, (), rfl, rfl, by show xWd D cy z ad t'.heap; rw [ht', ← ht]; exact hWd⟩, hS1.F ht'⟩) hS1.2.2 (show decode method_4_code 16 = .ok (.ireturn, 1) by decide +kernel) B.notSynchronized
  refine MetFree.mono hmet (fun _ _ h => h) (fun _ _ _ _ _ h => h) (fun a st o t _ hq => ?_)
  rcases hq with h | ⟨q, _, E, ce, L, hf, _⟩
  · exact h
  · exact hf.elim
