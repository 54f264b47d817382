/-! WHAT HOLDS AT THE LAW's ENTRY, and its calls of methods by the abstract machine -/
theorem zl_arrP {s : State} {args : Array Value} {ty : FieldType} (hne : ∀ C, ty ≠ .object C) (h : (Jvm.Cond.arrayClass ty).before args s = true) : ∃ cA : ClassId, ArrOfT s cA ty ∧ va_RA s cA ty := by
  obtain ⟨c, k, comp, h1, h2, h3⟩ := Cond.arrayClass_spec h
  refine ⟨c, fun n z => ⟨fun k h => (by cases h), k, h2, comp, h3⟩, ?_⟩
  cases ty with
  | object C => exact absurd rfl (hne C)
  | _ => exact h1
theorem zl_arrQ {s : State} {args : Array Value} {C : String} (h : (Jvm.Cond.arrayOver (.object C)).before args s = true) : ∃ cA : ClassId, ArrOfT s cA (.object C) ∧ va_RA s cA (.object C) := by
  obtain ⟨comp, c, k, h1, h2, h3, h4, h5⟩ := Cond.arrayOver_spec h
  exact ⟨c, fun n z => ⟨fun k h => (by cases h), k, h3, comp, h4⟩, k, comp, h3, h4, h1, h5⟩
set_option maxRecDepth 100000 in
theorem zl_ao : ∀ C ∈ zAO, Jvm.Cond.arrayOver (.object C) ∈ lw_tbl := by decide +kernel
set_option maxRecDepth 100000 in
theorem zl_nw : ∀ q ∈ zNW, Jvm.Cond.methodLinkNest q.1 q.2.1 q.2.2.1 q.2.2.2 ∈ lw_tbl := by decide +kernel
theorem zl_stat {s : State} {args : Array Value} (hts : ∀ w ∈ lw_tbl, w.before args s = true) : ∃ (D : va_G) (cy : Nat → ClassId), zStat zSS D cy s := by
  have hw : ∀ w ∈ zWS, w.before args s = true := fun w h => hts w (zWS_in w h)
  have kn : ∀ (ci : Nat) (C : String) (T : u_T) (N : Nat), vwCl[ci]? = some (C, T, N) → ∃ (cC : ClassId) (iS : Nat → Nat), u_Kn s C T N cC iS := by
    intro ci C T N h
    have h1 := (zs_cls ci C T N h).1
    have hlt : ci < 12 := (List.getElem?_eq_some_iff.mp h).1
    obtain ⟨fs, hfs⟩ : ∃ fs, zGG.2.1[ci]? = some fs := ⟨_, List.getElem?_eq_getElem (show ci < zGG.2.1.length from hlt)⟩
    obtain ⟨C1, T1, N1, ty, k1, k2, k3, k4, k5, k6⟩ := zs_mk ci fs hfs
    have k1 : vwCl[ci]? = some (C1, T1, N1) := k1
    rw [h] at k1
    cases k1
    exact u_known (n := N) hw h1 (hw _ k5)
  obtain ⟨c0, a0, r0⟩ := zl_arrP (s := s) (args := args) (ty := .byte) (fun C q => by cases q) (hw _ zs_ac.1)
  obtain ⟨c1, a1, r1⟩ := zl_arrP (s := s) (args := args) (ty := .int) (fun C q => by cases q) (hw _ zs_ac.2.1)
  obtain ⟨c2, a2, r2⟩ := zl_arrP (s := s) (args := args) (ty := .long) (fun C q => by cases q) (hw _ zs_ac.2.2.1)
  obtain ⟨c3, a3, r3⟩ := zl_arrP (s := s) (args := args) (ty := .boolean) (fun C q => by cases q) (hw _ zs_ac.2.2.2)
  obtain ⟨c4, a4, r4⟩ := zl_arrQ (s := s) (args := args) (C := "ChairAlley$State") (hts _ (zl_ao _ (by decide)))
  obtain ⟨c5, a5, r5⟩ := zl_arrQ (s := s) (args := args) (C := "ChairAlley$World") (hts _ (zl_ao _ (by decide)))
  have kn2 : ∃ (dC : Nat → ClassId) (dI : Nat → Nat → Nat), ∀ (k : Nat) (q : vw_C), vwCl[k]? = some q → u_Kn s q.1 q.2.1 q.2.2 (dC k) (dI k) := by
    have kn3 : ∀ k : Nat, ∃ (cC : ClassId) (iS : Nat → Nat), ∀ q : vw_C, vwCl[k]? = some q → u_Kn s q.1 q.2.1 q.2.2 cC iS := by
      intro k
      cases hq : vwCl[k]? with
      | none => exact ⟨c0, fun _ => 0, fun q h => by cases h⟩
      | some q =>
        obtain ⟨C, T, N⟩ := q
        obtain ⟨cC, iS, h⟩ := kn k C T N hq
        exact ⟨cC, iS, fun q' h' => by cases h'; exact h⟩
    exact ⟨fun k => (kn3 k).choose, fun k => (kn3 k).choose_spec.choose, fun k => (kn3 k).choose_spec.choose_spec⟩
  obtain ⟨dC, dI, hd⟩ := kn2
  refine ⟨(dC, dI), fun k => if k = 0 then c0 else if k = 1 then c1 else if k = 2 then c2 else if k = 3 then c3 else if k = 4 then c4 else c5, ⟨hd, fun k q h => ?_⟩, fun q hq => va_Nw.of rfl (hts _ (zl_nw q hq)), fun C hC => hts _ (zl_ao C hC)⟩
  match k, h with
  | 0, h => cases h; exact ⟨a0, r0⟩
  | 1, h => cases h; exact ⟨a1, r1⟩
  | 2, h => cases h; exact ⟨a2, r2⟩
  | 3, h => cases h; exact ⟨a3, r3⟩
  | 4, h => cases h; exact ⟨a4, r4⟩
  | 5, h => cases h; exact ⟨a5, r5⟩
  | k + 6, h => cases h
theorem zl_goodL {a ml : Nat} (hmt : zMt zSS a ml) : GoodIn lw_tbl (wsO zSS a) := by
  intro w hw
  have hw' : w ∈ zWS := by
    rcases List.mem_cons.mp hw with rfl | hw
    · exact hmt.2.2.2.1
    · exact hw
  exact ⟨zWS_in w hw', good_of_word (zWS_good w hw')⟩
/-- a method's contract, by a check that the kernel ran -/
theorem zl_met {l : Launch} {D : va_G} {cy : Nat → ClassId} {z : Nat} {a an ml mc ms : Nat} {tb' : zT} (hG : zN zMs a = some ((an, ml), mc, ms, tb')) {lo : zL} {h : zHp} {K : zKo} {ad : Nat → Nat} {vs : List Value} (hk : zq a lo h K = true) (hlo : zGl ad h.1 lo (lv_args 0 vs)) (hlen : (lg_sl vs).length ≤ ml) :
    zMt zSS a ml ∧ Met l (sY zSS a) (wsO zSS a) (zRm 12 mc ms) (zPc zSS D cy z ad h vs) (zQ zSS D cy z ad h.1 K) mc ms (fun q => z ≤ q) := by
  have hrow := zs_rows a ((an, ml), mc, ms, tb') (by rw [← zN_eq]; exact hG)
  have hmt : zMt zSS a ml := zMtB_to hrow.1.1 hrow.1.2
  refine ⟨hmt, zs_met (G := zGG) (zs_run zs_all 4000000) hG hmt ?_ hlo (by rw [hmt.2.1]; exact hlen)⟩
  unfold zq at hk
  rw [hG] at hk
  exact hk
section Zl
variable {p : Program} {l : Launch} {e : Env} {s : State} {m : MethodId} {args : Array Value} {below : List Frame} {meth : Method} {c : Code} {D : va_G} {cy : Nat → ClassId} {Q : State → Prop}
theorem zl_room {d mc ms ml : Nat} (h : ml ≤ 21) (hd : d = 12) : (zRm d mc ms).frames + 1 ≤ room_1.frames ∧ 8 + (ml + 11) + (zRm d mc ms).locals ≤ room_1.locals := by
  subst hd
  refine ⟨Nat.le_of_ble_eq_true rfl, ?_⟩
  show 8 + (ml + 11) + 60 * 12 ≤ 84000
  omega
/-- a call of a method of an object, from the law -/
theorem zl_callV (hx : p.tables.exec = Jvm.exec) (hb : c.code = code) (hml : c.maxLocals = 7) (hown : s.vm.findClass R_law = some m.cls) (hts : ∀ w ∈ lw_tbl, w.before args s = true) (hst : zStat zSS D cy s) {a an ml mc ms n x pc q ec : Nat} {tb' : zT} {T9 : u_T} {N9 : Nat} {fs9 : List zV} {As rest : List Value} {lo : zL} {h : zHp} {K : zKo} {ad : Nat → Nat} {ws : va_W} {H : Heap} {locs : List Loc} {cells slots : Nat} {ls : Array Slot}
    (hG : zN zMs a = some ((an, ml), mc, ms, tb')) (hk : zq a lo h K = true) (hlo : zGl ad h.1 lo (lv_args 0 (.ref (ad q) :: As))) (hlen : (lg_sl (.ref (ad q) :: As)).length ≤ ml) (hq : zGet h q = some (.inl (ec, fs9))) (hec : vwCl[ec]? = some ((sY zSS a).cls, T9, N9))
    (hlk : Jvm.Cond.methodLink R_law x (sY zSS a) ∈ lw_tbl) (hin : Jvm.Cond.instanceMethod (sY zSS a) ∈ lw_tbl) (hse : Jvm.Cond.selects (sY zSS a).cls (sY zSS a) (sY zSS a) ∈ lw_tbl) (hpar : (parseMethodDescriptor (sY zSS a).desc).map (fun d => d.parameters.length) = some n) (hAs : As.length = n)
    (hR : zR ad cy h ws) (hP : va_P D vwCl ws H) (hD : va_D (fun q => s.heap.size ≤ q) ws) (hS : va_S (fun q => s.heap.size ≤ q) s.heap H locs) (hl : ls.size = 7) (hcat : (rest.map fun v => v.category).sum ≤ 8) (hd : decode code pc = .ok (.invokevirtual x, 3)) (hf : cells + mc ≤ room_1.cells ∧ slots + ms ≤ room_1.slots)
    (kk : ∀ (r : Option zV) (h' : zHp) (v : Option Value) (ad' : Nat → Nat) (ws' : va_W) (H1 : Heap) (locs1 : List Loc), K r h' = true → zGo ad' h'.1 r v → (∀ k, k < h.1 → ad' k = ad k) → h.1 ≤ h'.1 → zR ad' cy h' ws' → va_P D vwCl ws' H1 → va_D (fun q => s.heap.size ≤ q) ws' → va_S (fun q => s.heap.size ≤ q) s.heap H1 locs1 → W p l e room_1 s m args below meth c H1 locs1 (cells + mc) (slots + ms) Q (F0 m (pc + 3) ls (v.toList ++ rest))) :
    W p l e room_1 s m args below meth c H locs cells slots Q (F0 m pc ls (As.reverse ++ .ref (ad q) :: rest)) := by
  obtain ⟨hmt, hM⟩ := zl_met (l := l) (D := D) (cy := cy) (z := s.heap.size) hG hk hlo hlen
  obtain ⟨ee, he, hge⟩ := hR.2.2 q _ hq
  obtain ⟨vs', rfl, -⟩ := hge
  exact zs_back (S := zSS) (h := h) (va_runV (As := As) (rest := rest) (n := n) ⟨hx, hb, hml, hown, hts⟩ hM ⟨callB_of n hts (zl_goodL hmt) rfl rfl rfl (hts _ (zWS_in _ hmt.2.2.2.2.1)) (hts _ hlk) ⟨hmt.2.2.2.2.2.1, hmt.2.2.2.2.2.2, hpar⟩ (zl_room (by rw [hmt.2.1]; exact hmt.2.2.1) rfl), hts _ hin, hts _ hse⟩ ⟨zPc_blind, va_recv hst.1 hP hec he, fun U hU hW => ⟨rfl, zStat_warm hW hst, by rw [hU]; exact hS.1, ws, hR, by rw [hU]; exact hP, hD⟩⟩ rfl hAs hl rfl (lv_room hcat) hd hf) hS kk
/-- a call of a constructor without values, from the law -/
theorem zl_callI (hx : p.tables.exec = Jvm.exec) (hb : c.code = code) (hml : c.maxLocals = 7) (hown : s.vm.findClass R_law = some m.cls) (hts : ∀ w ∈ lw_tbl, w.before args s = true) (hst : zStat zSS D cy s) {a an ml mc ms x pc q : Nat} {tb' : zT} {rest : List Value} {lo : zL} {h : zHp} {K : zKo} {ad : Nat → Nat} {ws : va_W} {H : Heap} {locs : List Loc} {cells slots : Nat} {ls : Array Slot}
    (hG : zN zMs a = some ((an, ml), mc, ms, tb')) (hk : zq a lo h K = true) (hlo : zGl ad h.1 lo (lv_args 0 [.ref (ad q)])) (hlen : 1 ≤ ml) (hnm : (sY zSS a).name = "<init>") (hrt : sR zSS a = none)
    (hlk : Jvm.Cond.methodLink R_law x (sY zSS a) ∈ lw_tbl) (hin : Jvm.Cond.instanceMethod (sY zSS a) ∈ lw_tbl) (hpar : (parseMethodDescriptor (sY zSS a).desc).map (fun d => d.parameters.length) = some 0)
    (hR : zR ad cy h ws) (hP : va_P D vwCl ws H) (hD : va_D (fun q => s.heap.size ≤ q) ws) (hS : va_S (fun q => s.heap.size ≤ q) s.heap H locs) (hl : ls.size = 7) (hcat : (rest.map fun v => v.category).sum ≤ 8) (hd : decode code pc = .ok (.invokespecial x, 3)) (hf : cells + mc ≤ room_1.cells ∧ slots + ms ≤ room_1.slots)
    (kk : ∀ (r : Option zV) (h' : zHp) (v : Option Value) (ad' : Nat → Nat) (ws' : va_W) (H1 : Heap) (locs1 : List Loc), K r h' = true → zGo ad' h'.1 r v → (∀ k, k < h.1 → ad' k = ad k) → h.1 ≤ h'.1 → zR ad' cy h' ws' → va_P D vwCl ws' H1 → va_D (fun q => s.heap.size ≤ q) ws' → va_S (fun q => s.heap.size ≤ q) s.heap H1 locs1 → W p l e room_1 s m args below meth c H1 locs1 (cells + mc) (slots + ms) Q (F0 m (pc + 3) ls (v.toList ++ rest))) :
    W p l e room_1 s m args below meth c H locs cells slots Q (F0 m pc ls (.ref (ad q) :: rest)) := by
  obtain ⟨hmt, hM⟩ := zl_met (l := l) (D := D) (cy := cy) (z := s.heap.size) hG hk hlo hlen
  have hcb := callB_of (R := room_1) (rm := zRm 12 mc ms) (own := R_law) (index := x) (mc := mc) (ms := ms) 0 hts (zl_goodL hmt) rfl rfl rfl (hts _ (zWS_in _ hmt.2.2.2.2.1)) (hts _ hlk) ⟨hmt.2.2.2.2.2.1, hmt.2.2.2.2.2.2, hpar⟩ (zl_room (by rw [hmt.2.1]; exact hmt.2.2.1) rfl)
  rw [hrt] at hcb
  exact zs_back (S := zSS) (h := h) (va_runI (As := []) (rest := rest) (n := 0) ⟨hx, hb, hml, hown, hts⟩ hM ⟨hcb, hnm, hts _ hin⟩ ⟨zPc_blind, fun U hU hW => ⟨rfl, zStat_warm hW hst, by rw [hU]; exact hS.1, ws, hR, by rw [hU]; exact hP, hD⟩⟩ rfl rfl hl rfl (lv_room hcat) hd hf) hS kk
/-- the law loads the k-th int of its script -/
theorem zl_arg (hx : p.tables.exec = Jvm.exec) (hb : c.code = code) {b L : Nat} {xs : Nat → Int32} (hX : va_X b L xs s s.heap) (hbl : b < s.heap.size) {H : Heap} {locs : List Loc} {cells slots pc : Nat} {ls : Array Slot} {rest : List Value} (hS : va_S (fun q => s.heap.size ≤ q) s.heap H locs) (k : Nat) (hk : k < L) (hL : L ≤ 6) (h0 : ls[0]? = some (.val (.ref b))) (h4 : ls[4]? = some (.val (.int 0)))
    (d0 : decode code pc = .ok (.aload_n 0, 1)) (d1 : decode code (pc + 1) = .ok (.iload 4, 2)) (d2 : decode code (pc + 3) = .ok (.iconst k, 1)) (d3 : decode code (pc + 4) = .ok (.iadd, 1)) (d4 : decode code (pc + 5) = .ok (.iaload, 1))
    (kk : W p l e room_1 s m args below meth c H locs cells slots Q (F0 m (pc + 6) ls (.int (xs k) :: rest))) : W p l e room_1 s m args below meth c H locs cells slots Q (F0 m pc ls rest) := by
  refine lv_aload_n hx hb d0 rfl h0 ?_
  refine lv_iload hx hb d1 h4 ?_
  refine lv_iconst (v := nI k) hx hb d2 Int32.ofInt_eq_ofNat ?_
  refine lv_iadd hx hb d3 ?_
  have he : (0 : Int32) + nI k = nI k := by simp
  rw [he]
  have hcl : (nI k).toNatClampNeg = k := nI_clamp (by omega)
  refine va_sld (A := fun q => s.heap.size ≤ q) hx hb hX hbl (Nat.not_le.mpr hbl) hS (zs_in hk (by omega)) d4 ?_
  rw [hcl]
  exact kk
end Zl
