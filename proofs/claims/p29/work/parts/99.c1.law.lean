/-! THE CLAIM OUT OF ONE WALK OF THE LAW'S BODY. Your part is whole_start (and what it stands on); all else here is the same for every law, but numbers. -/
def R_law : String := "ChairAlleyLaw"
def lw_P (b : Addr) (xs : List Int32) (args : Array Value) (s : State) : Prop := args = #[.ref b] ∧ s.IntsAt b xs ∧ xs.length ≤ 3072 ∧ (Jvm.Cond.and given_1 narrow_1).before args s = true
def lw_Q (_ : Array Value) (s : State) (o : Outcome) (t : State) : Prop := o = .returned (some (.int 1)) ∧ Framed s o t [] 601024 7293034
def lw_Z (below : List Frame) (a : Array Value) (s : State) : State → Prop := fun t => ∃ o, t.status = .running ∧ Ended t below o ∧ lw_Q a s o t
/-- the law's own end, with 1 on the stack, nothing written that was there before, its room as the claim has it -/
theorem lw_ret {p : Program} {l : Launch} {e : Env} {s : State} {m : MethodId} {below : List Frame} {meth : Method} {c : Code} {b : Nat} (hx : p.tables.exec = Jvm.exec) (hb : c.code = code) (hr : meth.sig.returnType = ret) (hlocks : meth.locks = false) {pc : Nat} {H : Heap} {ls : Array Slot} (hdg : decode code pc = .ok (.ireturn, 1)) : W p l e room_1 s m #[Value.ref b] below meth c H [] 601024 7293034 (lw_Z below #[Value.ref b] s) (F0 m pc ls [.int 1]) := by
  intro T hT X
  obtain ⟨fs, hret, hrun, hended, hW, hframe⟩ := X.leave (v := some (.int 1)) (hlocks := hlocks) (fun h => by rw [hr] at h; cases h)
  have hmeth' : T.vm.method? m = some meth := X.method'
  refine ⟨T.setFrames fs, ?_, .returned (some (.int 1)), hrun, hended, rfl, ⟨_, rfl⟩, hW, hframe⟩
  jvm_step X.here [X.here.top, hx, hb, hdg, hmeth', hr, ret, narrow_b1]
  (try refine ⟨rfl, ?_⟩); (try refine ⟨rfl, ?_⟩)
  first | (intro acts; rw [hret _ acts rfl rfl rfl]) | rw [hret _ _ rfl rfl rfl]
  exact Steps.refl _
/-- what holds at the law's entry: the machine, the code, the tables' words (any of lw_tbl by 'hts w (by decide +kernel)'), the script of L ints xs at the cell b, what the Statement gives of the start (any of its parts by flat_of_before) -/
def lw_At (p : Program) (s : State) (m : MethodId) (meth : Method) (c : Code) (b L : Nat) (xs : Nat → Int32) : Prop :=
  p.tables.exec = Jvm.exec ∧ c.code = code ∧ meth.sig.returnType = ret ∧ c.maxLocals = 7 ∧ s.vm.findClass R_law = some m.cls ∧ (∀ w ∈ lw_tbl, w.before #[Value.ref b] s = true) ∧ va_X b L xs s s.heap ∧ b < s.heap.size ∧ meth.locks = false ∧ (Jvm.Cond.and given_1 narrow_1).before #[Value.ref b] s = true
/-! THE LAW over the exact machine (printed by wip/whole/y/gen200.py) -/
theorem zl_arrP {s : State} {args : Array Value} {ty : FieldType} (hne : ∀ C, ty ≠ .object C) (h : (Jvm.Cond.arrayClass ty).before args s = true) : ∃ cA : ClassId, ArrOfT s cA ty ∧ va_RA s cA ty := by
  obtain ⟨c, k, comp, h1, h2, h3⟩ := Cond.arrayClass_spec h
  refine ⟨c, fun n z => ⟨fun k h => (by cases h), k, h2, comp, h3⟩, ?_⟩
  cases ty with
  | object C => exact absurd rfl (hne C)
  | _ => exact h1
theorem zl_arrQ {s : State} {args : Array Value} {C : String} (h : (Jvm.Cond.arrayOver (.object C)).before args s = true) : ∃ cA : ClassId, ArrOfT s cA (.object C) ∧ va_RA s cA (.object C) := by
  obtain ⟨comp, c, k, h1, h2, h3, h4, h5⟩ := Cond.arrayOver_spec h
  exact ⟨c, fun n z => ⟨fun k h => (by cases h), k, h3, comp, h4⟩, k, comp, h3, h4, h1, h5⟩
set_option maxRecDepth 100000 in
theorem zl_ao : ∀ C ∈ zAO, Jvm.Cond.arrayOver (.object C) ∈ lw_tbl := by decide +kernel
set_option maxRecDepth 100000 in
theorem zl_nw : ∀ q ∈ zNW, Jvm.Cond.methodLinkNest q.1 q.2.1 q.2.2.1 q.2.2.2 ∈ lw_tbl := by decide +kernel
theorem yl_stat {s : State} {args : Array Value} (hts : ∀ w ∈ lw_tbl, w.before args s = true) : ∃ (D : va_G) (cy : Nat → ClassId), zStat zSS D cy s := by
  have hw : ∀ w ∈ zWS, w.before args s = true := fun w h => hts w (zWS_in w h)
  have kn : ∀ (ci : Nat) (C : String) (T : u_T) (N : Nat), vwCl[ci]? = some (C, T, N) → ∃ (cC : ClassId) (iS : Nat → Nat), u_Kn s C T N cC iS := by
    intro ci C T N h
    have h1 := (zs_cls ci C T N h).1
    have hlt : ci < (sCl zSS).length := (List.getElem?_eq_some_iff.mp h).1
    obtain ⟨C1, T1, N1, ty, vd, k1, -, -, -, -, k5, -⟩ := zs_mk ci hlt
    have k1 : vwCl[ci]? = some (C1, T1, N1) := k1
    rw [h] at k1
    cases k1
    exact u_known (n := N) hw h1 (hw _ k5)
  obtain ⟨c0, a0, r0⟩ := zl_arrP (s := s) (args := args) (ty := .byte) (fun C q => by cases q) (hw _ zs_ac.1)
  obtain ⟨c1, a1, r1⟩ := zl_arrP (s := s) (args := args) (ty := .int) (fun C q => by cases q) (hw _ zs_ac.2.1)
  obtain ⟨c2, a2, r2⟩ := zl_arrP (s := s) (args := args) (ty := .long) (fun C q => by cases q) (hw _ zs_ac.2.2.1)
  obtain ⟨c3, a3, r3⟩ := zl_arrP (s := s) (args := args) (ty := .boolean) (fun C q => by cases q) (hw _ zs_ac.2.2.2)
  obtain ⟨c4, a4, r4⟩ := zl_arrQ (s := s) (args := args) (C := "ChairAlley$State") (hts _ (zl_ao _ (by decide)))
  obtain ⟨c5, a5, r5⟩ := zl_arrQ (s := s) (args := args) (C := "ChairAlley$World") (hts _ (zl_ao _ (by decide)))
  have kn2 : ∃ (dC : Nat → ClassId) (dI : Nat → Nat → Nat), ∀ (k : Nat) (q : vw_C), vwCl[k]? = some q → u_Kn s q.1 q.2.1 q.2.2 (dC k) (dI k) := by
    have kn3 : ∀ k : Nat, ∃ (cC : ClassId) (iS : Nat → Nat), ∀ q : vw_C, vwCl[k]? = some q → u_Kn s q.1 q.2.1 q.2.2 cC iS := by
      intro k
      cases hq : vwCl[k]? with
      | none => exact ⟨c0, fun _ => 0, fun q h => by cases h⟩
      | some q =>
        obtain ⟨C, T, N⟩ := q
        obtain ⟨cC, iS, h⟩ := kn k C T N hq
        exact ⟨cC, iS, fun q' h' => by cases h'; exact h⟩
    exact ⟨fun k => (kn3 k).choose, fun k => (kn3 k).choose_spec.choose, fun k => (kn3 k).choose_spec.choose_spec⟩
  obtain ⟨dC, dI, hd⟩ := kn2
  refine ⟨(dC, dI), fun k => if k = 0 then c0 else if k = 1 then c1 else if k = 2 then c2 else if k = 3 then c3 else if k = 4 then c4 else c5, ⟨hd, fun k q h => ?_⟩, fun q hq => va_Nw.of rfl (hts _ (zl_nw q hq)), fun C hC => hts _ (zl_ao C hC)⟩
  match k, h with
  | 0, h => cases h; exact ⟨a0, r0⟩
  | 1, h => cases h; exact ⟨a1, r1⟩
  | 2, h => cases h; exact ⟨a2, r2⟩
  | 3, h => cases h; exact ⟨a3, r3⟩
  | 4, h => cases h; exact ⟨a4, r4⟩
  | 5, h => cases h; exact ⟨a5, r5⟩
  | k + 6, h => cases h
set_option maxRecDepth 100000 in
theorem xF_at {s : State} {args : Array Value} (hts : ∀ w ∈ lw_tbl, w.before args s = true) (hgv : (Jvm.Cond.and given_1 narrow_1).before args s = true) : xF (fun q => s.heap.size ≤ q) s := by
  have hg := flat_of_before _ hgv
  refine ⟨fun w hw => ?_, vx_Zqof (hts _ (List.mem_of_getElem? (i := 1292) rfl)) (hts _ (List.mem_of_getElem? (i := 133) rfl)) (hg _ (by decide +kernel)) (fun a h => Nat.not_le.mpr h), vx_Zqof (hts _ (List.mem_of_getElem? (i := 1294) rfl)) (hts _ (List.mem_of_getElem? (i := 133) rfl)) (hg _ (by decide +kernel)) (fun a h => Nat.not_le.mpr h)⟩
  have h1 := hts w (xB_in w hw)
  simp only [xB, List.mem_cons, List.not_mem_nil, or_false] at hw
  rcases hw with rfl | rfl | rfl | rfl <;> exact va_Nw.of rfl h1
set_option maxRecDepth 100000 in
set_option maxHeartbeats 4000000 in
theorem zTx_at {s : State} {args : Array Value} (hts : ∀ w ∈ lw_tbl, w.before args s = true) (hgv : (Jvm.Cond.and given_1 narrow_1).before args s = true) : zTx (fun q => s.heap.size ≤ q) s := by
  have hg := flat_of_before _ hgv
  obtain ⟨adK, adV, h1, h2⟩ := vk_Sof (args := args) (s := s) (N := 1) (tm := fun _ => .string "ChairAlley$Reader" 67) (len := [112]) (byt := [zWd]) (A := fun q => s.heap.size ≤ q) (fun i hi => by
      have : i = 0 := by omega
      subst this
      decide)
    (fun i hi => hg _ (by decide +kernel)) (fun i hi => hg _ (by decide +kernel)) (fun i hi => hg _ (by decide +kernel)) (fun i hi => by
      have : i = 0 := by omega
      subst this
      exact hg _ (by decide +kernel)) (fun i hi j hj => by
      have : i = 0 := by omega
      subst this
      exact hg _ (by revert j; decide +kernel)) (fun i j hi hj hne => absurd (show i = j by omega) hne) (fun a h => Nat.not_le.mpr h)
  refine ⟨⟨adK 0, adV 0, vk_R.of (A := args) (hts _ (List.mem_of_getElem? (i := 625) rfl)) (h2 0 (by decide)), ⟨fun i hi => ?_, fun i j hi hj _ => by omega⟩⟩, va_Zof (hts _ (List.mem_of_getElem? (i := 635) rfl)) (hts _ (List.mem_of_getElem? (i := 129) rfl)) (va_eqi (hg _ (by decide +kernel))) (fun a h => Nat.not_le.mpr h), va_Zqof (hts _ (List.mem_of_getElem? (i := 651) rfl)) (hts _ (List.mem_of_getElem? (i := 131) rfl)) (hg _ (by decide +kernel)) (fun a h => Nat.not_le.mpr h)⟩
  have : i = 0 := by omega
  subst this
  exact h1.1 0 hi
/-- what stays so in the law -/
def lwX (p : Program) (l : Launch) (s : State) (m : MethodId) (c : Code) (b L : Nat) (xs : Nat → Int32) (D : va_G) (cy : Nat → ClassId) : Prop :=
  p.tables.exec = Jvm.exec ∧ c.code = code ∧ c.maxLocals = 7 ∧ s.vm.findClass R_law = some m.cls ∧ (∀ w ∈ lw_tbl, w.before #[Value.ref b] s = true) ∧ va_X b L xs s s.heap ∧ b < s.heap.size ∧ zStat zSS D cy s ∧ zHp s.heap.size s ∧ l.stackTraces = false ∧ L ≤ 3072
/-- what the heap stands for -/
def lwS (s : State) (D : va_G) (cy : Nat → ClassId) (ad : Nat → Nat) (h : yHp) (H : Heap) (locs : List Loc) : Prop :=
  ∃ ws, yRel ad cy zFk h ws ∧ va_P D vwCl ws H ∧ va_D (fun q => s.heap.size ≤ q) ws ∧ va_S (fun q => s.heap.size ≤ q) s.heap H locs
theorem yGo_none {ad : Nat → Nat} {n : Nat} {v : Option Value} (h : yGo ad n none v) : v = none := by
  match v, h with
  | none, _ => rfl
theorem yGo_int {ad : Nat → Nat} {n : Nat} {x : Int} {v : Option Value} (h : yGo ad n (some (yi x)) v) : ∃ y : Int32, v = some (.int y) ∧ y.toInt = x := by
  match v, h with
  | some w, h =>
    obtain ⟨i, h1, h2⟩ := (h : ∃ i : Int32, w = .int i ∧ i.toInt = x)
    exact ⟨i, by rw [h1], h2⟩
theorem yl_good {a ml : Nat} (hmt : zMt zSS a ml) : GoodIn lw_tbl (wsO zSS a) := by
  intro w hw
  have hw' : w ∈ zWS := by
    rcases List.mem_cons.mp hw with rfl | hw
    · exact hmt.2.2.2.1
    · exact hw
  exact ⟨zWS_in w hw', good_of_word (zWS_good w hw')⟩
theorem yl_room {a ml mc ms : Nat} (hmt : zMt zSS a ml) : (zRm 60 mc ms).frames + 1 ≤ room_1.frames ∧ 8 + (sM zSS a + 11) + (zRm 60 mc ms).locals ≤ room_1.locals := by
  refine ⟨Nat.le_of_ble_eq_true rfl, ?_⟩
  show 8 + (sM zSS a + 11) + 60 * 60 ≤ 84000
  have := hmt.2.1
  have := hmt.2.2.1
  omega
theorem yG_r {ad : Nat → Nat} {n q : Nat} (h : q < n) : yG ad n (yr (some q)) (.ref (ad q)) := ⟨rfl, fun k e => by cases e; exact h⟩
theorem yG_i {ad : Nat → Nat} {n : Nat} (x : Int32) : yG ad n (yi x.toInt) (.int x) := ⟨x, rfl, rfl⟩
section Yl
variable {p : Program} {l : Launch} {e : Env} {s : State} {m : MethodId} {below : List Frame} {meth : Method} {c : Code} {b L : Nat} {xs : Nat → Int32} {D : va_G} {cy : Nat → ClassId} {Q : State → Prop}
/-- a call of a method of an object that answers an int, from the law -/
theorem yl_callV (X : lwX p l s m c b L xs D cy) {a ml mc ms n x pc q nq ec cells slots : Nat} {T9 : u_T} {N9 : Nat} {as : List yV} {As rest : List Value} {ad : Nat → Nat} {h : yHp} {H : Heap} {locs : List Loc} {ls : Array Slot} {K' : yKo} {lo : yL}
    (hth : zThr a = false) (hmt : zMtB zSS zPl a ml = true) (hk : yW l zSS D cy zFk s.heap.size 60 a mc ms K' 0 0 0 lo [] h) (hlo : yArg (yr (some q) :: as) 0 = lo)
    (hgs : yGs ad h.1 (yr (some q) :: as) (.ref (ad q) :: As)) (hcat : yCat (yr (some q) :: as) ≤ ml) (hq : q < h.1) (hqt : yTy h q = (10 + ec, nq)) (hec : vwCl[ec]? = some ((sY zSS a).cls, T9, N9))
    (hlk : Jvm.Cond.methodLink R_law x (sY zSS a) ∈ lw_tbl) (hin : Jvm.Cond.instanceMethod (sY zSS a) ∈ lw_tbl) (hse : Jvm.Cond.selects (sY zSS a).cls (sY zSS a) (sY zSS a) ∈ lw_tbl) (hpar : (parseMethodDescriptor (sY zSS a).desc).map (fun d => d.parameters.length) = some n) (hAs : As.length = n)
    (S : lwS s D cy ad h H locs) (hl : ls.size = 7) (hcat2 : (rest.map fun v => v.category).sum ≤ 8) (hd : decode code pc = .ok (.invokevirtual x, 3)) (hf : cells + mc ≤ room_1.cells ∧ slots + ms ≤ room_1.slots) (hint : ∀ r h', K' r h' → ∃ x, r = some (yi x))
    (kk : ∀ (y : Int32) (h' : yHp) (ad' : Nat → Nat) (H1 : Heap) (locs1 : List Loc), K' (some (yi y.toInt)) h' → (∀ k, k < h.1 → ad' k = ad k) → h.1 ≤ h'.1 → lwS s D cy ad' h' H1 locs1 → W p l e room_1 s m #[Value.ref b] below meth c H1 locs1 (cells + mc) (slots + ms) Q (F0 m (pc + 3) ls (.int y :: rest))) :
    W p l e room_1 s m #[Value.ref b] below meth c H locs cells slots Q (F0 m pc ls (As.reverse ++ .ref (ad q) :: rest)) := by
  obtain ⟨hx, hb, hml, hown, hts, -, -, hst, hz, -, -⟩ := X
  obtain ⟨ws, hR, hP, hD, hS⟩ := S
  subst hlo
  have hmt := zMtB_to hmt
  have hlen : (lg_sl (.ref (ad q) :: As)).length ≤ sM zSS a := by rw [zs_sl, yGs_cat hgs, hmt.2.1]; exact hcat
  have hM := ys_met hth hmt hk (yArg_to _ _ 0 hgs) hlen
  obtain ⟨ee, he, hge⟩ := hR.2.2 q hq
  obtain ⟨vs', rfl, -⟩ := hge.2.2.2.1 ec (by rw [hqt])
  refine ys_back (h := h) (va_runV (As := As) (rest := rest) (n := n) ⟨hx, hb, hml, hown, hts⟩ hM ⟨callB_of n hts (yl_good hmt) rfl rfl rfl (hts _ (zWS_in _ hmt.2.2.2.2.1)) (hts _ hlk) ⟨hmt.2.2.2.2.2.1, hmt.2.2.2.2.2.2, hpar⟩ (yl_room hmt), hts _ hin, hts _ hse⟩ ⟨yPc_blind, va_recv hst.1 hP hec he, fun U hU hW => ⟨rfl, zStat_warm hW hst, zHp_to hW hU hS hz, ws, hR, by rw [hU]; exact hP, hD⟩⟩ rfl hAs hl rfl (lv_room hcat2) hd hf) hS (fun r h' v ad' ws' H1 locs1 a1 a2 a3 a4 a5 a6 a7 a8 => ?_)
  obtain ⟨x, rfl⟩ := hint r h' a1
  obtain ⟨y, rfl, rfl⟩ := yGo_int a2
  exact kk y h' ad' H1 locs1 a1 a3 a4 ⟨ws', a5, a6, a7, a8⟩
/-- a call of a constructor without values, from the law -/
theorem yl_callI (X : lwX p l s m c b L xs D cy) {a ml mc ms x pc q cells slots : Nat} {rest : List Value} {ad : Nat → Nat} {h : yHp} {H : Heap} {locs : List Loc} {ls : Array Slot} {K' : yKo}
    (hth : zThr a = false) (hmt : zMtB zSS zPl a ml = true) (h1ml : 1 ≤ ml) (hk : yW l zSS D cy zFk s.heap.size 60 a mc ms K' 0 0 0 [(0, yr (some q))] [] h) (hq : q < h.1) (hnm : (sY zSS a).name = "<init>") (hrt : sR zSS a = none)
    (hlk : Jvm.Cond.methodLink R_law x (sY zSS a) ∈ lw_tbl) (hin : Jvm.Cond.instanceMethod (sY zSS a) ∈ lw_tbl) (hpar : (parseMethodDescriptor (sY zSS a).desc).map (fun d => d.parameters.length) = some 0)
    (S : lwS s D cy ad h H locs) (hl : ls.size = 7) (hcat2 : (rest.map fun v => v.category).sum ≤ 8) (hd : decode code pc = .ok (.invokespecial x, 3)) (hf : cells + mc ≤ room_1.cells ∧ slots + ms ≤ room_1.slots) (hvoid : ∀ r h', K' r h' → r = none)
    (kk : ∀ (h' : yHp) (ad' : Nat → Nat) (H1 : Heap) (locs1 : List Loc), K' none h' → (∀ k, k < h.1 → ad' k = ad k) → h.1 ≤ h'.1 → lwS s D cy ad' h' H1 locs1 → W p l e room_1 s m #[Value.ref b] below meth c H1 locs1 (cells + mc) (slots + ms) Q (F0 m (pc + 3) ls rest)) :
    W p l e room_1 s m #[Value.ref b] below meth c H locs cells slots Q (F0 m pc ls (.ref (ad q) :: rest)) := by
  obtain ⟨hx, hb, hml, hown, hts, -, -, hst, hz, -, -⟩ := X
  obtain ⟨ws, hR, hP, hD, hS⟩ := S
  have hmt := zMtB_to hmt
  have hgs : yGs ad h.1 [yr (some q)] [.ref (ad q)] := ⟨_, _, rfl, yG_r hq, rfl⟩
  have hlen : (lg_sl [.ref (ad q)]).length ≤ sM zSS a := by rw [hmt.2.1]; exact h1ml
  have hM := ys_met hth hmt hk (yArg_to _ _ 0 hgs) hlen
  have hcb := callB_of (R := room_1) (rm := zRm 60 mc ms) (own := R_law) (index := x) (mc := mc) (ms := ms) 0 hts (yl_good hmt) rfl rfl rfl (hts _ (zWS_in _ hmt.2.2.2.2.1)) (hts _ hlk) ⟨hmt.2.2.2.2.2.1, hmt.2.2.2.2.2.2, hpar⟩ (yl_room hmt)
  rw [hrt] at hcb
  refine ys_back (h := h) (va_runI (As := []) (rest := rest) (n := 0) ⟨hx, hb, hml, hown, hts⟩ hM ⟨hcb, hnm, hts _ hin⟩ ⟨yPc_blind, fun U hU hW => ⟨rfl, zStat_warm hW hst, zHp_to hW hU hS hz, ws, hR, by rw [hU]; exact hP, hD⟩⟩ rfl rfl hl rfl (lv_room hcat2) hd hf) hS (fun r h' v ad' ws' H1 locs1 a1 a2 a3 a4 a5 a6 a7 a8 => ?_)
  have e := hvoid r h' a1
  subst e
  have e := yGo_none a2
  subst e
  exact kk h' ad' H1 locs1 a1 a3 a4 ⟨ws', a5, a6, a7, a8⟩
/-- an object is made, from the law -/
theorem yl_new (X : lwX p l s m c b L xs D cy) {x pc cells slots ci N : Nat} {C0 : String} {T0 : u_T} {rest : List Value} {ad : Nat → Nat} {h : yHp} {H : Heap} {locs : List Loc} {ls : Array Slot} (hci : ci < (sCl zSS).length) (hc0 : vwCl[ci]? = some (C0, T0, N)) (hlk : Jvm.Cond.classLink R_law x C0 ∈ lw_tbl)
    (S : lwS s D cy ad h H locs) (hd : decode code pc = .ok (.new x, 3)) (h1 : cells + 1 ≤ room_1.cells) (h2 : slots + N ≤ room_1.slots)
    (kk : ∀ (q : Nat) (H1 : Heap), lwS s D cy (yAd ad h.1 q) (yNw h (10 + ci) N) H1 locs → W p l e room_1 s m #[Value.ref b] below meth c H1 locs (cells + 1) (slots + N) Q (F0 m (pc + 3) ls (.ref q :: rest))) :
    W p l e room_1 s m #[Value.ref b] below meth c H locs cells slots Q (F0 m pc ls rest) := by
  obtain ⟨hx, hb, hml, hown, hts, -, -, hst, hz, -, -⟩ := X
  obtain ⟨ws, hR, hP, hD, hS⟩ := S
  obtain ⟨C1, T1, N1, ty, vd, k1, k2, k3, k4, k4', k5, k6⟩ := zs_mk ci hci
  have k1 : vwCl[ci]? = some (C1, T1, N1) := k1
  rw [hc0] at k1
  cases k1
  refine va_new hx hb hts (fun w hw => zWS_in _ ((zs_cls _ _ _ _ hc0).1 w hw)) ty k2 hown (hts _ hlk) (hts _ (zWS_in _ k5)) (hts _ (zWS_in _ k6)) hst.1 hP hD hS (fun q hq => hq) hc0 k4' h1 h2 hd (fun q H1 hP' hD' hS' => ?_)
  refine kk q H1 ⟨_, yRel_add hR ?_, hP', hD', hS'⟩
  have ht : yTy (yNw h (10 + ci) N) h.1 = (10 + ci, N) := if_pos rfl
  unfold yGc
  rw [ht]
  refine ⟨fun w => ?_, fun w => ?_, fun w => ?_, fun c' w => ?_, fun n w => absurd (congrArg Prod.fst w) (by show ¬ (10 + ci = 3); omega)⟩
  · exfalso; simp at w; omega
  · exfalso; simp at w; omega
  · exfalso; simp at w; omega
  · have : c' = ci := by simp at w; omega
    subst this
    refine ⟨vd, rfl, k3, fun j hj => ⟨_, k4 j hj, ?_⟩⟩
    have eI : yI (yNw h (10 + c') N) h.1 j = 0 := if_pos rfl
    have eR : yR (yNw h (10 + c') N) h.1 j = none := if_pos rfl
    unfold yFd
    rw [eI, eR]
    generalize zFk c' j = so
    match so with
    | 0 => exact ⟨0, rfl, rfl⟩
    | 1 => exact ⟨0, rfl, rfl⟩
    | _ + 2 => exact ⟨rfl, fun k w => by cases w⟩
/-- the law's row of one long is made -/
theorem yl_row (X : lwX p l s m c b L xs D cy) {pc cells slots : Nat} {rest : List Value} {ad : Nat → Nat} {h : yHp} {H : Heap} {locs : List Loc} {ls : Array Slot}
    (S : lwS s D cy ad h H locs) (hd : decode code pc = .ok (.newarray .long, 2)) (h1 : cells + 1 ≤ room_1.cells) (h2 : slots + 1 ≤ room_1.slots)
    (kk : ∀ (q : Nat) (H1 : Heap), lwS s D cy (yAd ad h.1 q) (yNw h 2 1) H1 locs → W p l e room_1 s m #[Value.ref b] below meth c H1 locs (cells + 1) (slots + 1) Q (F0 m (pc + 2) ls (.ref q :: rest))) :
    W p l e room_1 s m #[Value.ref b] below meth c H locs cells slots Q (F0 m pc ls (.int 1 :: rest)) := by
  obtain ⟨hx, hb, hml, hown, hts, -, -, hst, hz, -, -⟩ := X
  obtain ⟨ws, hR, hP, hD, hS⟩ := S
  refine va_newa (atype := .long) (ty := .long) (a0 := (1, .inr (.inl (fun _ => 0)))) hx hb (hts _ (zWS_in _ zs_ac.2.2.1)) rfl hst.1 hP hD hS (fun q hq => hq) (fun cA => rfl) (by decide) (by decide) (by decide) h1 h2 hd (fun q cA H1 hK' hP' hD' hS' => ?_)
  have hcA := zs_cA 2 hst.1 hK' rfl
  subst hcA
  refine kk q H1 ⟨_, yRel_add hR ?_, hP', hD', hS'⟩
  have ht : yTy (yNw h 2 1) h.1 = (2, 1) := if_pos rfl
  have eI : ∀ j, yI (yNw h 2 1) h.1 j = 0 := fun j => if_pos rfl
  unfold yGc
  rw [ht]
  refine ⟨fun w => ?_, fun _ => ⟨fun _ => 0, rfl, fun j hj => by rw [eI]; rfl⟩, fun w => ?_, fun c' w => ?_, fun n' w => absurd (congrArg Prod.fst w) (by show ¬ (2 = 3); decide)⟩
  · exfalso; simp at w
  · exfalso; simp at w
  · exfalso; simp at w; omega
/-- the law loads the k-th int of its call -/
theorem yl_arg (X : lwX p l s m c b L xs D cy) {ad : Nat → Nat} {h : yHp} {H : Heap} {locs : List Loc} {cells slots pc : Nat} {ls : Array Slot} {rest : List Value} (S : lwS s D cy ad h H locs) (i k : Nat) (hk : i + k < L) (h0 : ls[0]? = some (.val (.ref b))) (h4 : ls[4]? = some (.val (.int (nI i))))
    (d0 : decode code pc = .ok (.aload_n 0, 1)) (d1 : decode code (pc + 1) = .ok (.iload 4, 2)) (d2 : decode code (pc + 3) = .ok (.iconst k, 1)) (d3 : decode code (pc + 4) = .ok (.iadd, 1)) (d4 : decode code (pc + 5) = .ok (.iaload, 1))
    (kk : W p l e room_1 s m #[Value.ref b] below meth c H locs cells slots Q (F0 m (pc + 6) ls (.int (xs (i + k)) :: rest))) : W p l e room_1 s m #[Value.ref b] below meth c H locs cells slots Q (F0 m pc ls rest) := by
  obtain ⟨hx, hb, hml, hown, hts, hX, hbl, hst, hz, -, hL⟩ := X
  obtain ⟨ws, hR, hP, hD, hS⟩ := S
  refine lv_aload_n hx hb d0 rfl h0 ?_
  refine lv_iload hx hb d1 h4 ?_
  refine lv_iconst (v := nI k) hx hb d2 Int32.ofInt_eq_ofNat ?_
  refine lv_iadd hx hb d3 ?_
  rw [nI_add]
  have hcl : (nI (i + k)).toNatClampNeg = i + k := nI_clamp (by omega)
  refine va_sld (A := fun q => s.heap.size ≤ q) hx hb hX hbl (Nat.not_le.mpr hbl) hS (vp_in_iff.mpr (by rw [nI_toInt (by omega)]; omega)) d4 ?_
  rw [hcl]
  exact kk
end Yl
