/-! THE EXACT MACHINE, 5: calls. -/
def yArg : List yV → Nat → yL
  | [], _ => []
  | v :: t, i => (i, v) :: yArg t (cond (yIsL v) (Nat.succ (Nat.succ i)) (Nat.succ i))
def yPush (r : Option yV) (st : List yV) : List yV := match r with
  | some v => v :: st
  | none => st
theorem yArg_to {ad : Nat → Nat} {bn : Nat} : ∀ (as : List yV) (vs : List Value) (i : Nat), yGs ad bn as vs → yGl ad bn (yArg as i) (lv_args i vs) := by
  intro as
  induction as with
  | nil => intro vs i h; rw [show vs = [] from h]; exact rfl
  | cons a t ih =>
    intro vs i h
    obtain ⟨v, vt, rfl, h1, h2⟩ := h
    have hc : v.category = cond (yIsL a) 2 1 := yG_cat h1
    have hr := ih vt (cond (yIsL a) (Nat.succ (Nat.succ i)) (Nat.succ i)) h2
    refine ⟨v, _, rfl, h1, ?_⟩
    cases hL : yIsL a with
    | true =>
      rw [hL] at hr hc
      rw [if_pos (show v.category = 2 from hc)]
      exact hr
    | false =>
      rw [hL] at hr hc
      rw [if_neg (show ¬ v.category = 2 by rw [show v.category = 1 from hc]; decide)]
      exact hr
theorem yGs_app {ad : Nat → Nat} {bn : Nat} : ∀ {as bs : List yV} {vs : List Value}, yGs ad bn (as ++ bs) vs → ∃ va vb, vs = va ++ vb ∧ yGs ad bn as va ∧ yGs ad bn bs vb := by
  intro as
  induction as with
  | nil => intro bs vs h; exact ⟨[], vs, rfl, rfl, h⟩
  | cons a t ih =>
    intro bs vs h
    obtain ⟨v, vt, rfl, g1, g2⟩ := h
    obtain ⟨va, vb, rfl, h1, h2⟩ := ih g2
    exact ⟨v :: va, vb, rfl, ⟨v, va, rfl, g1, h1⟩, h2⟩
theorem yGs_cat2 {ad : Nat → Nat} {bn : Nat} : ∀ {as bs : List yV} {va vb : List Value}, yGs ad bn as va → yGs ad bn bs vb → yGs ad bn (as ++ bs) (va ++ vb) := by
  intro as
  induction as with
  | nil => intro bs va vb h h2; rw [show va = [] from h]; exact h2
  | cons a t ih =>
    intro bs va vb h h2
    obtain ⟨v, vt, rfl, g1, g2⟩ := h
    exact ⟨v, vt ++ vb, rfl, g1, ih g2 h2⟩
theorem yGs_rev {ad : Nat → Nat} {bn : Nat} : ∀ {as : List yV} {vs : List Value}, yGs ad bn as vs → yGs ad bn as.reverse vs.reverse := by
  intro as
  induction as with
  | nil => intro vs h; rw [show vs = [] from h]; exact rfl
  | cons a t ih =>
    intro vs h
    obtain ⟨v, vt, rfl, g1, g2⟩ := h
    rw [List.reverse_cons, List.reverse_cons]
    exact yGs_cat2 (ih g2) ⟨v, [], rfl, g1, rfl⟩
theorem zs_sl (vs : List Value) : (lg_sl vs).length = (vs.map fun v => v.category).sum := by
  induction vs with
  | nil => rfl
  | cons v t ih =>
    have h : lg_sl (v :: t) = (if v.category = 2 then [.val v, .second] else [.val v]) ++ lg_sl t := rfl
    rw [h, List.length_append, ih, List.map_cons, List.sum_cons]
    rcases lv_cat v with hc | hc
    · rw [hc]; rfl
    · rw [hc]; rfl
/-- what a call of a method rests on -/
def yPc (S : zS) (D : va_G) (cy : Nat → ClassId) (Fk : Nat → Nat → Nat) (z : Nat) (ad : Nat → Nat) (h : yHp) (vs : List Value) : Array Value → State → Prop :=
  va_Pc vs (fun U => zStat S D cy U ∧ zHp z U ∧ ∃ ws, yRel ad cy Fk h ws ∧ va_P D (sCl S) ws U.heap ∧ va_D (fun q => z ≤ q) ws)
theorem zStat_same {S : zS} {D : va_G} {cy : Nat → ClassId} {U V : State} (hvm : U.vm = V.vm) (h : zStat S D cy U) : zStat S D cy V :=
  ⟨va_K.moved (by rw [hvm]; exact Vm.Alike.refl _) h.1, fun q hq => va_Nw.same rfl hvm (h.2.1 q hq), fun C hC => (h.2.2 C hC).moved (by rw [hvm]; exact Vm.Alike.refl _)⟩
theorem zStat_warm {S : zS} {D : va_G} {cy : Nat → ClassId} {U V : State} (hW : U.WarmedH V.vm) (h : zStat S D cy U) : zStat S D cy V :=
  ⟨va_K.moved hW.alike h.1, fun q hq => va_Nw.warmM hW (h.2.1 q hq), fun C hC => (h.2.2 C hC).moved hW.alike⟩
theorem yPc_blind {S : zS} {D : va_G} {cy : Nat → ClassId} {Fk : Nat → Nat → Nat} {z : Nat} {ad : Nat → Nat} {h : yHp} {vs : List Value} : FrameBlind (yPc S D cy Fk z ad h vs) := by
  intro a U g mk q
  obtain ⟨q0, q1, q2, ws, q3, q4, q5⟩ := q
  exact ⟨q0, zStat_same rfl q1, zHp_same (s := U) (U := U.calling g mk a) rfl rfl q2, ws, q3, q4, q5⟩
/-- what is known of a method that is called -/
def zMt (S : zS) (a ml : Nat) : Prop := plainName (sY S a).cls = true ∧ sM S a = ml ∧ ml ≤ 21 ∧ Jvm.Cond.code (sY S a) (sC S a) (sM S a) (sR S a) ∈ sW S ∧ Jvm.Cond.initialized (sY S a).cls ∈ sW S ∧ ((sY S a).cls ≠ "java/lang/invoke/MethodHandle" ∧ (sY S a).cls ≠ "java/lang/invoke/VarHandle")
/-- how a call is linked: a receiver's class, a constructor (its word or its nest link), static -/
def zLk (S : zS) (mi a an eb ec x : Nat) : Prop :=
  (eb = 0 ∧ Jvm.Cond.methodLink (sY S mi).cls x (sY S a) ∈ sW S ∧ Jvm.Cond.instanceMethod (sY S a) ∈ sW S ∧ Jvm.Cond.selects (sY S a).cls (sY S a) (sY S a) ∈ sW S ∧ (∃ T N, (sCl S)[ec]? = some ((sY S a).cls, T, N)) ∧ ∃ n, (parseMethodDescriptor (sY S a).desc).map (fun d => d.parameters.length) = some n ∧ an = n + 1) ∨
  (eb = 1 ∧ (Jvm.Cond.methodLink (sY S mi).cls x (sY S a) ∈ sW S ∨ ∃ host, ((sY S mi).cls, x, sY S a, host) ∈ sNw S) ∧ Jvm.Cond.instanceMethod (sY S a) ∈ sW S ∧ (sY S a).name = "<init>" ∧ sR S a = none ∧ ∃ n, (parseMethodDescriptor (sY S a).desc).map (fun d => d.parameters.length) = some n ∧ an = n + 1) ∨
  (2 ≤ eb ∧ Jvm.Cond.methodLink (sY S mi).cls x (sY S a) ∈ sW S ∧ Jvm.Cond.static (sY S a) ∈ sW S ∧ (parseMethodDescriptor (sY S a).desc).map (fun d => d.parameters.length) = some an)
section Sy
variable {l : Launch} {S : zS} {D : va_G} {cy : Nat → ClassId} {Fk : Nat → Nat → Nat} {z : Nat} {d mi bc bs nc ns pc : Nat} {lo : yL} {st : List yV} {h : yHp} {K : yKo}
theorem zs_noX {p : Program} {e : Env} {R : Room} {s st : State} {m : MethodId} {args aa : Array Value} {below : List Frame} {meth : Method} {c : Code} {H : Heap} {locs : List Loc} {cells slots mc ms : Nat} {free : Addr → Prop} {Qc : Array Value → State → Outcome → State → Prop} {XC : String → State → State → Prop} {g : JFrame}
    (hx : ∀ E u t, ¬ XC E u t) (k : W p l e R s m args below meth c H locs cells slots (vx_MQ below Qc XC aa st mc ms free) g) : W p l e R s m args below meth c H locs cells slots (MQ below Qc aa st mc ms free) g := by
  intro T hT X
  obtain ⟨t, a1, o, b1, b2, b3⟩ := k T hT X
  rcases b3 with b3 | ⟨q, -, E, ce, L, hq, -⟩
  · exact ⟨t, a1, o, b1, b2, b3.1, b3.2⟩
  · exact absurd hq (hx _ _ _)
theorem ys_met {a ml mc ms d' : Nat} (hth : zThr a = false) (hmt : zMt S a ml) {lo' : yL} {K' : yKo} {ad : Nat → Nat} {vs : List Value} (hk : yW l S D cy Fk z d' a mc ms K' 0 0 0 lo' [] h) (hlo : yGl ad h.1 lo' (lv_args 0 vs)) (hlen : (lg_sl vs).length ≤ sM S a) :
    Met l (sY S a) (wsO S a) (zRm d' mc ms) (yPc S D cy Fk z ad h vs) (yQ S D cy Fk z ad h.1 K') mc ms (fun q => z ≤ q) := by
  refine Met.ofW (cc := sC S a) (maxL := sM S a) (ret := sR S a) hmt.1 rfl ?_
  intro p e s m args below meth c s₁ B hml hv
  obtain ⟨rfl, hst, hz, ws, hR, hP, hD⟩ := hv
  have ht : ∀ x ∈ c.exceptionTable.toList, False := by
    obtain ⟨meth9, c9, h1, h2, -, -, -, -, h7, -⟩ := Cond.code_spec B.named (atoms_spec (ws := wsO S a) B.pre _ List.mem_cons_self)
    cases Option.some.inj (h1.symm.trans B.method)
    cases Option.some.inj (h2.symm.trans (Stand.of_body B).code)
    intro x hx
    rw [Array.isEmpty_iff.mp h7] at hx
    cases hx
  have hctx : zCtx S D cy z a p s m vs.toArray meth c := ⟨B.exec, B.bytes, hml, B.returns, findClass_of_methodNamed B.named, atoms_spec (ws := wsO S a) B.pre, B.notSynchronized, (name_of_methodNamed B.named B.method).1, hst, hz, ht⟩
  rw [lg_entry_eq]
  refine zs_noX (XC := yXC S D cy Fk z a ad h.1 K') ?_ ?_
  · rintro E u t ⟨_, _, ⟨_, g, _⟩, _⟩
    rw [hth] at g
    cases g
  exact hk p e s m vs.toArray below meth c hctx ad h.1 ad (fun _ _ => rfl) (Nat.le_refl _) ⟨Nat.zero_le _, Nat.zero_le _⟩ s.heap [] _ _ [] ws hR hP hD va_S.rf (lv_entry vs hlen) hlo rfl
theorem ys_back {p : Program} {e : Env} {s : State} {m : MethodId} {args : Array Value} {below : List Frame} {meth : Method} {c : Code} {H : Heap} {locs : List Loc} {R : Room} {Q : State → Prop} {mc ms : Nat} {ls : Array Slot} {st0 rest : List Value} {ad : Nat → Nat} {K' : yKo} {a' : Array Value}
    (hr : va_Run p l e R s m args below meth c H locs nc ns mc ms (F0 m pc ls st0) rest (yQ S D cy Fk z ad h.1 K' a') (fun q => z ≤ q)) (hS : va_S (fun q => z ≤ q) s.heap H locs)
    (kk : ∀ (r : Option yV) (h' : yHp) (v : Option Value) (ad' : Nat → Nat) (ws' : va_W) (H1 : Heap) (locs1 : List Loc), K' r h' → yGo ad' h'.1 r v → (∀ k, k < h.1 → ad' k = ad k) → h.1 ≤ h'.1 → yRel ad' cy Fk h' ws' → va_P D (sCl S) ws' H1 → va_D (fun q => z ≤ q) ws' → va_S (fun q => z ≤ q) s.heap H1 locs1 → W p l e R s m args below meth c H1 locs1 (nc + mc) (ns + ms) Q (F0 m (pc + 3) ls (v.toList ++ rest))) :
    W p l e R s m args below meth c H locs nc ns Q (F0 m pc ls st0) := by
  intro T hT X
  obtain ⟨v, st₀, t, T', L, h0, X', hL, e1, e2, ⟨r, h', v', ad', ws', q1, q2, q3, q4, q5, q6, q7, q8, q9⟩, st⟩ := hr T hT X
  cases q2
  obtain ⟨g1, g2⟩ := q9
  rw [h0] at g1 g2
  obtain ⟨t2, a1, b1⟩ := kk r h' v ad' ws' T'.heap (locs ++ L) q1.1 q3 q4 q5 q6 (by rw [e1]; exact q7) q8 ⟨Nat.le_trans hS.1 (by rw [e1]; exact g1), fun q k1 k2 => by rw [e1, g2 q (Nat.lt_of_lt_of_le k1 hS.1) k2]; exact hS.2.1 q k1 k2, fun q hq => by
      rcases List.mem_append.mp hq with hq | hq
      · exact hS.2.2 q hq
      · exact hL q hq⟩ T' rfl X'
  exact ⟨t2, st t2 a1, b1⟩
theorem zs_good (hgd : ∀ w ∈ sW S, goodWord w = true) {a ml : Nat} (hmt : zMt S a ml) : GoodIn (wsO S mi) (wsO S a) := by
  intro w hw
  have hw' : w ∈ sW S := by
    rcases List.mem_cons.mp hw with rfl | hw
    · exact hmt.2.2.2.1
    · exact hw
  exact ⟨List.mem_cons_of_mem _ hw', good_of_word (hgd w hw')⟩
theorem ys_call (hgd : ∀ w ∈ sW S, goodWord w = true) {a an ml x eb ec d' mc ms : Nat} (hth : zThr a = false) (hmt : zMt S a ml) (hlk : zLk S mi a an eb ec x) (hd : (eb = 0 ∧ decode (sC S mi) pc = .ok (.invokevirtual x, 3)) ∨ (eb = 1 ∧ decode (sC S mi) pc = .ok (.invokespecial x, 3)) ∨ (2 ≤ eb ∧ decode (sC S mi) pc = .ok (.invokestatic x, 3)))
    {as rest : List yV} (hdd : d = d' + 1) (hst0 : st = as.reverse ++ rest) (hal : as.length = an) (hc1 : yCat rest ≤ 8) (hc2 : yCat as ≤ ml) (hr0 : eb = 0 → ∃ q n as', as = yr (some q) :: as' ∧ yTy h q = (10 + ec, n)) (hr1 : eb = 1 → ∃ q as', as = yr (some q) :: as') (hb1 : nc + mc ≤ bc) (hb2 : ns + ms ≤ bs)
    (hk : yW l S D cy Fk z d' a mc ms (fun r h' => yW l S D cy Fk z d mi bc bs K (nc + mc) (ns + ms) (pc + 3) lo (yPush r rest) h') 0 0 0 (yArg as 0) [] h) : yW l S D cy Fk z d mi bc bs K nc ns pc lo st h := by
  intro p e s m args below meth c C ad0 n0 ad hA hN hB H locs ls lv vs ws hR hP hD hS hl hlo hst
  subst hst0 hdd
  obtain ⟨vp, vr, rfl, hgp, hgr⟩ := yGs_app hst
  have hcr : (vr.map fun v => v.category).sum ≤ 8 := by rw [yGs_cat hgr]; exact hc1
  have hrv := yGs_rev hgp
  rw [List.reverse_reverse] at hrv
  have hlen : (lg_sl vp.reverse).length ≤ sM S a := by rw [zs_sl, yGs_cat hrv, hmt.2.1]; exact hc2
  have hlo' := yArg_to as vp.reverse 0 hrv
  have hM := ys_met hth hmt hk hlo' hlen
  have hR4 : (zRm d' mc ms).frames + 1 ≤ (zRm (d' + 1) bc bs).frames ∧ 8 + (sM S a + 11) + (zRm d' mc ms).locals ≤ (zRm (d' + 1) bc bs).locals := by
    refine ⟨Nat.le_refl _, ?_⟩
    show 8 + (sM S a + 11) + 60 * d' ≤ 60 * (d' + 1)
    have := hmt.2.1
    have := hmt.2.2.1
    omega
  have wd : ∀ w ∈ sW S, w.before args s = true := fun w hw => C.2.2.2.2.2.1 w (List.mem_cons_of_mem _ hw)
  have hgi : GoodIn (wsO S mi) (wsO S a) := zs_good hgd hmt
  have hpre : ∀ U : State, U.heap = H → s.WarmedH U.vm → yPc S D cy Fk z ad h vp.reverse vp.reverse.toArray U := fun U hU hW => ⟨rfl, zStat_warm hW C.2.2.2.2.2.2.2.2.1, zHp_to hW hU hS C.2.2.2.2.2.2.2.2.2.1, ws, hR, by rw [hU]; exact hP, hD⟩
  have fin : ∀ (r : Option yV) (h' : yHp) (v : Option Value) (ad' : Nat → Nat) (ws' : va_W) (H1 : Heap) (locs1 : List Loc), yW l S D cy Fk z (d' + 1) mi bc bs K (nc + mc) (ns + ms) (pc + 3) lo (yPush r rest) h' → yGo ad' h'.1 r v → (∀ k, k < h.1 → ad' k = ad k) → h.1 ≤ h'.1 → yRel ad' cy Fk h' ws' → va_P D (sCl S) ws' H1 → va_D (fun q => z ≤ q) ws' → va_S (fun q => z ≤ q) s.heap H1 locs1 → W p l e (zRm (d' + 1) bc bs) s m args below meth c H1 locs1 (nc + mc) (ns + ms) (vx_MQ below (yQ S D cy Fk z ad0 n0 K) (yXC S D cy Fk z mi ad0 n0 K) args s bc bs (fun q => z ≤ q)) (F0 m (pc + 3) ls (v.toList ++ vr)) := by
    intro r h' v ad' ws' H1 locs1 hk' hgo hA' hN' hR' hP' hD' hS'
    refine hk' p e s m args below meth c C ad0 n0 ad' (fun k hk => (hA' k (by omega)).trans (hA k hk)) (by omega) ⟨hb1, hb2⟩ H1 locs1 ls lv _ ws' hR' hP' hD' hS' hl (yGl_up hA' hN' hlo) ?_
    match r, v, hgo with
    | none, none, _ => exact yGs_up hA' hN' hgr
    | some a, some x, hgo => exact ⟨x, vr, rfl, hgo, yGs_up hA' hN' hgr⟩
  have hvl : vp.length = an := by have h2 := yGs_len hgp; rw [h2, List.length_reverse, hal]
  have recv : ∀ (q : Nat) (as' : List yV), as = yr (some q) :: as' → ∃ As, vp.reverse = .ref (ad q) :: As ∧ vp = As.reverse ++ [.ref (ad q)] ∧ As.length + 1 = an := by
    intro q as' e
    rw [e] at hrv
    obtain ⟨v0, As, hvp, hv0, _⟩ := hrv
    have hv0 : v0 = .ref (ad q) := hv0.1
    subst hv0
    refine ⟨As, hvp, ?_, ?_⟩
    · have := congrArg List.reverse hvp
      simpa using this
    · have := congrArg List.length hvp
      simp only [List.length_reverse, List.length_cons] at this
      omega
  rcases hlk with ⟨rfl, l1, l2, l3, ⟨T9, N9, l4⟩, n9, l5, l6⟩ | ⟨rfl, l1, l2, l3, l4, n9, l5, l6⟩ | ⟨he2, l1, l2, l3⟩
  · have hd : decode (sC S mi) pc = .ok (.invokevirtual x, 3) := by rcases hd with q | q | q <;> first | exact q.2 | (have := q.1; omega)
    obtain ⟨q, n, as', e1, e2⟩ := hr0 rfl
    obtain ⟨As, hvp, hvp2, hAl⟩ := recv q as' e1
    have hq : q < h.1 := by
      have hrv2 := hrv
      rw [e1] at hrv2
      obtain ⟨v0, _, _, hv0, _⟩ := hrv2
      exact hv0.2 q rfl
    obtain ⟨ee, he, hge⟩ := hR.2.2 q hq
    obtain ⟨vs', rfl, -⟩ := hge.2.2.2.1 ec (by rw [e2])
    rw [hvp] at hM hpre
    exact ys_back (h := h) (va_runV (As := As) (rest := vr) (n := n9) ⟨C.1, C.2.1, C.2.2.1, C.2.2.2.2.1, C.2.2.2.2.2.1⟩ hM ⟨callB_of n9 C.2.2.2.2.2.1 hgi rfl rfl rfl (wd _ hmt.2.2.2.2.1) (wd _ l1) ⟨hmt.2.2.2.2.2.1, hmt.2.2.2.2.2.2, l5⟩ hR4, wd _ l2, wd _ l3⟩ ⟨yPc_blind, va_recv C.2.2.2.2.2.2.2.2.1.1 hP l4 he, hpre⟩ rfl (by omega) hl.1 (by rw [hvp2]; simp) (lv_room hcr) hd ⟨hb1, hb2⟩) hS fin
  · have hd : decode (sC S mi) pc = .ok (.invokespecial x, 3) := by rcases hd with q | q | q <;> first | exact q.2 | (have := q.1; omega)
    obtain ⟨q, as', e1⟩ := hr1 rfl
    obtain ⟨As, hvp, hvp2, hAl⟩ := recv q as' e1
    have hAl : As.length = n9 := by omega
    rw [hvp] at hM hpre
    have hstk : vp ++ vr = As.reverse ++ .ref (ad q) :: vr := by rw [hvp2]; simp
    rcases l1 with l1 | ⟨host, l1⟩
    · have hcb := callB_of (R := zRm (d' + 1) bc bs) (rm := zRm d' mc ms) (mc := mc) (ms := ms) n9 C.2.2.2.2.2.1 hgi rfl rfl rfl (wd _ hmt.2.2.2.2.1) (wd _ l1) ⟨hmt.2.2.2.2.2.1, hmt.2.2.2.2.2.2, l5⟩ hR4
      rw [l4] at hcb
      exact ys_back (h := h) (va_runI (As := As) (rest := vr) (n := n9) ⟨C.1, C.2.1, C.2.2.1, C.2.2.2.2.1, C.2.2.2.2.2.1⟩ hM ⟨hcb, l3, wd _ l2⟩ ⟨yPc_blind, hpre⟩ rfl hAl hl.1 hstk (lv_room hcr) hd ⟨hb1, hb2⟩) hS fin
    · have hcb := va_cnB (R := zRm (d' + 1) bc bs) (rm := zRm d' mc ms) (mc := mc) (ms := ms) n9 C.2.2.2.2.2.1 hgi rfl rfl rfl (C.2.2.2.2.2.2.2.2.1.2.1 _ l1) (wd _ hmt.2.2.2.2.1) ⟨hmt.2.2.2.2.2.1, hmt.2.2.2.2.2.2, l5⟩ hR4
      rw [l4] at hcb
      exact ys_back (h := h) (va_runIN (As := As) (rest := vr) (n := n9) ⟨C.1, C.2.1, C.2.2.1, C.2.2.2.2.1, C.2.2.2.2.2.1⟩ hM ⟨hcb, l3, wd _ l2⟩ ⟨yPc_blind, hpre⟩ rfl hAl hl.1 hstk (lv_room hcr) hd ⟨hb1, hb2⟩) hS fin
  · have hd : decode (sC S mi) pc = .ok (.invokestatic x, 3) := by rcases hd with q | q | q <;> first | exact q.2 | (have := q.1; omega)
    exact ys_back (h := h) (va_runS (As := vp.reverse) (rest := vr) (n := an) ⟨C.1, C.2.1, C.2.2.1, C.2.2.2.2.1, C.2.2.2.2.2.1⟩ hM ⟨callB_of an C.2.2.2.2.2.1 hgi rfl rfl rfl (wd _ hmt.2.2.2.2.1) (wd _ l1) ⟨hmt.2.2.2.2.2.1, hmt.2.2.2.2.2.2, l3⟩ hR4, wd _ l2⟩ ⟨yPc_blind, hpre⟩ rfl (by rw [List.length_reverse]; exact hvl) hl.1 (by simp) (lv_room hcr) hd ⟨hb1, hb2⟩) hS fin
end Sy
