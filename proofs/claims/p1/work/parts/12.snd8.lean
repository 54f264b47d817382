theorem zTk_to : ∀ (n : Nat) (acc st : List zV) (K : List zV → List zV → Bool), zTk n acc st K = true → ∃ pre rest, st = pre ++ rest ∧ pre.length = n ∧ K (pre.reverse ++ acc) rest = true := by
  intro n
  induction n with
  | zero => intro acc st K h; exact ⟨[], st, rfl, rfl, h⟩
  | succ n ih =>
    intro acc st K h
    cases st with
    | nil => simp [zTk] at h
    | cons a t =>
      obtain ⟨pre, rest, h1, h2, h3⟩ := ih (a :: acc) t K h
      exact ⟨a :: pre, rest, by rw [h1]; rfl, by simp [h2], by simpa using h3⟩
theorem zArg_to {ad : Nat → Nat} {bn : Nat} : ∀ (as : List zV) (vs : List Value) (i : Nat) (K : zL → Bool), zGs ad bn as vs → zArg as i K = true → ∃ lo, K lo = true ∧ zGl ad bn lo (lv_args i vs) := by
  intro as
  induction as with
  | nil => intro vs i K hg h; rw [show vs = [] from hg]; exact ⟨[], h, rfl⟩
  | cons a t ih =>
    intro vs i K hg h
    obtain ⟨v, vt, rfl, h1, h2⟩ := hg
    have h : zArg t (cond (zIsL a) (Nat.succ (Nat.succ i)) (Nat.succ i)) (fun t => zF i (fun i => K ((i, a) :: t))) = true := h
    obtain ⟨lo, k1, k2⟩ := ih vt _ _ h2 h
    rw [zF_eq] at k1
    refine ⟨(i, a) :: lo, k1, v, _, rfl, h1, ?_⟩
    have hc := zG_cat h1
    cases hL : zIsL a with
    | true =>
      rw [hL] at k2 hc
      rw [if_pos (show v.category = 2 from hc)]
      exact k2
    | false =>
      rw [hL] at k2 hc
      rw [if_neg (show ¬ v.category = 2 by rw [show v.category = 1 from hc]; decide)]
      exact k2
theorem zGs_app {ad : Nat → Nat} {bn : Nat} : ∀ {as bs : List zV} {vs : List Value}, zGs ad bn (as ++ bs) vs → ∃ va vb, vs = va ++ vb ∧ zGs ad bn as va ∧ zGs ad bn bs vb := by
  intro as
  induction as with
  | nil => intro bs vs h; exact ⟨[], vs, rfl, rfl, h⟩
  | cons a t ih =>
    intro bs vs h
    obtain ⟨v, vt, rfl, h1, h2⟩ := h
    obtain ⟨va, vb, rfl, h3, h4⟩ := ih h2
    exact ⟨v :: va, vb, rfl, ⟨v, va, rfl, h1, h3⟩, h4⟩
theorem zGs_cat2 {ad : Nat → Nat} {bn : Nat} : ∀ {as bs : List zV} {va vb : List Value}, zGs ad bn as va → zGs ad bn bs vb → zGs ad bn (as ++ bs) (va ++ vb) := by
  intro as
  induction as with
  | nil => intro bs va vb h1 h2; rw [show va = [] from h1]; exact h2
  | cons a t ih =>
    intro bs va vb h1 h2
    obtain ⟨v, vt, rfl, h3, h4⟩ := h1
    exact ⟨v, vt ++ vb, rfl, h3, ih h4 h2⟩
theorem zGs_rev {ad : Nat → Nat} {bn : Nat} : ∀ {as : List zV} {vs : List Value}, zGs ad bn as vs → zGs ad bn as.reverse vs.reverse := by
  intro as
  induction as with
  | nil => intro vs h; rw [show vs = [] from h]; exact rfl
  | cons a t ih =>
    intro vs h
    obtain ⟨v, vt, rfl, h1, h2⟩ := h
    rw [List.reverse_cons, List.reverse_cons]
    exact zGs_cat2 (ih h2) ⟨v, [], rfl, h1, rfl⟩
theorem zs_sl (vs : List Value) : (lg_sl vs).length = (vs.map fun v => v.category).sum := by
  induction vs with
  | nil => rfl
  | cons v t ih =>
    have h : lg_sl (v :: t) = (if v.category = 2 then [.val v, .second] else [.val v]) ++ lg_sl t := rfl
    rw [h, List.length_append, ih, List.map_cons, List.sum_cons]
    rcases lv_cat v with hc | hc
    · rw [hc]; rfl
    · rw [hc]; rfl
/-- what a call of a method rests on -/
def zPc (S : zS) (D : va_G) (cy : Nat → ClassId) (z : Nat) (ad : Nat → Nat) (h : zHp) (vs : List Value) : Array Value → State → Prop :=
  va_Pc vs (fun U => zStat S D cy U ∧ z ≤ U.heap.size ∧ ∃ ws, zR ad cy h ws ∧ va_P D (sCl S) ws U.heap ∧ va_D (fun q => z ≤ q) ws)
theorem zStat_same {S : zS} {D : va_G} {cy : Nat → ClassId} {U V : State} (hvm : U.vm = V.vm) (h : zStat S D cy U) : zStat S D cy V :=
  ⟨va_K.moved (by rw [hvm]; exact Vm.Alike.refl _) h.1, fun q hq => va_Nw.same rfl hvm (h.2.1 q hq), fun C hC => (h.2.2 C hC).moved (by rw [hvm]; exact Vm.Alike.refl _)⟩
theorem zStat_warm {S : zS} {D : va_G} {cy : Nat → ClassId} {U V : State} (hW : U.WarmedH V.vm) (h : zStat S D cy U) : zStat S D cy V :=
  ⟨va_K.moved hW.alike h.1, fun q hq => va_Nw.warmM hW (h.2.1 q hq), fun C hC => (h.2.2 C hC).moved hW.alike⟩
theorem zPc_blind {S : zS} {D : va_G} {cy : Nat → ClassId} {z : Nat} {ad : Nat → Nat} {h : zHp} {vs : List Value} : FrameBlind (zPc S D cy z ad h vs) := by
  intro a U g mk q
  obtain ⟨q0, q1, q2, ws, q3, q4, q5⟩ := q
  exact ⟨q0, zStat_same rfl q1, q2, ws, q3, q4, q5⟩
/-- what is known of a method that is called -/
def zMt (S : zS) (a ml : Nat) : Prop := plainName (sY S a).cls = true ∧ sM S a = ml ∧ ml ≤ 21 ∧ Jvm.Cond.code (sY S a) (sC S a) (sM S a) (sR S a) ∈ sW S ∧ Jvm.Cond.initialized (sY S a).cls ∈ sW S ∧ ((sY S a).cls ≠ "java/lang/invoke/MethodHandle" ∧ (sY S a).cls ≠ "java/lang/invoke/VarHandle")
/-- how a call is linked: a receiver's class, a constructor (its word or its nest link), static -/
def zLk (S : zS) (mi a an eb ec x : Nat) : Prop :=
  (eb = 0 ∧ Jvm.Cond.methodLink (sY S mi).cls x (sY S a) ∈ sW S ∧ Jvm.Cond.instanceMethod (sY S a) ∈ sW S ∧ Jvm.Cond.selects (sY S a).cls (sY S a) (sY S a) ∈ sW S ∧ (∃ T N, (sCl S)[ec]? = some ((sY S a).cls, T, N)) ∧ ∃ n, (parseMethodDescriptor (sY S a).desc).map (fun d => d.parameters.length) = some n ∧ an = n + 1) ∨
  (eb = 1 ∧ (Jvm.Cond.methodLink (sY S mi).cls x (sY S a) ∈ sW S ∨ ∃ host, ((sY S mi).cls, x, sY S a, host) ∈ sNw S) ∧ Jvm.Cond.instanceMethod (sY S a) ∈ sW S ∧ (sY S a).name = "<init>" ∧ sR S a = none ∧ ∃ n, (parseMethodDescriptor (sY S a).desc).map (fun d => d.parameters.length) = some n ∧ an = n + 1) ∨
  (2 ≤ eb ∧ Jvm.Cond.methodLink (sY S mi).cls x (sY S a) ∈ sW S ∧ Jvm.Cond.static (sY S a) ∈ sW S ∧ (parseMethodDescriptor (sY S a).desc).map (fun d => d.parameters.length) = some an)
section Sn8
variable {l : Launch} {S : zS} {D : va_G} {cy : Nat → ClassId} {z : Nat} {G : zG0} {ih : zHo} {d mi : Nat} {tb : zT} {bc bs nc ns pc ea eb ec en : Nat} {lo : zL} {st : List zV} {h : zHp} {K : zKo}
theorem zs_met (hi : zOK l S D cy z G ih) {a an ml mc ms d' : Nat} {tb' : zT} (hG : zN G.1 a = some ((an, ml), mc, ms, tb')) (hmt : zMt S a ml) {lo' : zL} {K' : zKo} {ad : Nat → Nat} {vs : List Value} (hk : ih (d', a, tb', mc, ms) 0 0 0 lo' [] h K' = true) (hlo : zGl ad h.1 lo' (lv_args 0 vs)) (hlen : (lg_sl vs).length ≤ sM S a) :
    Met l (sY S a) (wsO S a) (zRm d' mc ms) (zPc S D cy z ad h vs) (zQ S D cy z ad h.1 K') mc ms (fun q => z ≤ q) := by
  refine Met.ofW (cc := sC S a) (maxL := sM S a) (ret := sR S a) hmt.1 rfl ?_
  intro p e s m args below meth c s₁ B hml hv
  obtain ⟨rfl, hst, hz, ws, hR, hP, hD⟩ := hv
  have hctx : zCtx S D cy z a p s m vs.toArray meth c := ⟨B.exec, B.bytes, hml, B.returns, findClass_of_methodNamed B.named, atoms_spec (ws := wsO S a) B.pre, B.notSynchronized, (name_of_methodNamed B.named B.method).1, hst, hz⟩
  rw [lg_entry_eq]
  exact hi d' a tb' mc ms 0 0 0 lo' [] h K' hk ⟨_, _, _, hG⟩ p e s m vs.toArray below meth c hctx ad h.1 ad (fun _ _ => rfl) (Nat.le_refl _) ⟨Nat.zero_le _, Nat.zero_le _⟩ s.heap [] _ _ [] ws hR hP hD va_S.rf (lv_entry vs hlen) hlo rfl
theorem zs_back {p : Program} {e : Env} {s : State} {m : MethodId} {args : Array Value} {below : List Frame} {meth : Method} {c : Code} {H : Heap} {locs : List Loc} {R : Room} {Q : State → Prop} {mc ms : Nat} {ls : Array Slot} {st0 rest : List Value} {ad : Nat → Nat} {K' : zKo} {a' : Array Value}
    (hr : va_Run p l e R s m args below meth c H locs nc ns mc ms (F0 m pc ls st0) rest (zQ S D cy z ad h.1 K' a') (fun q => z ≤ q)) (hS : va_S (fun q => z ≤ q) s.heap H locs)
    (kk : ∀ (r : Option zV) (h' : zHp) (v : Option Value) (ad' : Nat → Nat) (ws' : va_W) (H1 : Heap) (locs1 : List Loc), K' r h' = true → zGo ad' h'.1 r v → (∀ k, k < h.1 → ad' k = ad k) → h.1 ≤ h'.1 → zR ad' cy h' ws' → va_P D (sCl S) ws' H1 → va_D (fun q => z ≤ q) ws' → va_S (fun q => z ≤ q) s.heap H1 locs1 → W p l e R s m args below meth c H1 locs1 (nc + mc) (ns + ms) Q (F0 m (pc + 3) ls (v.toList ++ rest))) :
    W p l e R s m args below meth c H locs nc ns Q (F0 m pc ls st0) := by
  intro T hT X
  obtain ⟨v, st₀, t, T', L, h0, X', hL, e1, e2, ⟨r, h', v', ad', ws', q1, q2, q3, q4, q5, q6, q7, q8, q9⟩, st⟩ := hr T hT X
  cases q2
  obtain ⟨g1, g2⟩ := q9
  rw [h0] at g1 g2
  obtain ⟨t2, a1, b1⟩ := kk r h' v ad' ws' T'.heap (locs ++ L) q1 q3 q4 q5 q6 (by rw [e1]; exact q7) q8 ⟨Nat.le_trans hS.1 (by rw [e1]; exact g1), fun q k1 k2 => by rw [e1, g2 q (Nat.lt_of_lt_of_le k1 hS.1) k2]; exact hS.2.1 q k1 k2, fun q hq => by
      rcases List.mem_append.mp hq with hq | hq
      · exact hS.2.2 q hq
      · exact hL q hq⟩ T' rfl X'
  exact ⟨t2, st t2 a1, b1⟩
theorem zs_good (hgd : ∀ w ∈ sW S, goodWord w = true) {a ml : Nat} (hmt : zMt S a ml) : GoodIn (wsO S mi) (wsO S a) := by
  intro w hw
  have hw' : w ∈ sW S := by
    rcases List.mem_cons.mp hw with rfl | hw
    · exact hmt.2.2.2.1
    · exact hw
  exact ⟨List.mem_cons_of_mem _ hw', good_of_word (hgd w hw')⟩
theorem zs_call (hgd : ∀ w ∈ sW S, goodWord w = true) (hmts : ∀ a an ml mc ms tb', zN G.1 a = some ((an, ml), mc, ms, tb') → zMt S a ml) (hi : zOK l S D cy z G ih) (ht : ∃ an mc ms, zN G.1 mi = some (an, mc, ms, tb)) {x : Nat}
    (hlk : ∀ an ml mc ms tb', zN G.1 ea = some ((an, ml), mc, ms, tb') → zLk S mi ea an eb ec x) (hd : (eb = 0 ∧ decode (sC S mi) pc = .ok (.invokevirtual x, 3)) ∨ (eb = 1 ∧ decode (sC S mi) pc = .ok (.invokespecial x, 3)) ∨ (2 ≤ eb ∧ decode (sC S mi) pc = .ok (.invokestatic x, 3))) (hn : en = pc + 3) (hk : zo_call G ih (d, mi, tb, bc, bs) nc ns ea eb ec en lo st h K = true) : zW l S D cy z d mi bc bs nc ns pc lo st h K := by
  intro p e s m args below meth c C ad0 n0 ad hA hN hB H locs ls lv vs ws hR hP hD hS hl hlo hst
  subst hn
  simp only [zo_call, zF_eq] at hk
  cases hG : zN G.1 ea with
  | none => rw [hG] at hk; cases hk
  | some mt =>
    obtain ⟨⟨an, ml⟩, mc, ms, tb'⟩ := mt
    rw [hG] at hk
    dsimp only at hk
    have hmt := hmts _ _ _ _ _ _ hG
    have hlk := hlk _ _ _ _ _ hG
    cases hb : (Nat.ble (nc + mc) bc && Nat.ble (ns + ms) bs) with
    | false => rw [hb] at hk; cases hk
    | true =>
      rw [hb] at hk
      simp only [cond_true] at hk
      simp only [Bool.and_eq_true] at hb
      have hb1 : nc + mc ≤ bc := Nat.le_of_ble_eq_true hb.1
      have hb2 : ns + ms ≤ bs := Nat.le_of_ble_eq_true hb.2
      obtain ⟨pre, rest, rfl, hpl, hk⟩ := zTk_to _ _ _ _ hk
      rw [List.append_nil] at hk
      obtain ⟨vp, vr, rfl, hgp, hgr⟩ := zGs_app hst
      cases hb3 : ((Nat.ble (zCat rest) 8 && Nat.ble (zCat pre.reverse) ml) && zRcK eb ec pre.reverse h) with
      | false => rw [hb3] at hk; cases hk
      | true =>
        rw [hb3] at hk
        simp only [cond_true] at hk
        simp only [Bool.and_eq_true] at hb3
        have hcr : (vr.map fun v => v.category).sum ≤ 8 := by rw [zGs_cat hgr]; exact Nat.le_of_ble_eq_true hb3.1.1
        have hrv := zGs_rev hgp
        have hlen : (lg_sl vp.reverse).length ≤ sM S ea := by rw [zs_sl, zGs_cat hrv, hmt.2.1]; exact Nat.le_of_ble_eq_true hb3.1.2
        obtain ⟨lo', hk, hlo'⟩ := zArg_to _ _ _ _ hrv hk
        cases d with
        | zero => cases hk
        | succ d' =>
          have hM := zs_met hi hG hmt hk hlo' hlen
          have hR4 : (zRm d' mc ms).frames + 1 ≤ (zRm (d' + 1) bc bs).frames ∧ 8 + (sM S ea + 11) + (zRm d' mc ms).locals ≤ (zRm (d' + 1) bc bs).locals := by
            refine ⟨Nat.le_refl _, ?_⟩
            show 8 + (sM S ea + 11) + 60 * d' ≤ 60 * (d' + 1)
            have := hmt.2.1
            have := hmt.2.2.1
            omega
          have wd : ∀ w ∈ sW S, w.before args s = true := fun w hw => C.2.2.2.2.2.1 w (List.mem_cons_of_mem _ hw)
          have hgi : GoodIn (wsO S mi) (wsO S ea) := zs_good hgd hmt
          have hpre : ∀ U : State, U.heap = H → s.WarmedH U.vm → zPc S D cy z ad h vp.reverse vp.reverse.toArray U := fun U hU hW => ⟨rfl, zStat_warm hW C.2.2.2.2.2.2.2.2.1, by rw [hU]; exact Nat.le_trans C.2.2.2.2.2.2.2.2.2 hS.1, ws, hR, by rw [hU]; exact hP, hD⟩
          have fin : ∀ (r : Option zV) (h' : zHp) (v : Option Value) (ad' : Nat → Nat) (ws' : va_W) (H1 : Heap) (locs1 : List Loc), ih (d' + 1, mi, tb, bc, bs) (nc + mc) (ns + ms) (pc + 3) lo (zPush r rest) h' K = true → zGo ad' h'.1 r v → (∀ k, k < h.1 → ad' k = ad k) → h.1 ≤ h'.1 → zR ad' cy h' ws' → va_P D (sCl S) ws' H1 → va_D (fun q => z ≤ q) ws' → va_S (fun q => z ≤ q) s.heap H1 locs1 → W p l e (zRm (d' + 1) bc bs) s m args below meth c H1 locs1 (nc + mc) (ns + ms) (MQ below (zQ S D cy z ad0 n0 K) args s bc bs (fun q => z ≤ q)) (F0 m (pc + 3) ls (v.toList ++ vr)) := by
            intro r h' v ad' ws' H1 locs1 hk' hgo hA' hN' hR' hP' hD' hS'
            refine hi _ _ _ _ _ _ _ _ _ _ _ _ hk' ht p e s m args below meth c C ad0 n0 ad' (fun k hk => (hA' k (by omega)).trans (hA k hk)) (by omega) ⟨hb1, hb2⟩ H1 locs1 ls lv _ ws' hR' hP' hD' hS' hl (zGl_up hA' hN' hlo) ?_
            match r, v, hgo with
            | none, none, _ => exact zGs_up hA' hN' hgr
            | some a, some x, hgo => exact ⟨x, vr, rfl, hgo, zGs_up hA' hN' hgr⟩
          rcases hlk with ⟨rfl, l1, l2, l3, ⟨T9, N9, l4⟩, n9, l5, l6⟩ | ⟨rfl, l1, l2, l3, l4, n9, l5, l6⟩ | ⟨he2, l1, l2, l3⟩
          · have hd : decode (sC S mi) pc = .ok (.invokevirtual x, 3) := by rcases hd with q | q | q <;> first | exact q.2 | (have := q.1; omega)
            have hrc : zRcv ec pre.reverse h = true := hb3.2
            generalize hpr : pre.reverse = as at hrc hrv
            match as, hrc, hrv, hpr with
            | [], hrc, _, _ => simp [zRcv] at hrc
            | .inl _ :: _, hrc, _, _ => simp [zRcv] at hrc
            | .inr (.inl _) :: _, hrc, _, _ => simp [zRcv] at hrc
            | .inr (.inr (.inl _)) :: _, hrc, _, _ => simp [zRcv] at hrc
            | .inr (.inr (.inr none)) :: _, hrc, _, _ => simp [zRcv] at hrc
            | .inr (.inr (.inr (some q))) :: as', hrc, hrv, hpr =>
              obtain ⟨v0, As, hvp, hv0, hAs⟩ := hrv
              have hv0 : v0 = .ref (ad q) := hv0.1
              subst hv0
              have hvp2 : vp = As.reverse ++ [.ref (ad q)] := by
                have := congrArg List.reverse hvp
                simpa using this
              simp only [zRcv] at hrc
              cases hq : zGet h q with
              | none => rw [hq] at hrc; cases hrc
              | some cell =>
                rw [hq] at hrc
                obtain ⟨ee, he, hge⟩ := hR.2.2 q cell hq
                match cell, hrc, hge with
                | .inr _, hrc, _ => cases hrc
                | .inl (k, fs), hrc, hge =>
                  have hke : k = ec := Nat.eq_of_beq_eq_true hrc
                  subst hke
                  obtain ⟨vs', rfl, -⟩ := hge
                  rw [hvp] at hM hpre
                  refine zs_back (h := h) (va_runV (As := As) (rest := vr) (n := n9) ⟨C.1, C.2.1, C.2.2.1, C.2.2.2.2.1, C.2.2.2.2.2.1⟩ hM ⟨callB_of n9 C.2.2.2.2.2.1 hgi rfl rfl rfl (wd _ hmt.2.2.2.2.1) (wd _ l1) ⟨hmt.2.2.2.2.2.1, hmt.2.2.2.2.2.2, l5⟩ hR4, wd _ l2, wd _ l3⟩ ⟨zPc_blind, va_recv C.2.2.2.2.2.2.2.2.1.1 hP l4 he, hpre⟩ rfl ?_ hl.1 ?_ (lv_room hcr) hd ⟨hb1, hb2⟩) hS fin
                  · have h1 := congrArg List.length hvp
                    have h2 := zGs_len hgp
                    simp only [List.length_reverse, List.length_cons] at h1
                    omega
                  · rw [hvp2]
                    simp
          · have hd : decode (sC S mi) pc = .ok (.invokespecial x, 3) := by rcases hd with q | q | q <;> first | exact q.2 | (have := q.1; omega)
            have hrc : zRcI pre.reverse = true := hb3.2
            generalize hpr : pre.reverse = as at hrc hrv
            match as, hrc, hrv, hpr with
            | [], hrc, _, _ => simp [zRcI] at hrc
            | .inl _ :: _, hrc, _, _ => simp [zRcI] at hrc
            | .inr (.inl _) :: _, hrc, _, _ => simp [zRcI] at hrc
            | .inr (.inr (.inl _)) :: _, hrc, _, _ => simp [zRcI] at hrc
            | .inr (.inr (.inr none)) :: _, hrc, _, _ => simp [zRcI] at hrc
            | .inr (.inr (.inr (some q))) :: as', hrc, hrv, hpr =>
              obtain ⟨v0, As, hvp, hv0, hAs⟩ := hrv
              have hv0 : v0 = .ref (ad q) := hv0.1
              subst hv0
              have hvp2 : vp = As.reverse ++ [.ref (ad q)] := by
                have := congrArg List.reverse hvp
                simpa using this
              have hAl : As.length = n9 := by
                have h1 := congrArg List.length hvp
                have h2 := zGs_len hgp
                simp only [List.length_reverse, List.length_cons] at h1
                omega
              rw [hvp] at hM hpre
              have hstk : vp ++ vr = As.reverse ++ .ref (ad q) :: vr := by rw [hvp2]; simp
              rcases l1 with l1 | ⟨host, l1⟩
              · have hcb := callB_of (R := zRm (d' + 1) bc bs) (rm := zRm d' mc ms) (mc := mc) (ms := ms) n9 C.2.2.2.2.2.1 hgi rfl rfl rfl (wd _ hmt.2.2.2.2.1) (wd _ l1) ⟨hmt.2.2.2.2.2.1, hmt.2.2.2.2.2.2, l5⟩ hR4
                rw [l4] at hcb
                exact zs_back (h := h) (va_runI (As := As) (rest := vr) (n := n9) ⟨C.1, C.2.1, C.2.2.1, C.2.2.2.2.1, C.2.2.2.2.2.1⟩ hM ⟨hcb, l3, wd _ l2⟩ ⟨zPc_blind, hpre⟩ rfl hAl hl.1 hstk (lv_room hcr) hd ⟨hb1, hb2⟩) hS fin
              · have hcb := va_cnB (R := zRm (d' + 1) bc bs) (rm := zRm d' mc ms) (mc := mc) (ms := ms) n9 C.2.2.2.2.2.1 hgi rfl rfl rfl (C.2.2.2.2.2.2.2.2.1.2.1 _ l1) (wd _ hmt.2.2.2.2.1) ⟨hmt.2.2.2.2.2.1, hmt.2.2.2.2.2.2, l5⟩ hR4
                rw [l4] at hcb
                exact zs_back (h := h) (va_runIN (As := As) (rest := vr) (n := n9) ⟨C.1, C.2.1, C.2.2.1, C.2.2.2.2.1, C.2.2.2.2.2.1⟩ hM ⟨hcb, l3, wd _ l2⟩ ⟨zPc_blind, hpre⟩ rfl hAl hl.1 hstk (lv_room hcr) hd ⟨hb1, hb2⟩) hS fin
          · have hd : decode (sC S mi) pc = .ok (.invokestatic x, 3) := by rcases hd with q | q | q <;> first | exact q.2 | (have := q.1; omega)
            refine zs_back (h := h) (va_runS (As := vp.reverse) (rest := vr) (n := an) ⟨C.1, C.2.1, C.2.2.1, C.2.2.2.2.1, C.2.2.2.2.2.1⟩ hM ⟨callB_of an C.2.2.2.2.2.1 hgi rfl rfl rfl (wd _ hmt.2.2.2.2.1) (wd _ l1) ⟨hmt.2.2.2.2.2.1, hmt.2.2.2.2.2.2, l3⟩ hR4, wd _ l2⟩ ⟨zPc_blind, hpre⟩ rfl ?_ hl.1 ?_ (lv_room hcr) hd ⟨hb1, hb2⟩) hS fin
            · have h2 := zGs_len hgp
              simp only [List.length_reverse]
              omega
            · simp
end Sn8
