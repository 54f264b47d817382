/-! THE EXACT MACHINE, 4: fields, rows, what is made, returns. -/
/-- what is known of the classes: their fields' words, types, names -/
def zCls (S : zS) : Prop := ∀ (ci : Nat) (C : String) (T : u_T) (N : Nat), (sCl S)[ci]? = some (C, T, N) → (∀ w ∈ u_ws C T N, w ∈ sW S) ∧ (∃ ty0 : Nat → FieldType, ∀ k, k < N → parseFieldDescriptor (T k).2.2.1 = some (ty0 k)) ∧ ∀ a, a < N → ∀ b, b < N → a ≠ b → (T a).2.1 ≠ (T b).2.1
/-- the kind of a field: int 0, long 1, boolean 2, reference 3 -/
def zKd (ty : FieldType) : Nat := match ty with
  | .int => 0
  | .long => 1
  | .boolean => 2
  | .object _ => 3
  | .array _ => 3
  | _ => 9
/-- a field of this kind takes this value -/
def yFit (k : Nat) (a : yV) : Prop := match k, a with
  | 0, .inl _ => True
  | 1, .inr (.inl _) => True
  | 2, .inl x => x = 0 ∨ x = 1
  | 3, .inr (.inr _) => True
  | _, _ => False
theorem ys_fit {ad : Nat → Nat} {bn : Nat} {ty : FieldType} {a : yV} {v : Value} (h : yFit (zKd ty) a) (hg : yG ad bn a v) : narrow ty v = v ∧ fits ty v = true := by
  match ty, a, h, hg with
  | .int, .inl c, _, hg => obtain ⟨i, rfl, _⟩ := hg; exact ⟨rfl, rfl⟩
  | .long, .inr (.inl _), _, hg => obtain ⟨x, rfl, _⟩ := hg; exact ⟨rfl, rfl⟩
  | .boolean, .inl c, h, hg =>
    obtain ⟨i, rfl, hi⟩ := hg
    have h : c = 0 ∨ c = 1 := h
    have e : i = 0 ∨ i = 1 := by
      rcases h with h | h
      · left; rw [← y32_to i, hi, h]; rfl
      · right; rw [← y32_to i, hi, h]; rfl
    rcases e with rfl | rfl
    · exact ⟨rfl, rfl⟩
    · exact ⟨rfl, rfl⟩
  | .object C, .inr (.inr none), _, hg => rw [hg.1]; exact ⟨rfl, rfl⟩
  | .object C, .inr (.inr (some k)), _, hg => rw [hg.1]; exact ⟨rfl, rfl⟩
  | .array C, .inr (.inr none), _, hg => rw [hg.1]; exact ⟨rfl, rfl⟩
  | .array C, .inr (.inr (some k)), _, hg => rw [hg.1]; exact ⟨rfl, rfl⟩
/-- the sort of a value -/
def ySo (a : yV) : Nat := match a with
  | .inl _ => 0
  | .inr (.inl _) => 1
  | .inr (.inr _) => 2
def yPut (h : yHp) (k j : Nat) (a : yV) : yHp := match a with
  | .inl x => ySI h k j x
  | .inr (.inl x) => ySI h k j x
  | .inr (.inr r) => ySR h k j r
theorem yPut_1 (h : yHp) (k j : Nat) (a : yV) : (yPut h k j a).1 = h.1 ∧ (yPut h k j a).2.1 = h.2.1 := by
  match a with
  | .inl _ => exact ⟨rfl, rfl⟩
  | .inr (.inl _) => exact ⟨rfl, rfl⟩
  | .inr (.inr _) => exact ⟨rfl, rfl⟩
theorem yPut_ne (h : yHp) (k j : Nat) (a : yV) {k' j' : Nat} (hn : ¬ (k' = k ∧ j' = j)) : yR (yPut h k j a) k' j' = yR h k' j' ∧ yI (yPut h k j a) k' j' = yI h k' j' := by
  match a with
  | .inl _ => exact ⟨rfl, if_neg hn⟩
  | .inr (.inl _) => exact ⟨rfl, if_neg hn⟩
  | .inr (.inr _) => exact ⟨if_neg hn, rfl⟩
theorem yPut_eq (h : yHp) (k j : Nat) (a : yV) : yFd (yPut h k j a) k j (ySo a) = a := by
  match a with
  | .inl x => show yi (if k = k ∧ j = j then x else _) = _; rw [if_pos ⟨rfl, rfl⟩]
  | .inr (.inl x) => show yj (if k = k ∧ j = j then x else _) = _; rw [if_pos ⟨rfl, rfl⟩]
  | .inr (.inr r) => show yr (if k = k ∧ j = j then r else _) = _; rw [if_pos ⟨rfl, rfl⟩]
theorem vp_nar_bl (w : Int32) : (vp_nar .boolean w).toInt = 0 ∨ (vp_nar .boolean w).toInt = 1 := by
  show (w.toBitVec &&& 1#32).toInt = 0 ∨ (w.toBitVec &&& 1#32).toInt = 1
  rw [BitVec.and_one_eq_setWidth_ofBool_getLsbD]
  cases w.toBitVec.getLsbD 0
  · exact .inl (by decide)
  · exact .inr (by decide)
section Sy
variable {l : Launch} {S : zS} {D : va_G} {cy : Nat → ClassId} {Fk : Nat → Nat → Nat} {z : Nat} {d mi bc bs nc ns pc : Nat} {lo : yL} {st : List yV} {h : yHp} {K : yKo}
theorem ys_gf (hcl : zCls S) {x y ea eb q N : Nat} {r : Option Nat} {C0 : String} {T : u_T} (hd : decode (sC S mi) pc = .ok (.getfield x, 3)) (hc0 : (sCl S)[ea]? = some (C0, T, N)) (hkN : eb < N) (hw : (sW S)[y]? = some (.fieldLink (sY S mi).cls x (T eb).1 (T eb).2.1 (T eb).2.2.1)) (hr : r = some q) (ht : yTy h q = (10 + ea, N)) (hk : yW l S D cy Fk z d mi bc bs K nc ns (pc + 3) lo (yFd h q eb (Fk ea eb) :: st) h) : yW l S D cy Fk z d mi bc bs K nc ns pc lo (yr r :: st) h := by
  intro p e s m args below meth c C ad0 n0 ad hA hN hB H locs ls lv vs ws hR hP hD hS hl hlo hst
  subst hr
  obtain ⟨v, vt, rfl, hg, hst⟩ := hst
  have hv : v = .ref (ad q) := hg.1
  subst hv
  obtain ⟨ee, he, hge⟩ := hR.2.2 q (hg.2 q rfl)
  obtain ⟨vs', rfl, f2, f3⟩ := hge.2.2.2.1 ea (by rw [ht])
  rw [ht] at f2 f3
  obtain ⟨u, hu, hgu⟩ := f3 eb hkN
  exact va_get C.1 C.2.1 C.2.2.2.2.2.1 (fun w hw => List.mem_cons_of_mem _ ((hcl _ _ _ _ hc0).1 w hw)) C.2.2.2.2.1 C.2.2.2.2.2.2.2.2.1.1 hP q he hc0 eb hkN (zs_word C.2.2.2.2.2.1 hw) (fun _ q => q) hu hd (hk p e s m args below meth c C ad0 n0 ad hA hN hB H locs ls lv _ ws hR hP hD hS hl hlo ⟨_, _, rfl, hgu, hst⟩)
theorem ys_pf (hcl : zCls S) {x y ea eb q N : Nat} {r : Option Nat} {a : yV} {C0 : String} {T : u_T} {ty : FieldType} (hd : decode (sC S mi) pc = .ok (.putfield x, 3)) (hc0 : (sCl S)[ea]? = some (C0, T, N)) (hkN : eb < N) (hw : (sW S)[y]? = some (.fieldLink (sY S mi).cls x (T eb).1 (T eb).2.1 (T eb).2.2.1)) (hpt : parseFieldDescriptor (T eb).2.2.1 = some ty) (hfin : (T eb).2.2.2 = false ∨ ((T eb).2.2.2 = true ∧ (sY S mi).name = "<init>" ∧ (T eb).1 = (sY S mi).cls))
    (hfit : yFit (zKd ty) a) (hF : Fk ea eb = ySo a) (hr : r = some q) (ht : yTy h q = (10 + ea, N)) (hk : yW l S D cy Fk z d mi bc bs K nc ns (pc + 3) lo st (yPut h q eb a)) : yW l S D cy Fk z d mi bc bs K nc ns pc lo (a :: yr r :: st) h := by
  intro p e s m args below meth c C ad0 n0 ad hA hN hB H locs ls lv vs ws hR hP hD hS hl hlo hst
  subst hr
  obtain ⟨u, vt, rfl, hgu, hst⟩ := hst
  obtain ⟨v, vt, rfl, hg, hst⟩ := hst
  have hv : v = .ref (ad q) := hg.1
  subst hv
  have hq := hg.2 q rfl
  obtain ⟨ee, he, hge⟩ := hR.2.2 q hq
  obtain ⟨vs', rfl, f2, f3⟩ := hge.2.2.2.1 ea (by rw [ht])
  rw [ht] at f2 f3
  obtain ⟨f1, f4⟩ := ys_fit hfit hgu
  obtain ⟨ty0, hty0⟩ := (hcl _ _ _ _ hc0).2.1
  have e1 := (yPut_1 h q eb a).1
  have e2 := (yPut_1 h q eb a).2
  have ht' : yTy (yPut h q eb a) q = (10 + ea, N) := by show (yPut h q eb a).2.1 q = _; rw [e2]; exact ht
  have hR' : yRel ad cy Fk (yPut h q eb a) (ws.set q (ad q, .inr (ea, vs'.set eb u))) := by
    refine yRel_set hR hq e1 e2 (fun k' hk' b => yPut_ne h q eb a (fun g => hk' g.1)) ?_
    unfold yGc
    rw [ht']
    refine ⟨fun g => absurd g (by simp; omega), fun g => absurd g (by simp; omega), fun g => absurd g (by simp; omega), fun c' g => ?_, fun n g => absurd (congrArg Prod.fst g) (by show ¬ (10 + ea = 3); omega)⟩
    have : c' = ea := by simp at g; omega
    subst this
    refine ⟨_, rfl, by rw [List.length_set]; exact f2, fun j hj => ?_⟩
    by_cases hje : j = eb
    · subst hje
      refine ⟨u, List.getElem?_set_self (by rw [f2]; exact hj), ?_⟩
      rw [hF, yPut_eq, e1]; exact hgu
    · obtain ⟨w, w1, w2⟩ := f3 j hj
      refine ⟨w, by rw [List.getElem?_set_ne (fun g => hje g.symm)]; exact w1, ?_⟩
      have : yFd (yPut h q eb a) q j (Fk c' j) = yFd h q j (Fk c' j) := by
        unfold yFd
        rw [(yPut_ne h q eb a (fun g => hje g.2)).1, (yPut_ne h q eb a (fun g => hje g.2)).2]
      rw [this, e1]; exact w2
  have hlen : eb < vs'.length := by rw [f2]; exact hkN
  have kk := fun (H1 : Heap) (locs1 : List Loc) hP' hD' hS' => hk p e s m args below meth c C ad0 n0 ad hA (by rw [e1]; exact hN) hB H1 locs1 ls lv _ _ hR' hP' hD' hS' hl (by rw [e1]; exact hlo) (by rw [e1]; exact hst)
  rcases hfin with hfin | ⟨hfin, hin, hdc⟩
  · exact va_put C.1 C.2.1 C.2.2.2.2.2.1 (fun w hw => List.mem_cons_of_mem _ ((hcl _ _ _ _ hc0).1 w hw)) ty0 hty0 (hcl _ _ _ _ hc0).2.2 C.2.2.2.2.1 C.2.2.2.2.2.2.2.2.1.1 hP hD hS q he hc0 eb hkN (zs_word C.2.2.2.2.2.1 hw) (fun _ q => q) hfin hpt f1 f4 hlen hd kk
  · exact va_putF C.1 C.2.1 C.2.2.2.2.2.1 (fun w hw => List.mem_cons_of_mem _ ((hcl _ _ _ _ hc0).1 w hw)) ty0 hty0 (hcl _ _ _ _ hc0).2.2 C.2.2.2.2.1 C.2.2.2.2.2.2.2.2.1.1 hP hD hS q he hc0 eb hkN (zs_word C.2.2.2.2.2.1 hw) (fun _ q => q) hfin (C.2.2.2.2.2.2.2.1.trans hin) hdc hpt f1 f4 hlen hd kk
theorem y_in {i : Int32} {n : Nat} (h1 : 0 ≤ i.toInt) (h2 : i.toInt < (n : Int)) : vp_in i n := by rw [vp_in_iff]; omega
theorem ys_ild {c q n : Nat} {x : Int} {r : Option Nat} (hd : (c = 1 ∧ decode (sC S mi) pc = .ok (.iaload, 1)) ∨ ((c = 0 ∨ c = 3) ∧ decode (sC S mi) pc = .ok (.baload, 1))) (hr : r = some q) (ht : yTy h q = (c, n)) (h0 : 0 ≤ x) (h1 : x < (n : Int)) (hk : yW l S D cy Fk z d mi bc bs K nc ns (pc + 1) lo (yi (yI h q x.toNat) :: st) h) : yW l S D cy Fk z d mi bc bs K nc ns pc lo (yi x :: yr r :: st) h := by
  intro p e s m args below meth c C ad0 n0 ad hA hN hB H locs ls lv vs ws hR hP hD hS hl hlo hst
  subst hr
  obtain ⟨v, vt, rfl, ⟨i, rfl, rfl⟩, hst⟩ := hst
  obtain ⟨v, vt, rfl, hg, hst⟩ := hst
  have hv : v = .ref (ad q) := hg.1
  subst hv
  obtain ⟨ee, he, hge⟩ := hR.2.2 q (hg.2 q rfl)
  have hin : vp_in i n := y_in h0 h1
  have hcl : i.toNatClampNeg = i.toInt.toNat := rfl
  rcases hd with ⟨rfl, hd⟩ | ⟨h03, hd⟩
  · obtain ⟨f, rfl, f2⟩ := hge.1 (by rw [ht]; simp)
    rw [ht] at f2 he
    exact va_iald C.1 C.2.1 C.2.2.2.2.2.2.2.2.1.1 hP q 1 he rfl hin hd (hk p e s m args below meth c C ad0 n0 ad hA hN hB H locs ls lv _ ws hR hP hD hS hl hlo ⟨_, _, rfl, ⟨_, rfl, f2 _ (by show i.toInt.toNat < n; omega)⟩, hst⟩)
  · rcases h03 with rfl | rfl
    · obtain ⟨f, rfl, f2⟩ := hge.1 (by rw [ht]; simp)
      rw [ht] at f2 he
      exact va_bald C.1 C.2.1 C.2.2.2.2.2.2.2.2.1.1 hP q 0 he rfl hin hd (hk p e s m args below meth c C ad0 n0 ad hA hN hB H locs ls lv _ ws hR hP hD hS hl hlo ⟨_, _, rfl, ⟨_, rfl, f2 _ (by show i.toInt.toNat < n; omega)⟩, hst⟩)
    · obtain ⟨f, rfl, f2⟩ := hge.1 (by rw [ht]; simp)
      rw [ht] at f2 he
      exact va_zald C.1 C.2.1 C.2.2.2.2.2.2.2.2.1.1 hP q 3 he rfl hin hd (hk p e s m args below meth c C ad0 n0 ad hA hN hB H locs ls lv _ ws hR hP hD hS hl hlo ⟨_, _, rfl, ⟨_, rfl, f2 _ (by show i.toInt.toNat < n; omega)⟩, hst⟩)
theorem y_upd {f : Nat → Int32} {n i : Nat} {h : yHp} {q : Nat} {v : Int32} (hf : ∀ j, j < n → (f j).toInt = yI h q j) : ∀ j, j < n → (upd f i v j).toInt = yI (ySI h q i v.toInt) q j := by
  intro j hj
  show (upd f i v j).toInt = if q = q ∧ j = i then v.toInt else h.2.2.2 q j
  by_cases e : j = i
  · subst e; rw [if_pos ⟨rfl, rfl⟩]; simp [upd]
  · rw [if_neg (fun g => e g.2)]; simp [upd, e]; exact hf j hj
theorem y_ra (h : yHp) (q i : Nat) (v : Int) (k' : Nat) (hk : k' ≠ q) (b : Nat) : yR (ySI h q i v) k' b = yR h k' b ∧ yI (ySI h q i v) k' b = yI h k' b := ⟨rfl, if_neg (fun g => hk g.1)⟩
theorem ys_ist {c q n : Nat} {x v : Int} {r : Option Nat} (hd : (c = 1 ∧ decode (sC S mi) pc = .ok (.iastore, 1)) ∨ ((c = 0 ∨ c = 3) ∧ decode (sC S mi) pc = .ok (.bastore, 1))) (hr : r = some q) (ht : yTy h q = (c, n)) (h0 : 0 ≤ x) (h1 : x < (n : Int)) (hk : yW l S D cy Fk z d mi bc bs K nc ns (pc + 1) lo st (ySI h q x.toNat (ynar c v))) : yW l S D cy Fk z d mi bc bs K nc ns pc lo (yi v :: yi x :: yr r :: st) h := by
  intro p e s m args below meth c C ad0 n0 ad hA hN hB H locs ls lv vs ws hR hP hD hS hl hlo hst
  subst hr
  obtain ⟨u, vt, rfl, ⟨w, rfl, rfl⟩, hst⟩ := hst
  obtain ⟨u, vt, rfl, ⟨i, rfl, rfl⟩, hst⟩ := hst
  obtain ⟨u, vt, rfl, hg, hst⟩ := hst
  have hv : u = .ref (ad q) := hg.1
  subst hv
  have hq := hg.2 q rfl
  obtain ⟨ee, he, hge⟩ := hR.2.2 q hq
  have hin : vp_in i n := y_in h0 h1
  have fin : ∀ (c : Nat) (ty : FieldType) (f : Nat → Int32), (c = 3 → ty = .boolean) → yTy h q = (c, n) → (c = 0 ∨ c = 1 ∨ c = 3) → (∀ j, j < n → (f j).toInt = yI h q j) → yW l S D cy Fk z d mi bc bs K nc ns (pc + 1) lo st (ySI h q i.toInt.toNat (vp_nar ty w).toInt) → ∀ (H1 : Heap) (locs1 : List Loc), va_P D (sCl S) (ws.set q (ad q, .inl (cy c, n, .inl (upd f i.toNatClampNeg (vp_nar ty w))))) H1 → va_D (fun q => z ≤ q) (ws.set q (ad q, .inl (cy c, n, .inl (upd f i.toNatClampNeg (vp_nar ty w))))) → va_S (fun q => z ≤ q) s.heap H1 locs1 → W p l e (zRm d bc bs) s m args below meth ‹Code› H1 locs1 nc ns (vx_MQ below (yQ S D cy Fk z ad0 n0 K) (yXC S D cy Fk z mi ad0 n0 K) args s bc bs (fun q => z ≤ q)) (F0 m (pc + 1) ls vt) := by
    intro c1 ty f hz ht h03 hf hk H1 locs1 hP' hD' hS'
    refine hk p e s m args below meth _ C ad0 n0 ad hA hN hB H1 locs1 ls lv _ _ ?_ hP' hD' hS' hl hlo hst
    refine yRel_set hR hq rfl rfl (fun k' hk' b => y_ra h q _ _ k' hk' b) ?_
    unfold yGc
    have ht' : yTy (ySI h q i.toInt.toNat (vp_nar ty w).toInt) q = (c1, n) := ht
    rw [ht']
    refine ⟨fun _ => ⟨_, rfl, y_upd hf⟩, fun g => ?_, fun g => ?_, fun c' g => ?_, fun n' g j hj => ?_⟩
    · simp at g; omega
    · simp at g; omega
    · simp at g; omega
    · obtain ⟨rfl, rfl⟩ := Prod.mk.inj g
      show (if q = q ∧ j = i.toInt.toNat then (vp_nar ty w).toInt else h.2.2.2 q j) = 0 ∨ (if q = q ∧ j = i.toInt.toNat then (vp_nar ty w).toInt else h.2.2.2 q j) = 1
      by_cases e : j = i.toInt.toNat
      · rw [if_pos ⟨rfl, e⟩, hz rfl]; exact vp_nar_bl w
      · rw [if_neg (fun g => e g.2)]; exact hge.2.2.2.2 _ ht j hj
  rcases hd with ⟨rfl, hd⟩ | ⟨h03, hd⟩
  · obtain ⟨f, rfl, f2⟩ := hge.1 (by rw [ht]; simp)
    rw [ht] at f2 he
    rw [show ynar 1 w.toInt = (vp_nar .int w).toInt by unfold ynar; rw [y32_to]; rfl] at hk
    exact va_iast C.1 C.2.1 C.2.2.2.2.2.2.2.2.1.1 hP hD hS q 1 he rfl hin hd (fin 1 .int f (fun g => absurd g (by decide)) ht (by simp) f2 hk)
  · rcases h03 with rfl | rfl
    · obtain ⟨f, rfl, f2⟩ := hge.1 (by rw [ht]; simp)
      rw [ht] at f2 he
      rw [show ynar 0 w.toInt = (vp_nar .byte w).toInt by unfold ynar; rw [y32_to]; rfl] at hk
      exact va_bast C.1 C.2.1 C.2.2.2.2.2.2.2.2.1.1 hP hD hS q 0 he rfl hin hd (fin 0 .byte f (fun g => absurd g (by decide)) ht (by simp) f2 hk)
    · obtain ⟨f, rfl, f2⟩ := hge.1 (by rw [ht]; simp)
      rw [ht] at f2 he
      rw [show ynar 3 w.toInt = (vp_nar .boolean w).toInt by unfold ynar; rw [y32_to]; rfl] at hk
      exact va_zast C.1 C.2.1 C.2.2.2.2.2.2.2.2.1.1 hP hD hS q 3 he rfl hin hd (fin 3 .boolean f (fun _ => rfl) ht (by simp) f2 hk)
theorem ys_lld {q n : Nat} {x : Int} {r : Option Nat} (hd : decode (sC S mi) pc = .ok (.laload, 1)) (hr : r = some q) (ht : yTy h q = (2, n)) (h0 : 0 ≤ x) (h1 : x < (n : Int)) (hk : yW l S D cy Fk z d mi bc bs K nc ns (pc + 1) lo (yj (yI h q x.toNat) :: st) h) : yW l S D cy Fk z d mi bc bs K nc ns pc lo (yi x :: yr r :: st) h := by
  intro p e s m args below meth c C ad0 n0 ad hA hN hB H locs ls lv vs ws hR hP hD hS hl hlo hst
  subst hr
  obtain ⟨v, vt, rfl, ⟨i, rfl, rfl⟩, hst⟩ := hst
  obtain ⟨v, vt, rfl, hg, hst⟩ := hst
  have hv : v = .ref (ad q) := hg.1
  subst hv
  obtain ⟨ee, he, hge⟩ := hR.2.2 q (hg.2 q rfl)
  obtain ⟨f, rfl, f2⟩ := hge.2.1 (by rw [ht])
  rw [ht] at f2 he
  exact va_lald C.1 C.2.1 C.2.2.2.2.2.2.2.2.1.1 hP q 2 he rfl (y_in h0 h1) hd (hk p e s m args below meth c C ad0 n0 ad hA hN hB H locs ls lv _ ws hR hP hD hS hl hlo ⟨_, _, rfl, ⟨_, rfl, f2 _ (by show i.toInt.toNat < n; omega)⟩, hst⟩)
theorem ys_alen {q c n : Nat} {r : Option Nat} (hd : decode (sC S mi) pc = .ok (.arraylength, 1)) (hr : r = some q) (ht : yTy h q = (c, n)) (hc : c ≤ 5) (hn : n < 2147483648) (hk : yW l S D cy Fk z d mi bc bs K nc ns (pc + 1) lo (yi (n : Int) :: st) h) : yW l S D cy Fk z d mi bc bs K nc ns pc lo (yr r :: st) h := by
  intro p e s m args below meth c0 C ad0 n0 ad hA hN hB H locs ls lv vs ws hR hP hD hS hl hlo hst
  subst hr
  obtain ⟨v, vt, rfl, hg, hst⟩ := hst
  have hv : v = .ref (ad q) := hg.1
  subst hv
  obtain ⟨ee, he, hge⟩ := hR.2.2 q (hg.2 q rfl)
  have kk := hk p e s m args below meth c0 C ad0 n0 ad hA hN hB H locs ls lv (.int (nI n) :: vt) ws hR hP hD hS hl hlo ⟨_, _, rfl, ⟨_, rfl, nI_toInt (by omega)⟩, hst⟩
  have h6 : c = 0 ∨ c = 1 ∨ c = 2 ∨ c = 3 ∨ c = 4 ∨ c = 5 := by omega
  rcases h6 with rfl | rfl | rfl | rfl | rfl | rfl
  · obtain ⟨f, rfl, f2⟩ := hge.1 (by rw [ht]; simp)
    rw [ht] at he
    exact va_alen C.1 C.2.1 C.2.2.2.2.2.2.2.2.1.1 hP q 0 he rfl rfl hd kk
  · obtain ⟨f, rfl, f2⟩ := hge.1 (by rw [ht]; simp)
    rw [ht] at he
    exact va_alen C.1 C.2.1 C.2.2.2.2.2.2.2.2.1.1 hP q 1 he rfl rfl hd kk
  · obtain ⟨f, rfl, f2⟩ := hge.2.1 (by rw [ht])
    rw [ht] at he
    exact va_alen C.1 C.2.1 C.2.2.2.2.2.2.2.2.1.1 hP q 2 he rfl rfl hd kk
  · obtain ⟨f, rfl, f2⟩ := hge.1 (by rw [ht]; simp)
    rw [ht] at he
    exact va_alen C.1 C.2.1 C.2.2.2.2.2.2.2.2.1.1 hP q 3 he rfl rfl hd kk
  · obtain ⟨f, rfl, f2⟩ := hge.2.2.1 (by rw [ht]; simp)
    rw [ht] at he
    exact va_alen C.1 C.2.1 C.2.2.2.2.2.2.2.2.1.1 hP q 4 he rfl rfl hd kk
  · obtain ⟨f, rfl, f2⟩ := hge.2.2.1 (by rw [ht]; simp)
    rw [ht] at he
    exact va_alen C.1 C.2.1 C.2.2.2.2.2.2.2.2.1.1 hP q 5 he rfl rfl hd kk
theorem ys_ireturn {x : Int} (hd : decode (sC S mi) pc = .ok (.ireturn, 1)) (hr0 : sR S mi = some .int) (hk : K (some (yi x)) h) : yW l S D cy Fk z d mi bc bs K nc ns pc lo [yi x] h := by
  intro p e s m args below meth c C ad0 n0 ad hA hN hB H locs ls lv vs ws hR hP hD hS hl hlo hst
  obtain ⟨v, vt, rfl, hv, hs2⟩ := hst
  have hs2 : vt = [] := hs2
  subst hs2
  have hv0 := hv
  obtain ⟨i, rfl, _⟩ := hv0
  refine W.widen hB.1 hB.2 ?_
  exact vx_ret (W.iret C.1 C.2.1 (C.2.2.2.1.trans hr0) (fun t ht _ => ⟨_, h, _, ad, ws, ⟨hk, fun _ w => by cases w⟩, rfl, hv, hA, hN, hR, by rw [ht]; exact hP, hD, hS.F ht⟩) hS.2.2 hd C.2.2.2.2.2.2.1)
theorem ys_zreturn {x : Int} (hd : decode (sC S mi) pc = .ok (.ireturn, 1)) (hr0 : sR S mi = some .boolean) (hx : x = 0 ∨ x = 1) (hk : K (some (yi x)) h) : yW l S D cy Fk z d mi bc bs K nc ns pc lo [yi x] h := by
  intro p e s m args below meth c C ad0 n0 ad hA hN hB H locs ls lv vs ws hR hP hD hS hl hlo hst
  obtain ⟨v, vt, rfl, hv, hs2⟩ := hst
  have hs2 : vt = [] := hs2
  subst hs2
  have hv0 := hv
  obtain ⟨i, rfl, hi⟩ := hv0
  have hi2 : i = 0 ∨ i = 1 := by
    rcases hx with g | g
    · left; rw [← y32_to i, hi, g]; rfl
    · right; rw [← y32_to i, hi, g]; rfl
  refine W.widen hB.1 hB.2 ?_
  refine vx_ret (W.zret C.1 C.2.1 (C.2.2.2.1.trans hr0) ?_ (fun t ht _ => ⟨_, h, _, ad, ws, ⟨hk, fun _ w => by cases w⟩, rfl, hv, hA, hN, hR, by rw [ht]; exact hP, hD, hS.F ht⟩) hS.2.2 hd C.2.2.2.2.2.2.1)
  rcases hi2 with rfl | rfl <;> rfl
theorem ys_lreturn {x : Int} (hd : decode (sC S mi) pc = .ok (.lreturn, 1)) (hr0 : sR S mi = some .long) (hk : K (some (yj x)) h) : yW l S D cy Fk z d mi bc bs K nc ns pc lo [yj x] h := by
  intro p e s m args below meth c C ad0 n0 ad hA hN hB H locs ls lv vs ws hR hP hD hS hl hlo hst
  obtain ⟨v, vt, rfl, hv, hs2⟩ := hst
  have hs2 : vt = [] := hs2
  subst hs2
  have hv0 := hv
  obtain ⟨i, rfl, _⟩ := hv0
  refine W.widen hB.1 hB.2 ?_
  exact vx_ret (W.lret C.1 C.2.1 (C.2.2.2.1.trans hr0) (fun t ht _ => ⟨_, h, _, ad, ws, ⟨hk, fun _ w => by cases w⟩, rfl, hv, hA, hN, hR, by rw [ht]; exact hP, hD, hS.F ht⟩) hS.2.2 hd C.2.2.2.2.2.2.1)
theorem ys_return (hd : decode (sC S mi) pc = .ok (.return_, 1)) (hr0 : sR S mi = none) (hk : K none h) : yW l S D cy Fk z d mi bc bs K nc ns pc lo [] h := by
  intro p e s m args below meth c C ad0 n0 ad hA hN hB H locs ls lv vs ws hR hP hD hS hl hlo hst
  have hs2 : vs = [] := hst
  subst hs2
  refine W.widen hB.1 hB.2 ?_
  exact vx_ret (W.vret C.1 C.2.1 (C.2.2.2.1.trans hr0) (fun t ht _ => ⟨none, h, none, ad, ws, ⟨hk, fun _ w => by cases w⟩, rfl, trivial, hA, hN, hR, by rw [ht]; exact hP, hD, hS.F ht⟩) hS.2.2 hd C.2.2.2.2.2.2.1)
end Sy
