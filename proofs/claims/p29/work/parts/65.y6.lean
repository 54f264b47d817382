/-! THE EXACT MACHINE, 6: rows of longs and references, what is made, the library's own methods. -/
/-- a field's value when it is made -/
def yDv (s : Nat) : Value := match s with
  | 0 => .int 0
  | 1 => .long 0
  | _ => va_rf none
/-- what is known of a class of which objects are made -/
def yMk (S : zS) (Fk : Nat → Nat → Nat) (ci : Nat) : Prop := ∃ (C : String) (T : u_T) (N : Nat) (ty : Nat → FieldType) (vd : List Value), (sCl S)[ci]? = some (C, T, N) ∧ (∀ k, k < N → parseFieldDescriptor (T k).2.2.1 = some (ty k)) ∧ vd.length = N ∧ (∀ j, j < N → vd[j]? = some (yDv (Fk ci j))) ∧ (∀ j, j < N → defaultValue (ty j) = vp_V vd j) ∧ Jvm.Cond.instantiable C N ∈ sW S ∧ Jvm.Cond.initialized C ∈ sW S
def zRaOk (S : zS) : Prop := (∃ T N, (sCl S)[5]? = some ("ChairAlley$State", T, N)) ∧ ∃ T N, (sCl S)[9]? = some ("ChairAlley$World", T, N)
theorem zs_ra {s : State} {c1 c2 : ClassId} {ty : FieldType} (h1 : va_RA s c1 ty) (h2 : va_RA s c2 ty) : c1 = c2 := by
  cases ty with
  | object C =>
    obtain ⟨-, -, -, -, -, h1⟩ := h1
    obtain ⟨-, -, -, -, -, h2⟩ := h2
    rw [h1] at h2
    exact Option.some.inj h2
  | _ =>
    have h1 : s.vm.findClass _ = some c1 := h1
    have h2 : s.vm.findClass _ = some c2 := h2
    rw [h1] at h2
    exact Option.some.inj h2
theorem zs_cA {D : va_G} {cl : List vw_C} {cy : Nat → ClassId} {s : State} {cA : ClassId} {ty : FieldType} (t : Nat) (hK : va_K D cl (zTys cy) s) (hK' : va_K D cl (zTys cy ++ [(cA, ty)]) s) (ht : (zTys cy)[t]? = some (cy t, ty)) : cA = cy t :=
  zs_ra (hK'.2 6 (cA, ty) rfl).2 (hK.2 t _ ht).2
/-- words of the library's own methods -/
def zNt (S : zS) : Prop := Jvm.Cond.instanceMethod Lib.objectInit ∈ sW S ∧ Jvm.Cond.code Lib.objectInit ⟨#[0xb1]⟩ 1 none ∈ sW S ∧ Jvm.Cond.native arraycopyName ∈ sW S ∧ Jvm.Cond.static arraycopyName ∈ sW S ∧ Jvm.Cond.initialized "java/lang/System" ∈ sW S ∧ Jvm.Cond.initialized "java/lang/Math" ∈ sW S ∧ (Jvm.Cond.static Lib.Math.max.name ∈ sW S ∧ Jvm.Cond.code Lib.Math.max.name Lib.Math.max.code 2 (some .int) ∈ sW S) ∧ (Jvm.Cond.static Lib.Math.min.name ∈ sW S ∧ Jvm.Cond.code Lib.Math.min.name Lib.Math.min.code 2 (some .int) ∈ sW S)
/-- the first n of row q' are those of row q -/
def yCpy (h : yHp) (q q' n : Nat) : yHp := (h.1, h.2.1, h.2.2.1, fun a b => if a = q' ∧ b < n then h.2.2.2 q b else h.2.2.2 a b)
def ymax (x y : Int) : Int := if y < x then x else y
def ymin (x y : Int) : Int := if y < x then y else x
section Sy
variable {l : Launch} {S : zS} {D : va_G} {cy : Nat → ClassId} {Fk : Nat → Nat → Nat} {z : Nat} {d mi bc bs nc ns pc : Nat} {lo : yL} {st : List yV} {h : yHp} {K : yKo}
theorem ys_last {q n : Nat} {x v : Int} {r : Option Nat} (hd : decode (sC S mi) pc = .ok (.lastore, 1)) (hr : r = some q) (ht : yTy h q = (2, n)) (h0 : 0 ≤ x) (h1 : x < (n : Int)) (hk : yW l S D cy Fk z d mi bc bs K nc ns (pc + 1) lo st (ySI h q x.toNat v)) : yW l S D cy Fk z d mi bc bs K nc ns pc lo (yj v :: yi x :: yr r :: st) h := by
  intro p e s m args below meth c C ad0 n0 ad hA hN hB H locs ls lv vs ws hR hP hD hS hl hlo hst
  subst hr
  obtain ⟨u, vt, rfl, ⟨w, rfl, rfl⟩, hst⟩ := hst
  obtain ⟨u, vt, rfl, ⟨i, rfl, rfl⟩, hst⟩ := hst
  obtain ⟨u, vt, rfl, hg, hst⟩ := hst
  have hv : u = .ref (ad q) := hg.1
  subst hv
  have hq := hg.2 q rfl
  obtain ⟨ee, he, hge⟩ := hR.2.2 q hq
  obtain ⟨f, rfl, f2⟩ := hge.2.1 (by rw [ht])
  rw [ht] at f2 he
  refine va_last C.1 C.2.1 C.2.2.2.2.2.2.2.2.1.1 hP hD hS q 2 he rfl (y_in h0 h1) hd (fun H1 locs1 hP' hD' hS' => ?_)
  refine hk p e s m args below meth _ C ad0 n0 ad hA hN hB H1 locs1 ls lv _ _ ?_ hP' hD' hS' hl hlo hst
  refine yRel_set hR hq rfl rfl (fun k' hk' b => y_ra h q _ _ k' hk' b) ?_
  unfold yGc
  have ht' : yTy (ySI h q i.toInt.toNat w.toInt) q = (2, n) := ht
  rw [ht']
  refine ⟨fun g => ?_, fun _ => ⟨_, rfl, fun j hj => ?_⟩, fun g => ?_, fun c' g => ?_, fun n g => absurd (congrArg Prod.fst g) (by show ¬ (2 = 3); decide)⟩
  · simp at g
  · show (vp_updL f i.toNatClampNeg w j).toInt = if q = q ∧ j = i.toInt.toNat then w.toInt else h.2.2.2 q j
    have hcl : i.toNatClampNeg = i.toInt.toNat := rfl
    rw [hcl]
    by_cases e : j = i.toInt.toNat
    · rw [if_pos ⟨rfl, e⟩, show vp_updL f i.toInt.toNat w j = w from if_pos e]
    · rw [if_neg (fun g => e g.2), show vp_updL f i.toInt.toNat w j = f j from if_neg e]; exact f2 j hj
  · simp at g
  · simp at g; omega
theorem ys_aald {c q n : Nat} {x : Int} {r : Option Nat} (hd : decode (sC S mi) pc = .ok (.aaload, 1)) (hr : r = some q) (ht : yTy h q = (c, n)) (hc : c = 4 ∨ c = 5) (h0 : 0 ≤ x) (h1 : x < (n : Int)) (hk : yW l S D cy Fk z d mi bc bs K nc ns (pc + 1) lo (yr (yR h q x.toNat) :: st) h) : yW l S D cy Fk z d mi bc bs K nc ns pc lo (yi x :: yr r :: st) h := by
  intro p e s m args below meth c0 C ad0 n0 ad hA hN hB H locs ls lv vs ws hR hP hD hS hl hlo hst
  subst hr
  obtain ⟨v, vt, rfl, ⟨i, rfl, rfl⟩, hst⟩ := hst
  obtain ⟨v, vt, rfl, hg, hst⟩ := hst
  have hv : v = .ref (ad q) := hg.1
  subst hv
  obtain ⟨ee, he, hge⟩ := hR.2.2 q (hg.2 q rfl)
  have hcl : i.toNatClampNeg = i.toInt.toNat := rfl
  rcases hc with rfl | rfl
  · obtain ⟨f, rfl, f2⟩ := hge.2.2.1 (by rw [ht]; simp)
    rw [ht] at f2 he
    obtain ⟨g1, g2⟩ := f2 i.toInt.toNat (by omega)
    exact va_aldq C.1 C.2.1 C.2.2.2.2.2.2.2.2.1.1 hP q 4 he rfl (y_in h0 h1) hd (hk p e s m args below meth c0 C ad0 n0 ad hA hN hB H locs ls lv _ ws hR hP hD hS hl hlo ⟨_, _, rfl, ⟨by rw [hcl, g1], g2⟩, hst⟩)
  · obtain ⟨f, rfl, f2⟩ := hge.2.2.1 (by rw [ht]; simp)
    rw [ht] at f2 he
    obtain ⟨g1, g2⟩ := f2 i.toInt.toNat (by omega)
    exact va_aldq C.1 C.2.1 C.2.2.2.2.2.2.2.2.1.1 hP q 5 he rfl (y_in h0 h1) hd (hk p e s m args below meth c0 C ad0 n0 ad hA hN hB H locs ls lv _ ws hR hP hD hS hl hlo ⟨_, _, rfl, ⟨by rw [hcl, g1], g2⟩, hst⟩)
theorem ys_aast (hra : zRaOk S) {c q n g n' co : Nat} {x : Int} {r r' : Option Nat} (hd : decode (sC S mi) pc = .ok (.aastore, 1)) (hr : r = some q) (hr' : r' = some g) (ht : yTy h q = (c, n)) (ht' : yTy h g = (10 + co, n')) (hc : (c = 4 ∧ co = 5) ∨ (c = 5 ∧ co = 9)) (h0 : 0 ≤ x) (h1 : x < (n : Int)) (hk : yW l S D cy Fk z d mi bc bs K nc ns (pc + 1) lo st (ySR h q x.toNat (some g))) : yW l S D cy Fk z d mi bc bs K nc ns pc lo (yr r' :: yi x :: yr r :: st) h := by
  intro p e s m args below meth c0 C ad0 n0 ad hA hN hB H locs ls lv vs ws hR hP hD hS hl hlo hst
  subst hr hr'
  obtain ⟨u, vt, rfl, hgu, hst⟩ := hst
  have hu : u = .ref (ad g) := hgu.1
  subst hu
  obtain ⟨u, vt, rfl, ⟨i, rfl, rfl⟩, hst⟩ := hst
  obtain ⟨u, vt, rfl, hg, hst⟩ := hst
  have hv : u = .ref (ad q) := hg.1
  subst hv
  have hq := hg.2 q rfl
  have hgb := hgu.2 g rfl
  obtain ⟨ee, he, hge⟩ := hR.2.2 q hq
  obtain ⟨e2, he2, hge2⟩ := hR.2.2 g hgb
  obtain ⟨vs2, rfl, _, _⟩ := hge2.2.2.2.1 co (by rw [ht'])
  obtain ⟨f, rfl, f2⟩ := hge.2.2.1 (by rw [ht]; rcases hc with q | q <;> simp [q.1])
  rw [ht] at f2 he
  have hcl : i.toNatClampNeg = i.toInt.toNat := rfl
  have kk : ∀ (H1 : Heap) (locs1 : List Loc), va_P D (sCl S) (ws.set q (ad q, .inl (cy c, n, .inr (.inr (.inr (.inr (va_up f i.toNatClampNeg (some (ad g))))))))) H1 → va_D (fun q => z ≤ q) (ws.set q (ad q, .inl (cy c, n, .inr (.inr (.inr (.inr (va_up f i.toNatClampNeg (some (ad g))))))))) → va_S (fun q => z ≤ q) s.heap H1 locs1 → W p l e (zRm d bc bs) s m args below meth c0 H1 locs1 nc ns (vx_MQ below (yQ S D cy Fk z ad0 n0 K) (yXC S D cy Fk z mi ad0 n0 K) args s bc bs (fun q => z ≤ q)) (F0 m (pc + 1) ls vt) := by
    intro H1 locs1 hP' hD' hS'
    refine hk p e s m args below meth _ C ad0 n0 ad hA hN hB H1 locs1 ls lv _ _ ?_ hP' hD' hS' hl hlo hst
    refine yRel_set hR hq rfl rfl (fun k' hk' b => ⟨if_neg (fun g => hk' g.1), rfl⟩) ?_
    unfold yGc
    have ht2 : yTy (ySR h q i.toInt.toNat (some g)) q = (c, n) := ht
    rw [ht2]
    refine ⟨fun w => ?_, fun w => ?_, fun _ => ⟨_, rfl, fun j hj => ?_⟩, fun c' w => ?_, fun n' w => absurd (congrArg Prod.fst w) (by show ¬ (c = 3); rcases hc with q | q <;> omega)⟩
    · exfalso; simp at w; omega
    · exfalso; simp at w; omega
    · have e1 : yR (ySR h q i.toInt.toNat (some g)) q j = if q = q ∧ j = i.toInt.toNat then some g else yR h q j := rfl
      rw [e1, hcl]
      by_cases e : j = i.toInt.toNat
      · rw [if_pos ⟨rfl, e⟩, e, va_up_self]
        exact ⟨rfl, fun k' w => by cases w; exact hgb⟩
      · rw [if_neg (fun w => e w.2), va_up_ne _ _ e]; exact f2 j hj
    · exfalso; simp at w; omega
  rcases hc with ⟨rfl, rfl⟩ | ⟨rfl, rfl⟩
  · obtain ⟨T5, N5, h5⟩ := hra.1
    exact va_astq C.1 C.2.1 C.2.2.2.2.2.2.2.2.1.1 hP hD hS q 4 g 5 he rfl he2 h5 (y_in h0 h1) hd kk
  · obtain ⟨T9, N9, h9⟩ := hra.2
    exact va_astq C.1 C.2.1 C.2.2.2.2.2.2.2.2.1.1 hP hD hS q 5 g 9 he rfl he2 h9 (y_in h0 h1) hd kk
theorem ys_new (hcl : zCls S) {x y ea N : Nat} {C0 : String} {T0 : u_T} (hmk : yMk S Fk ea) (hd : decode (sC S mi) pc = .ok (.new x, 3)) (hc0 : (sCl S)[ea]? = some (C0, T0, N)) (hw : (sW S)[y]? = some (.classLink (sY S mi).cls x C0)) (hb1 : nc + 1 ≤ bc) (hb2 : ns + N ≤ bs) (hk : yW l S D cy Fk z d mi bc bs K (nc + 1) (ns + N) (pc + 3) lo (yr (some h.1) :: st) (yNw h (10 + ea) N)) : yW l S D cy Fk z d mi bc bs K nc ns pc lo st h := by
  intro p e s m args below meth c C ad0 n0 ad hA hN hB H locs ls lv vs ws hR hP hD hS hl hlo hst
  obtain ⟨C1, T1, N1, ty, vd, k1, k2, k3, k4, k4', k5, k6⟩ := hmk
  rw [hc0] at k1
  cases k1
  refine va_new C.1 C.2.1 C.2.2.2.2.2.1 (fun w hw => List.mem_cons_of_mem _ ((hcl _ _ _ _ hc0).1 w hw)) ty k2 C.2.2.2.2.1 (zs_word C.2.2.2.2.2.1 hw) (C.2.2.2.2.2.1 _ (List.mem_cons_of_mem _ k5)) (C.2.2.2.2.2.1 _ (List.mem_cons_of_mem _ k6)) C.2.2.2.2.2.2.2.2.1.1 hP hD hS (fun q hq => Nat.le_trans C.2.2.2.2.2.2.2.2.2.1.1 hq) hc0 k4' hb1 hb2 hd (fun q H1 hP' hD' hS' => ?_)
  have hup : yGs (yAd ad h.1 q) (h.1 + 1) st vs := yGs_up yAd_old (Nat.le_succ _) hst
  refine hk p e s m args below meth c C ad0 n0 (yAd ad h.1 q) (fun k hkn => by rw [yAd_old k (by omega)]; exact hA k hkn) (Nat.le_trans hN (Nat.le_succ _)) ⟨hb1, hb2⟩ H1 locs ls lv _ _ (yRel_add hR ?_) hP' hD' hS' hl (yGl_up yAd_old (Nat.le_succ _) hlo) ⟨_, _, rfl, ⟨by show _ = Value.ref _; rw [yAd_new], fun k q => by cases q; exact Nat.lt_succ_self _⟩, hup⟩
  have ht : yTy (yNw h (10 + ea) N) h.1 = (10 + ea, N) := if_pos rfl
  unfold yGc
  rw [ht]
  refine ⟨fun w => ?_, fun w => ?_, fun w => ?_, fun c' w => ?_, fun n w => absurd (congrArg Prod.fst w) (by show ¬ (10 + ea = 3); omega)⟩
  · exfalso; simp at w; omega
  · exfalso; simp at w; omega
  · exfalso; simp at w; omega
  · have : c' = ea := by simp at w; omega
    subst this
    refine ⟨vd, rfl, k3, fun j hj => ⟨_, k4 j hj, ?_⟩⟩
    have eI : yI (yNw h (10 + c') N) h.1 j = 0 := if_pos rfl
    have eR : yR (yNw h (10 + c') N) h.1 j = none := if_pos rfl
    unfold yFd
    rw [eI, eR]
    generalize Fk c' j = so
    match so with
    | 0 => exact ⟨0, rfl, rfl⟩
    | 1 => exact ⟨0, rfl, rfl⟩
    | _ + 2 => exact ⟨rfl, fun k w => by cases w⟩
theorem ys_na (hac : Jvm.Cond.arrayClass .byte ∈ sW S ∧ Jvm.Cond.arrayClass .int ∈ sW S ∧ Jvm.Cond.arrayClass .long ∈ sW S ∧ Jvm.Cond.arrayClass .boolean ∈ sW S) {c n : Nat} {x : Int} (hd : (c = 0 ∧ decode (sC S mi) pc = .ok (.newarray .byte, 2)) ∨ (c = 1 ∧ decode (sC S mi) pc = .ok (.newarray .int, 2)) ∨ (c = 2 ∧ decode (sC S mi) pc = .ok (.newarray .long, 2)) ∨ (c = 3 ∧ decode (sC S mi) pc = .ok (.newarray .boolean, 2))) (hx : x = (n : Int)) (hn : n ≤ 65536) (hb1 : nc + 1 ≤ bc) (hb2 : ns + n ≤ bs) (hk : yW l S D cy Fk z d mi bc bs K (nc + 1) (ns + n) (pc + 2) lo (yr (some h.1) :: st) (yNw h c n)) : yW l S D cy Fk z d mi bc bs K nc ns pc lo (yi x :: st) h := by
  intro p e s m args below meth c0 C ad0 n0 ad hA hN hB H locs ls lv vs ws hR hP hD hS hl hlo hst
  subst hx
  obtain ⟨u, ut, rfl, ⟨i, rfl, hi⟩, hs2⟩ := hst
  have hi : i = nI n := by rw [← y32_to i, hi]; exact (by rw [← nI_toInt (n := n) (by omega)]; exact y32_to _)
  subst hi
  have hA0 : ∀ q, s.heap.size ≤ q → z ≤ q := fun q hq => Nat.le_trans C.2.2.2.2.2.2.2.2.2.1.1 hq
  have hneg : ¬ nI n < 0 := nI_pos (by omega)
  have hcl : (nI n).toNatClampNeg = n := nI_clamp (by omega)
  have wd : ∀ w ∈ sW S, w.before args s = true := fun w hw => C.2.2.2.2.2.1 w (List.mem_cons_of_mem _ hw)
  have ht : yTy (yNw h c n) h.1 = (c, n) := if_pos rfl
  have eI : ∀ j, yI (yNw h c n) h.1 j = 0 := fun j => if_pos rfl
  have fin : ∀ (q : Nat) (H1 : Heap) (ee : va_E), yGc (yAd ad h.1 q) cy Fk (yNw h c n) h.1 ee → va_P D (sCl S) (ws ++ [(q, ee)]) H1 → va_D (fun q => z ≤ q) (ws ++ [(q, ee)]) → va_S (fun q => z ≤ q) s.heap H1 locs → W p l e (zRm d bc bs) s m args below meth c0 H1 locs (nc + 1) (ns + n) (vx_MQ below (yQ S D cy Fk z ad0 n0 K) (yXC S D cy Fk z mi ad0 n0 K) args s bc bs (fun q => z ≤ q)) (F0 m (pc + 2) ls (.ref q :: ut)) := by
    intro q H1 ee hge hP' hD' hS'
    exact hk p e s m args below meth c0 C ad0 n0 (yAd ad h.1 q) (fun k hkn => by rw [yAd_old k (by omega)]; exact hA k hkn) (Nat.le_trans hN (Nat.le_succ _)) ⟨hb1, hb2⟩ H1 locs ls lv _ _ (yRel_add hR hge) hP' hD' hS' hl (yGl_up yAd_old (Nat.le_succ _) hlo) ⟨_, _, rfl, ⟨by show _ = Value.ref _; rw [yAd_new], fun k q => by cases q; exact Nat.lt_succ_self _⟩, yGs_up yAd_old (Nat.le_succ _) hs2⟩
  have ge : ∀ (q : Nat), (c = 0 ∨ c = 1 ∨ c = 3) → yGc (yAd ad h.1 q) cy Fk (yNw h c n) h.1 (.inl (cy c, n, .inl (fun _ => 0))) := by
    intro q h03
    unfold yGc
    rw [ht]
    refine ⟨fun _ => ⟨fun _ => 0, rfl, fun j hj => by rw [eI]; rfl⟩, fun w => ?_, fun w => ?_, fun c' w => ?_, fun n' w j hj => .inl (eI j)⟩
    · exfalso; simp at w; omega
    · exfalso; simp at w; omega
    · exfalso; simp at w; omega
  rcases hd with ⟨rfl, hd⟩ | ⟨rfl, hd⟩ | ⟨rfl, hd⟩ | ⟨rfl, hd⟩
  · refine va_newa (atype := .byte) (ty := .byte) (a0 := (n, .inl (fun _ => 0))) C.1 C.2.1 (wd _ hac.1) rfl C.2.2.2.2.2.2.2.2.1.1 hP hD hS hA0 (fun cA => rfl) hneg hcl (by simp only [componentBytes]; omega) hb1 hb2 hd (fun q cA H1 hK' hP' hD' hS' => ?_)
    have hcA := zs_cA 0 C.2.2.2.2.2.2.2.2.1.1 hK' rfl
    subst hcA
    exact fin q H1 _ (ge q (by simp)) hP' hD' hS'
  · refine va_newa (atype := .int) (ty := .int) (a0 := (n, .inl (fun _ => 0))) C.1 C.2.1 (wd _ hac.2.1) rfl C.2.2.2.2.2.2.2.2.1.1 hP hD hS hA0 (fun cA => rfl) hneg hcl (by simp only [componentBytes]; omega) hb1 hb2 hd (fun q cA H1 hK' hP' hD' hS' => ?_)
    have hcA := zs_cA 1 C.2.2.2.2.2.2.2.2.1.1 hK' rfl
    subst hcA
    exact fin q H1 _ (ge q (by simp)) hP' hD' hS'
  · refine va_newa (atype := .long) (ty := .long) (a0 := (n, .inr (.inl (fun _ => 0)))) C.1 C.2.1 (wd _ hac.2.2.1) rfl C.2.2.2.2.2.2.2.2.1.1 hP hD hS hA0 (fun cA => rfl) hneg hcl (by simp only [componentBytes]; omega) hb1 hb2 hd (fun q cA H1 hK' hP' hD' hS' => ?_)
    have hcA := zs_cA 2 C.2.2.2.2.2.2.2.2.1.1 hK' rfl
    subst hcA
    refine fin q H1 _ ?_ hP' hD' hS'
    unfold yGc
    rw [ht]
    refine ⟨fun w => ?_, fun _ => ⟨fun _ => 0, rfl, fun j hj => by rw [eI]; rfl⟩, fun w => ?_, fun c' w => ?_, fun n' w => absurd (congrArg Prod.fst w) (by show ¬ (2 = 3); decide)⟩
    · exfalso; simp at w
    · exfalso; simp at w
    · exfalso; simp at w; omega
  · refine va_newa (atype := .boolean) (ty := .boolean) (a0 := (n, .inl (fun _ => 0))) C.1 C.2.1 (wd _ hac.2.2.2) rfl C.2.2.2.2.2.2.2.2.1.1 hP hD hS hA0 (fun cA => rfl) hneg hcl (by simp only [componentBytes]; omega) hb1 hb2 hd (fun q cA H1 hK' hP' hD' hS' => ?_)
    have hcA := zs_cA 3 C.2.2.2.2.2.2.2.2.1.1 hK' rfl
    subst hcA
    exact fin q H1 _ (ge q (by simp)) hP' hD' hS'
theorem ys_raq {x y c n : Nat} {x0 : Int} {C0 : String} (hd : decode (sC S mi) pc = .ok (.anewarray x, 3)) (hC : (c = 4 ∧ C0 = "ChairAlley$State") ∨ (c = 5 ∧ C0 = "ChairAlley$World")) (hao : C0 ∈ sAo S) (hw : (sW S)[y]? = some (.classLink (sY S mi).cls x C0)) (hx : x0 = (n : Int)) (hn : n ≤ 64) (hb1 : nc + 1 ≤ bc) (hb2 : ns + n ≤ bs) (hk : yW l S D cy Fk z d mi bc bs K (nc + 1) (ns + n) (pc + 3) lo (yr (some h.1) :: st) (yNw h c n)) : yW l S D cy Fk z d mi bc bs K nc ns pc lo (yi x0 :: st) h := by
  intro p e s m args below meth c0 C ad0 n0 ad hA hN hB H locs ls lv vs ws hR hP hD hS hl hlo hst
  subst hx
  obtain ⟨u, ut, rfl, ⟨i, rfl, hi⟩, hs2⟩ := hst
  have hi : i = nI n := by rw [← y32_to i, hi]; exact (by rw [← nI_toInt (n := n) (by omega)]; exact y32_to _)
  subst hi
  have hA0 : ∀ q, s.heap.size ≤ q → z ≤ q := fun q hq => Nat.le_trans C.2.2.2.2.2.2.2.2.2.1.1 hq
  have hneg : ¬ nI n < 0 := nI_pos (by omega)
  have hcl : (nI n).toNatClampNeg = n := nI_clamp (by omega)
  have ht : yTy (yNw h c n) h.1 = (c, n) := if_pos rfl
  have eR : ∀ j, yR (yNw h c n) h.1 j = none := fun j => if_pos rfl
  have fin : ∀ (q : Nat) (H1 : Heap), va_P D (sCl S) (ws ++ [(q, .inl (cy c, n, .inr (.inr (.inr (.inr (fun _ => none))))))]) H1 → va_D (fun q => z ≤ q) (ws ++ [(q, .inl (cy c, n, .inr (.inr (.inr (.inr (fun _ => none))))))]) → va_S (fun q => z ≤ q) s.heap H1 locs → W p l e (zRm d bc bs) s m args below meth c0 H1 locs (nc + 1) (ns + n) (vx_MQ below (yQ S D cy Fk z ad0 n0 K) (yXC S D cy Fk z mi ad0 n0 K) args s bc bs (fun q => z ≤ q)) (F0 m (pc + 3) ls (.ref q :: ut)) := by
    intro q H1 hP' hD' hS'
    refine hk p e s m args below meth c0 C ad0 n0 (yAd ad h.1 q) (fun k hkn => by rw [yAd_old k (by omega)]; exact hA k hkn) (Nat.le_trans hN (Nat.le_succ _)) ⟨hb1, hb2⟩ H1 locs ls lv _ _ (yRel_add hR ?_) hP' hD' hS' hl (yGl_up yAd_old (Nat.le_succ _) hlo) ⟨_, _, rfl, ⟨by show _ = Value.ref _; rw [yAd_new], fun k q => by cases q; exact Nat.lt_succ_self _⟩, yGs_up yAd_old (Nat.le_succ _) hs2⟩
    unfold yGc
    rw [ht]
    refine ⟨fun w => ?_, fun w => ?_, fun _ => ⟨fun _ => none, rfl, fun j hj => ?_⟩, fun c' w => ?_, fun n' w => absurd (congrArg Prod.fst w) (by show ¬ (c = 3); rcases hC with q | q <;> omega)⟩
    · exfalso; simp at w; omega
    · exfalso; simp at w; omega
    · rw [eR]; exact ⟨rfl, fun k w => by cases w⟩
    · exfalso; simp at w; omega
  refine va_newq C.1 C.2.1 C.2.2.2.2.1 (zs_word C.2.2.2.2.2.1 hw) (C.2.2.2.2.2.2.2.2.1.2.2 _ hao) C.2.2.2.2.2.2.2.2.1.1 hP hD hS hA0 hneg hcl (by omega) hb1 hb2 hd (fun q cA H1 hK' hP' hD' hS' => ?_)
  rcases hC with ⟨rfl, rfl⟩ | ⟨rfl, rfl⟩
  · have hcA := zs_cA 4 C.2.2.2.2.2.2.2.2.1.1 hK' rfl
    subst hcA
    exact fin q H1 hP' hD' hS'
  · have hcA := zs_cA 5 C.2.2.2.2.2.2.2.2.1.1 hK' rfl
    subst hcA
    exact fin q H1 hP' hD' hS'
theorem ys_obj (hnt : zNt S) {x q : Nat} {r : Option Nat} (hd : decode (sC S mi) pc = .ok (.invokespecial x, 3)) (hw : Jvm.Cond.methodLink (sY S mi).cls x Lib.objectInit ∈ sW S) (hr : r = some q) (hd0 : 0 < d) (hc1 : yCat st ≤ 8) (hk : yW l S D cy Fk z d mi bc bs K nc ns (pc + 3) lo st h) : yW l S D cy Fk z d mi bc bs K nc ns pc lo (yr r :: st) h := by
  intro p e s m args below meth c C ad0 n0 ad hA hN hB H locs ls lv vs ws hR hP hD hS hl hlo hst
  subst hr
  have wd : ∀ w ∈ sW S, w.before args s = true := fun w hw => C.2.2.2.2.2.1 w (List.mem_cons_of_mem _ hw)
  obtain ⟨v, vt, rfl, hv, hs2⟩ := hst
  have hv0 : v = .ref (ad q) := hv.1
  subst hv0
  have hcr : (vt.map fun v => v.category).sum ≤ 8 := by rw [yGs_cat hs2]; exact hc1
  refine W.objInit C.1 C.2.1 C.2.2.2.2.1 (wd _ hw) (wd _ hnt.1) (wd _ hnt.2.1) rfl (by rw [C.2.2.1]; exact hl.1) rfl hd (show 1 ≤ d by omega) ?_ ?_
  · show 2 * 0 + (vt.map fun v => v.category).sum + 12 ≤ 60 * d
    omega
  · exact hk p e s m args below meth c C ad0 n0 ad hA hN hB H locs ls lv _ ws hR hP hD hS hl hlo hs2
theorem ys_max (hnt : zNt S) {x : Nat} {a b : Int} (hd : decode (sC S mi) pc = .ok (.invokestatic x, 3)) (hw : Jvm.Cond.methodLink (sY S mi).cls x Lib.Math.max.name ∈ sW S) (hd0 : 0 < d) (hc1 : yCat st ≤ 8) (hk : yW l S D cy Fk z d mi bc bs K nc ns (pc + 3) lo (yi (ymax a b) :: st) h) : yW l S D cy Fk z d mi bc bs K nc ns pc lo (yi b :: yi a :: st) h := by
  intro p e s m args below meth c C ad0 n0 ad hA hN hB H locs ls lv vs ws hR hP hD hS hl hlo hst
  have wd : ∀ w ∈ sW S, w.before args s = true := fun w hw => C.2.2.2.2.2.1 w (List.mem_cons_of_mem _ hw)
  obtain ⟨v, vt, rfl, ⟨y, rfl, rfl⟩, hst⟩ := hst
  obtain ⟨v, vt, rfl, ⟨x0, rfl, rfl⟩, hs2⟩ := hst
  have hcr : (vt.map fun v => v.category).sum ≤ 8 := by rw [yGs_cat hs2]; exact hc1
  have hfr : 1 ≤ (zRm d bc bs).frames := show 1 ≤ d by omega
  have hml : c.maxLocals = ls.size := by rw [C.2.2.1]; exact hl.1.symm
  have kk := fun (r : Int32) (hr : r.toInt = ymax x0.toInt y.toInt) => hk p e s m args below meth c C ad0 n0 ad hA hN hB H locs ls lv (.int r :: vt) ws hR hP hD hS hl hlo ⟨_, _, rfl, ⟨_, rfl, hr⟩, hs2⟩
  refine va_mmax C.1 C.2.1 hml C.2.2.2.2.1 (wd _ hw) (wd _ hnt.2.2.2.2.2.2.1.1) (wd _ hnt.2.2.2.2.2.1) (wd _ hnt.2.2.2.2.2.2.1.2) hfr (show _ ≤ 60 * d by omega) hB.1 hB.2 hd (kk _ ?_)
  unfold ymax
  simp only [Int32.lt_iff_toInt_lt]
  split <;> split <;> first | rfl | omega
theorem ys_min (hnt : zNt S) {x : Nat} {a b : Int} (hd : decode (sC S mi) pc = .ok (.invokestatic x, 3)) (hw : Jvm.Cond.methodLink (sY S mi).cls x Lib.Math.min.name ∈ sW S) (hd0 : 0 < d) (hc1 : yCat st ≤ 8) (hk : yW l S D cy Fk z d mi bc bs K nc ns (pc + 3) lo (yi (ymin a b) :: st) h) : yW l S D cy Fk z d mi bc bs K nc ns pc lo (yi b :: yi a :: st) h := by
  intro p e s m args below meth c C ad0 n0 ad hA hN hB H locs ls lv vs ws hR hP hD hS hl hlo hst
  have wd : ∀ w ∈ sW S, w.before args s = true := fun w hw => C.2.2.2.2.2.1 w (List.mem_cons_of_mem _ hw)
  obtain ⟨v, vt, rfl, ⟨y, rfl, rfl⟩, hst⟩ := hst
  obtain ⟨v, vt, rfl, ⟨x0, rfl, rfl⟩, hs2⟩ := hst
  have hcr : (vt.map fun v => v.category).sum ≤ 8 := by rw [yGs_cat hs2]; exact hc1
  have hfr : 1 ≤ (zRm d bc bs).frames := show 1 ≤ d by omega
  have hml : c.maxLocals = ls.size := by rw [C.2.2.1]; exact hl.1.symm
  have kk := fun (r : Int32) (hr : r.toInt = ymin x0.toInt y.toInt) => hk p e s m args below meth c C ad0 n0 ad hA hN hB H locs ls lv (.int r :: vt) ws hR hP hD hS hl hlo ⟨_, _, rfl, ⟨_, rfl, hr⟩, hs2⟩
  refine va_mmin C.1 C.2.1 hml C.2.2.2.2.1 (wd _ hw) (wd _ hnt.2.2.2.2.2.2.2.1) (wd _ hnt.2.2.2.2.2.1) (wd _ hnt.2.2.2.2.2.2.2.2) hfr (show _ ≤ 60 * d by omega) hB.1 hB.2 hd (kk _ ?_)
  unfold ymin
  simp only [Int32.lt_iff_toInt_lt]
  split <;> rfl
theorem ys_cpy (hnt : zNt S) {x q q1 n : Nat} {n0 z1 z2 : Int} {r r1 : Option Nat} (hd : decode (sC S mi) pc = .ok (.invokestatic x, 3)) (hw : Jvm.Cond.methodLink (sY S mi).cls x arraycopyName ∈ sW S) (hr : r = some q) (hr1 : r1 = some q1) (ht : yTy h q = (1, n)) (ht1 : yTy h q1 = (1, n)) (hn : n0 = (n : Int)) (hz1 : z1 = 0) (hz2 : z2 = 0) (hn6 : n ≤ 65536) (hd0 : 0 < d) (hc1 : yCat st ≤ 8) (hk : yW l S D cy Fk z d mi bc bs K nc ns (pc + 3) lo st (yCpy h q1 q n)) : yW l S D cy Fk z d mi bc bs K nc ns pc lo (yi n0 :: yi z1 :: yr r :: yi z2 :: yr r1 :: st) h := by
  intro p e s m args below meth c C ad0 n00 ad hA hN hB H locs ls lv vs ws hR hP hD hS hl hlo hst
  subst hr hr1 hn hz1 hz2
  have wd : ∀ w ∈ sW S, w.before args s = true := fun w hw => C.2.2.2.2.2.1 w (List.mem_cons_of_mem _ hw)
  obtain ⟨v1, t1, rfl, ⟨i1, rfl, j1⟩, v2, t2, rfl, ⟨i2, rfl, j2⟩, v3, t3, rfl, g3, v4, t4, rfl, ⟨i4, rfl, j4⟩, v5, vt, rfl, g5, hs2⟩ := hst
  have g3' : v3 = .ref (ad q) := g3.1
  have g5' : v5 = .ref (ad q1) := g5.1
  subst g3' g5'
  have hq := g3.2 q rfl
  have e1 : i1 = nI n := by rw [← y32_to i1, j1]; exact (by rw [← nI_toInt (n := n) (by omega)]; exact y32_to _)
  have e2 : i2 = nI 0 := by rw [← y32_to i2, j2]; rfl
  have e4 : i4 = nI 0 := by rw [← y32_to i4, j4]; rfl
  subst e1 e2 e4
  obtain ⟨ee1, he1, hg1⟩ := hR.2.2 q1 (g5.2 q1 rfl)
  obtain ⟨ee2, he2, hg2⟩ := hR.2.2 q hq
  obtain ⟨f, rfl, hf⟩ := hg1.1 (by rw [ht1]; simp)
  obtain ⟨g, rfl, hg⟩ := hg2.1 (by rw [ht]; simp)
  rw [ht1] at he1 hf
  rw [ht] at he2 hg
  have hcr : (vt.map fun v => v.category).sum ≤ 8 := by rw [yGs_cat hs2]; exact hc1
  have hcl : (nI n).toNatClampNeg = n := nI_clamp (by omega)
  have hcl0 : (nI 0).toNatClampNeg = 0 := nI_clamp (by omega)
  refine va_copyi C.1 C.2.1 (by rw [C.2.2.1]; exact hl.1.symm) C.2.2.2.2.1 (wd _ hw) (wd _ hnt.2.2.1) (wd _ hnt.2.2.2.1) (wd _ hnt.2.2.2.2.1) C.2.2.2.2.2.2.2.2.1.1 hP hD hS q1 q 1 1 he1 he2 rfl rfl rfl (nI_pos (by omega)) (nI_pos (by omega)) (nI_pos (by omega)) (by rw [hcl, hcl0]; omega) (by rw [hcl, hcl0]; omega) (fun i _ => rfl) (show 1 ≤ d by omega) ?_ hd (fun H1 locs1 hP' hD' hS' => ?_)
  · show _ + (nativeFrameWords "java/lang/System" "arraycopy" 5 + 11) ≤ 60 * d
    have : nativeFrameWords "java/lang/System" "arraycopy" 5 = 7 := by decide
    omega
  · rw [hcl, hcl0] at hP' hD'
    refine hk p e s m args below meth c C ad0 n00 ad hA hN hB H1 locs1 ls lv _ _ ?_ hP' hD' hS' hl hlo hs2
    refine yRel_set hR hq rfl rfl (fun k' hk' b => ⟨rfl, if_neg (fun w => hk' w.1)⟩) ?_
    unfold yGc
    have ht' : yTy (yCpy h q1 q n) q = (1, n) := ht
    rw [ht']
    refine ⟨fun _ => ⟨_, rfl, fun j hj => ?_⟩, fun w => ?_, fun w => ?_, fun c' w => ?_, fun n' w => absurd (congrArg Prod.fst w) (by show ¬ (1 = 3); decide)⟩
    · have e : yI (yCpy h q1 q n) q j = yI h q1 j := if_pos ⟨rfl, hj⟩
      rw [e, pk_cpy_in (Nat.zero_le _) (by omega), Nat.zero_add, Nat.sub_zero]; exact hf j hj
    · exfalso; simp at w
    · exfalso; simp at w
    · exfalso; simp at w; omega
/-- what lies in rows of Booleans is 0 or 1 -/
theorem ys_bl (hk : (∀ k n j, k < h.1 → yTy h k = (3, n) → j < n → yI h k j = 0 ∨ yI h k j = 1) → yW l S D cy Fk z d mi bc bs K nc ns pc lo st h) : yW l S D cy Fk z d mi bc bs K nc ns pc lo st h := by
  intro p e s m args below meth c C ad0 n0 ad hA hN hB H locs ls lv vs ws hR hP hD hS hl hlo hst
  exact hk (fun k n j hkn ht hj => by obtain ⟨ee, _, hge⟩ := hR.2.2 k hkn; exact hge.2.2.2.2 n ht j hj) p e s m args below meth c C ad0 n0 ad hA hN hB H locs ls lv vs ws hR hP hD hS hl hlo hst
end Sy
