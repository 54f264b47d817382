/-! THE ABSTRACT MACHINE IS SOUND: where it answers true, the machine comes to an end that the question takes -/
/-- what is known of the program: classes, names, codes, locals, results of the methods, words, nest links, classes that arrays are made over -/
abbrev zS : Type := List vw_C × (Nat → MethodName) × (Nat → ByteArray) × (Nat → Nat) × (Nat → Option FieldType) × List Jvm.Cond × List (String × Nat × MethodName × String) × List String
abbrev sCl (S : zS) : List vw_C := S.1
abbrev sY (S : zS) : Nat → MethodName := S.2.1
abbrev sC (S : zS) : Nat → ByteArray := S.2.2.1
abbrev sM (S : zS) : Nat → Nat := S.2.2.2.1
abbrev sR (S : zS) : Nat → Option FieldType := S.2.2.2.2.1
abbrev sW (S : zS) : List Jvm.Cond := S.2.2.2.2.2.1
abbrev sNw (S : zS) : List (String × Nat × MethodName × String) := S.2.2.2.2.2.2.1
abbrev sAo (S : zS) : List String := S.2.2.2.2.2.2.2
def zTys (cy : Nat → ClassId) : List (ClassId × FieldType) := [(cy 0, .byte), (cy 1, .int), (cy 2, .long), (cy 3, .boolean), (cy 4, .object "ChairAlley$State"), (cy 5, .object "ChairAlley$World")]
def wsO (S : zS) (mi : Nat) : List Jvm.Cond := Jvm.Cond.code (sY S mi) (sC S mi) (sM S mi) (sR S mi) :: sW S
def zStat (S : zS) (D : va_G) (cy : Nat → ClassId) (s : State) : Prop := va_K D (sCl S) (zTys cy) s ∧ (∀ q ∈ sNw S, va_Nw (.methodLinkNest q.1 q.2.1 q.2.2.1 q.2.2.2) s) ∧ ∀ C ∈ sAo S, va_AO C s
def zCtx (S : zS) (D : va_G) (cy : Nat → ClassId) (z mi : Nat) (p : Program) (s : State) (m : MethodId) (args : Array Value) (meth : Method) (c : Code) : Prop :=
  p.tables.exec = Jvm.exec ∧ c.code = sC S mi ∧ c.maxLocals = sM S mi ∧ meth.sig.returnType = sR S mi ∧ s.vm.findClass (sY S mi).cls = some m.cls ∧ (∀ w ∈ wsO S mi, w.before args s = true) ∧ meth.locks = false ∧ meth.name = (sY S mi).name ∧ zStat S D cy s ∧ z ≤ s.heap.size
def zRm (d bc bs : Nat) : Room := { frames := d, cells := bc, slots := bs, locals := 60 * d }
def zGo (ad : Nat → Nat) (bn : Nat) (r : Option zV) (v : Option Value) : Prop := match r, v with
  | none, none => True
  | some a, some x => zG ad bn a x
  | _, _ => False
def zQ (S : zS) (D : va_G) (cy : Nat → ClassId) (z : Nat) (ad0 : Nat → Nat) (n0 : Nat) (K : zKo) : Array Value → State → Outcome → State → Prop := fun _ st oc t =>
  ∃ (r : Option zV) (h : zHp) (v : Option Value) (ad : Nat → Nat) (ws : va_W), K r h = true ∧ oc = .returned v ∧ zGo ad h.1 r v ∧ (∀ k, k < n0 → ad k = ad0 k) ∧ n0 ≤ h.1 ∧ zR ad cy h ws ∧ va_P D (sCl S) ws t.heap ∧ va_D (fun q => z ≤ q) ws ∧ va_F (fun q => z ≤ q) st t
/-- a state of the abstract machine in a frame: the machine goes on from what it stands for -/
def zW (l : Launch) (S : zS) (D : va_G) (cy : Nat → ClassId) (z : Nat) (d mi bc bs nc ns pc : Nat) (lo : zL) (st : List zV) (h : zHp) (K : zKo) : Prop :=
  ∀ (p : Program) (e : Env) (s : State) (m : MethodId) (args : Array Value) (below : List Frame) (meth : Method) (c : Code), zCtx S D cy z mi p s m args meth c →
    ∀ (ad0 : Nat → Nat) (n0 : Nat) (ad : Nat → Nat), (∀ k, k < n0 → ad k = ad0 k) → n0 ≤ h.1 → nc ≤ bc ∧ ns ≤ bs →
    ∀ (H : Heap) (locs : List Loc) (ls : Array Slot) (lv : List (Nat × Value)) (vs : List Value) (ws : va_W), zR ad cy h ws → va_P D (sCl S) ws H → va_D (fun q => z ≤ q) ws → va_S (fun q => z ≤ q) s.heap H locs → lv_has ls (sM S mi) lv → zGl ad h.1 lo lv → zGs ad h.1 st vs →
      W p l e (zRm d bc bs) s m args below meth c H locs nc ns (MQ below (zQ S D cy z ad0 n0 K) args s bc bs (fun q => z ≤ q)) (F0 m pc ls vs)
def zOK (l : Launch) (S : zS) (D : va_G) (cy : Nat → ClassId) (z : Nat) (G : zG0) (ih : zHo) : Prop :=
  ∀ (d mi : Nat) (tb : zT) (bc bs nc ns pc : Nat) (lo : zL) (st : List zV) (h : zHp) (K : zKo), ih (d, mi, tb, bc, bs) nc ns pc lo st h K = true → (∃ an mc ms, zN G.1 mi = some (an, mc, ms, tb)) → zW l S D cy z d mi bc bs nc ns pc lo st h K
section Sn
variable {l : Launch} {S : zS} {D : va_G} {cy : Nat → ClassId} {z : Nat} {G : zG0} {ih : zHo} {d mi : Nat} {tb : zT} {bc bs nc ns pc ea eb ec en : Nat} {lo : zL} {st : List zV} {h : zHp} {K : zKo}
theorem zs_iconst (hi : zOK l S D cy z G ih) (ht : ∃ an mc ms, zN G.1 mi = some (an, mc, ms, tb)) {n : Int} (hd : decode (sC S mi) pc = .ok (.iconst n, 1)) (hv : Int32.ofInt n = nI ea) (hn : en = pc + 1) (hk : zo_c ih (d, mi, tb, bc, bs) nc ns ea eb ec en lo st h K = true) : zW l S D cy z d mi bc bs nc ns pc lo st h K := by
  intro p e s m args below meth c C ad0 n0 ad hA hN hB H locs ls lv vs ws hR hP hD hS hl hlo hst
  subst hn
  exact lv_iconst C.1 C.2.1 hd hv (hi _ _ _ _ _ _ _ _ _ _ _ _ hk ht p e s m args below meth c C ad0 n0 ad hA hN hB H locs ls lv _ ws hR hP hD hS hl hlo ⟨_, _, rfl, rfl, hst⟩)
theorem zs_bipush (hi : zOK l S D cy z G ih) (ht : ∃ an mc ms, zN G.1 mi = some (an, mc, ms, tb)) {n : Int} (hd : decode (sC S mi) pc = .ok (.bipush n, 2)) (hv : (Int8.ofInt n).toInt32 = nI ea) (hn : en = pc + 2) (hk : zo_c ih (d, mi, tb, bc, bs) nc ns ea eb ec en lo st h K = true) : zW l S D cy z d mi bc bs nc ns pc lo st h K := by
  intro p e s m args below meth c C ad0 n0 ad hA hN hB H locs ls lv vs ws hR hP hD hS hl hlo hst
  subst hn
  exact lv_bipush C.1 C.2.1 hd hv (hi _ _ _ _ _ _ _ _ _ _ _ _ hk ht p e s m args below meth c C ad0 n0 ad hA hN hB H locs ls lv _ ws hR hP hD hS hl hlo ⟨_, _, rfl, rfl, hst⟩)
theorem zs_sipush (hi : zOK l S D cy z G ih) (ht : ∃ an mc ms, zN G.1 mi = some (an, mc, ms, tb)) {n : Int} (hd : decode (sC S mi) pc = .ok (.sipush n, 3)) (hv : (Int16.ofInt n).toInt32 = nI ea) (hn : en = pc + 3) (hk : zo_c ih (d, mi, tb, bc, bs) nc ns ea eb ec en lo st h K = true) : zW l S D cy z d mi bc bs nc ns pc lo st h K := by
  intro p e s m args below meth c C ad0 n0 ad hA hN hB H locs ls lv vs ws hR hP hD hS hl hlo hst
  subst hn
  exact lv_sipush C.1 C.2.1 hd hv (hi _ _ _ _ _ _ _ _ _ _ _ _ hk ht p e s m args below meth c C ad0 n0 ad hA hN hB H locs ls lv _ ws hR hP hD hS hl hlo ⟨_, _, rfl, rfl, hst⟩)
theorem zs_word {mi : Nat} {args : Array Value} {s : State} (hts : ∀ w ∈ wsO S mi, w.before args s = true) {i : Nat} {w : Jvm.Cond} (hw : (sW S)[i]? = some w) : w.before args s = true := hts w (List.mem_cons_of_mem _ (List.mem_of_getElem? hw))
theorem zs_ldc (hi : zOK l S D cy z G ih) (ht : ∃ an mc ms, zN G.1 mi = some (an, mc, ms, tb)) {x y : Nat} (hd : decode (sC S mi) pc = .ok (.ldc x, 2)) (hw : (sW S)[y]? = some (.constant (sY S mi).cls x (nI ea))) (hn : en = pc + 2) (hk : zo_c ih (d, mi, tb, bc, bs) nc ns ea eb ec en lo st h K = true) : zW l S D cy z d mi bc bs nc ns pc lo st h K := by
  intro p e s m args below meth c C ad0 n0 ad hA hN hB H locs ls lv vs ws hR hP hD hS hl hlo hst
  subst hn
  exact lv_ldc C.1 C.2.1 C.2.2.2.2.1 (zs_word C.2.2.2.2.2.1 hw) hd (hi _ _ _ _ _ _ _ _ _ _ _ _ hk ht p e s m args below meth c C ad0 n0 ad hA hN hB H locs ls lv _ ws hR hP hD hS hl hlo ⟨_, _, rfl, rfl, hst⟩)
theorem zs_ldcw (hi : zOK l S D cy z G ih) (ht : ∃ an mc ms, zN G.1 mi = some (an, mc, ms, tb)) {x y : Nat} (hd : decode (sC S mi) pc = .ok (.ldc_w x, 3)) (hw : (sW S)[y]? = some (.constant (sY S mi).cls x (nI ea))) (hn : en = pc + 3) (hk : zo_c ih (d, mi, tb, bc, bs) nc ns ea eb ec en lo st h K = true) : zW l S D cy z d mi bc bs nc ns pc lo st h K := by
  intro p e s m args below meth c C ad0 n0 ad hA hN hB H locs ls lv vs ws hR hP hD hS hl hlo hst
  subst hn
  exact lv_ldcw C.1 C.2.1 C.2.2.2.2.1 (zs_word C.2.2.2.2.2.1 hw) hd (hi _ _ _ _ _ _ _ _ _ _ _ _ hk ht p e s m args below meth c C ad0 n0 ad hA hN hB H locs ls lv _ ws hR hP hD hS hl hlo ⟨_, _, rfl, rfl, hst⟩)
theorem zs_ldc2 (hi : zOK l S D cy z G ih) (ht : ∃ an mc ms, zN G.1 mi = some (an, mc, ms, tb)) {x y : Nat} {v : Int64} (hd : decode (sC S mi) pc = .ok (.ldc2_w x, 3)) (hw : (sW S)[y]? = some (.constantLong (sY S mi).cls x v)) (hn : en = pc + 3) (hk : zo_l ih (d, mi, tb, bc, bs) nc ns ea eb ec en lo st h K = true) : zW l S D cy z d mi bc bs nc ns pc lo st h K := by
  intro p e s m args below meth c C ad0 n0 ad hA hN hB H locs ls lv vs ws hR hP hD hS hl hlo hst
  subst hn
  exact lv_ldc2 C.1 C.2.1 C.2.2.2.2.1 (zs_word C.2.2.2.2.2.1 hw) hd (hi _ _ _ _ _ _ _ _ _ _ _ _ hk ht p e s m args below meth c C ad0 n0 ad hA hN hB H locs ls lv _ ws hR hP hD hS hl hlo ⟨_, _, rfl, ⟨v, rfl⟩, hst⟩)
theorem zs_ldi (hi : zOK l S D cy z G ih) (ht : ∃ an mc ms, zN G.1 mi = some (an, mc, ms, tb)) (hd : (∃ k : Fin 4, decode (sC S mi) pc = .ok (.iload_n k, 1) ∧ (k : Nat) = ea ∧ en = pc + 1) ∨ (decode (sC S mi) pc = .ok (.iload ea, 2) ∧ en = pc + 2)) (hk : zo_ldi ih (d, mi, tb, bc, bs) nc ns ea eb ec en lo st h K = true) : zW l S D cy z d mi bc bs nc ns pc lo st h K := by
  intro p e s m args below meth c C ad0 n0 ad hA hN hB H locs ls lv vs ws hR hP hD hS hl hlo hst
  simp only [zo_ldi] at hk
  cases hv : zLd lo ea with
  | none => rw [hv] at hk; cases hk
  | some a =>
    rw [hv] at hk
    obtain ⟨k, v, hkv, hg⟩ := zGl_at hlo hv
    cases hI : zIsI a with
    | false => simp only [hI, cond_false] at hk; cases hk
    | true =>
      simp only [hI, cond_true] at hk
      obtain ⟨x, rfl, -, -⟩ := zG_int hI hg
      have hat := lv_at hl k hkv
      rcases hd with ⟨k4, hd, hk4, rfl⟩ | ⟨hd, rfl⟩
      · exact lv_iload_n C.1 C.2.1 hd hk4 hat (hi _ _ _ _ _ _ _ _ _ _ _ _ hk ht p e s m args below meth c C ad0 n0 ad hA hN hB H locs ls lv _ ws hR hP hD hS hl hlo ⟨_, _, rfl, hg, hst⟩)
      · exact lv_iload C.1 C.2.1 hd hat (hi _ _ _ _ _ _ _ _ _ _ _ _ hk ht p e s m args below meth c C ad0 n0 ad hA hN hB H locs ls lv _ ws hR hP hD hS hl hlo ⟨_, _, rfl, hg, hst⟩)
theorem zs_lda (hi : zOK l S D cy z G ih) (ht : ∃ an mc ms, zN G.1 mi = some (an, mc, ms, tb)) (hd : (∃ k : Fin 4, decode (sC S mi) pc = .ok (.aload_n k, 1) ∧ (k : Nat) = ea ∧ en = pc + 1) ∨ (decode (sC S mi) pc = .ok (.aload ea, 2) ∧ en = pc + 2)) (hk : zo_lda ih (d, mi, tb, bc, bs) nc ns ea eb ec en lo st h K = true) : zW l S D cy z d mi bc bs nc ns pc lo st h K := by
  intro p e s m args below meth c C ad0 n0 ad hA hN hB H locs ls lv vs ws hR hP hD hS hl hlo hst
  simp only [zo_lda] at hk
  cases hv : zLd lo ea with
  | none => rw [hv] at hk; cases hk
  | some a =>
    rw [hv] at hk
    obtain ⟨k, v, hkv, hg⟩ := zGl_at hlo hv
    match a, hk, hg with
    | .inl _, hk, _ => cases hk
    | .inr (.inl _), hk, _ => cases hk
    | .inr (.inr (.inl _)), hk, _ => cases hk
    | .inr (.inr (.inr r)), hk, hg =>
      have hat := lv_at hl k hkv
      have hg0 : v = va_rf (r.map ad) := hg.1
      subst hg0
      have kk := hi _ _ _ _ _ _ _ _ _ _ _ _ hk ht p e s m args below meth c C ad0 n0 ad hA hN hB H locs ls lv (va_rf (r.map ad) :: vs) ws hR hP hD hS hl hlo ⟨_, _, rfl, hg, hst⟩
      cases r with
      | none =>
        rcases hd with ⟨k4, hd, hk4, rfl⟩ | ⟨hd, rfl⟩
        · exact lv_aload_nN C.1 C.2.1 hd hk4 hat kk
        · exact lv_aloadN C.1 C.2.1 hd hat kk
      | some q =>
        rcases hd with ⟨k4, hd, hk4, rfl⟩ | ⟨hd, rfl⟩
        · exact lv_aload_n C.1 C.2.1 hd hk4 hat kk
        · exact lv_aload C.1 C.2.1 hd hat kk
theorem zs_ldl (hi : zOK l S D cy z G ih) (ht : ∃ an mc ms, zN G.1 mi = some (an, mc, ms, tb)) (hd : (∃ k : Fin 4, decode (sC S mi) pc = .ok (.lload_n k, 1) ∧ (k : Nat) = ea ∧ en = pc + 1) ∨ (decode (sC S mi) pc = .ok (.lload ea, 2) ∧ en = pc + 2)) (hk : zo_ldl ih (d, mi, tb, bc, bs) nc ns ea eb ec en lo st h K = true) : zW l S D cy z d mi bc bs nc ns pc lo st h K := by
  intro p e s m args below meth c C ad0 n0 ad hA hN hB H locs ls lv vs ws hR hP hD hS hl hlo hst
  simp only [zo_ldl] at hk
  cases hv : zLd lo ea with
  | none => rw [hv] at hk; cases hk
  | some a =>
    rw [hv] at hk
    obtain ⟨k, v, hkv, hg⟩ := zGl_at hlo hv
    match a, hk, hg with
    | .inl _, hk, _ => cases hk
    | .inr (.inl _), hk, _ => cases hk
    | .inr (.inr (.inr _)), hk, _ => cases hk
    | .inr (.inr (.inl _)), hk, hg =>
      have hat := lv_at hl k hkv
      obtain ⟨x, rfl⟩ := hg
      rcases hd with ⟨k4, hd, hk4, rfl⟩ | ⟨hd, rfl⟩
      · exact lv_lload_n C.1 C.2.1 hd hk4 hat (hi _ _ _ _ _ _ _ _ _ _ _ _ hk ht p e s m args below meth c C ad0 n0 ad hA hN hB H locs ls lv _ ws hR hP hD hS hl hlo ⟨_, _, rfl, ⟨x, rfl⟩, hst⟩)
      · exact lv_lload C.1 C.2.1 hd hat (hi _ _ _ _ _ _ _ _ _ _ _ _ hk ht p e s m args below meth c C ad0 n0 ad hA hN hB H locs ls lv _ ws hR hP hD hS hl hlo ⟨_, _, rfl, ⟨x, rfl⟩, hst⟩)
theorem zs_sti (hi : zOK l S D cy z G ih) (ht : ∃ an mc ms, zN G.1 mi = some (an, mc, ms, tb)) (hd : (∃ k : Fin 4, decode (sC S mi) pc = .ok (.istore_n k, 1) ∧ (k : Nat) = ea ∧ en = pc + 1) ∨ (decode (sC S mi) pc = .ok (.istore ea, 2) ∧ en = pc + 2)) (hm : ea < sM S mi) (hk : zo_sti ih (d, mi, tb, bc, bs) nc ns ea eb ec en lo st h K = true) : zW l S D cy z d mi bc bs nc ns pc lo st h K := by
  intro p e s m args below meth c C ad0 n0 ad hA hN hB H locs ls lv vs ws hR hP hD hS hl hlo hst
  cases st with
  | nil => simp [zo_sti] at hk
  | cons a st' =>
    obtain ⟨v, vt, rfl, hg, hst⟩ := hst
    simp only [zo_sti] at hk
    cases hI : zIsI a with
    | false => simp only [hI, cond_false] at hk; cases hk
    | true =>
      simp only [hI, cond_true] at hk
      obtain ⟨x, rfl, -, -⟩ := zG_int hI hg
      obtain ⟨lo', hk, hlo'⟩ := zSt_to hk hlo hg
      rcases hd with ⟨k4, hd, hk4, rfl⟩ | ⟨hd, rfl⟩
      · exact lv_istore_n C.1 C.2.1 hd hk4 hl hm rfl (fun ls' hl' => hi _ _ _ _ _ _ _ _ _ _ _ _ hk ht p e s m args below meth c C ad0 n0 ad hA hN hB H locs ls' _ _ ws hR hP hD hS hl' hlo' hst)
      · exact lv_istore C.1 C.2.1 hd hl hm rfl (fun ls' hl' => hi _ _ _ _ _ _ _ _ _ _ _ _ hk ht p e s m args below meth c C ad0 n0 ad hA hN hB H locs ls' _ _ ws hR hP hD hS hl' hlo' hst)
theorem zs_sta (hi : zOK l S D cy z G ih) (ht : ∃ an mc ms, zN G.1 mi = some (an, mc, ms, tb)) (hd : (∃ k : Fin 4, decode (sC S mi) pc = .ok (.astore_n k, 1) ∧ (k : Nat) = ea ∧ en = pc + 1) ∨ (decode (sC S mi) pc = .ok (.astore ea, 2) ∧ en = pc + 2)) (hm : ea < sM S mi) (hk : zo_sta ih (d, mi, tb, bc, bs) nc ns ea eb ec en lo st h K = true) : zW l S D cy z d mi bc bs nc ns pc lo st h K := by
  intro p e s m args below meth c C ad0 n0 ad hA hN hB H locs ls lv vs ws hR hP hD hS hl hlo hst
  revert hst
  revert hk
  match st with
  | [] => intro hk _; simp [zo_sta] at hk
  | .inl _ :: _ => intro hk _; simp [zo_sta] at hk
  | .inr (.inl _) :: _ => intro hk _; simp [zo_sta] at hk
  | .inr (.inr (.inl _)) :: _ => intro hk _; simp [zo_sta] at hk
  | .inr (.inr (.inr r)) :: st' =>
    intro hk hst
    obtain ⟨v, vt, rfl, hg, hst⟩ := hst
    have hg0 : v = va_rf (r.map ad) := hg.1
    subst hg0
    simp only [zo_sta] at hk
    obtain ⟨lo', hk, hlo'⟩ := zSt_to hk hlo hg
    have kk := fun (ls' : Array Slot) hl' => hi _ _ _ _ _ _ _ _ _ _ _ _ hk ht p e s m args below meth c C ad0 n0 ad hA hN hB H locs ls' _ _ ws hR hP hD hS hl' hlo' hst
    cases r with
    | none =>
      rcases hd with ⟨k4, hd, hk4, rfl⟩ | ⟨hd, rfl⟩
      · exact lv_astore_nN C.1 C.2.1 hd hk4 hl hm rfl kk
      · exact lv_astoreN C.1 C.2.1 hd hl hm rfl kk
    | some q =>
      rcases hd with ⟨k4, hd, hk4, rfl⟩ | ⟨hd, rfl⟩
      · exact lv_astore_n C.1 C.2.1 hd hk4 hl hm rfl kk
      · exact lv_astore C.1 C.2.1 hd hl hm rfl kk
theorem zs_addc (c n : Nat) : nI ((c + n) % 4294967296) = nI c + nI n := by
  apply Int32.toBitVec_inj.mp
  apply BitVec.eq_of_toNat_eq
  rw [Int32.toBitVec_add, BitVec.toNat_add]
  show (Int32.ofNat _).toBitVec.toNat = ((Int32.ofNat _).toBitVec.toNat + (Int32.ofNat _).toBitVec.toNat) % 2 ^ 32
  simp only [Int32.toBitVec_ofNat', BitVec.toNat_ofNat]
  omega
theorem zs_inc (hi : zOK l S D cy z G ih) (ht : ∃ an mc ms, zN G.1 mi = some (an, mc, ms, tb)) {n : Int} (hd : decode (sC S mi) pc = .ok (.iinc ea n, 3)) (hv : Int32.ofInt n = nI eb) (hn : en = pc + 3) (hm : ea < sM S mi) (hk : zo_inc ih (d, mi, tb, bc, bs) nc ns ea eb ec en lo st h K = true) : zW l S D cy z d mi bc bs nc ns pc lo st h K := by
  intro p e s m args below meth c C ad0 n0 ad hA hN hB H locs ls lv vs ws hR hP hD hS hl hlo hst
  subst hn
  simp only [zo_inc] at hk
  cases hv0 : zLd lo ea with
  | none => rw [hv0] at hk; cases hk
  | some a =>
    rw [hv0] at hk
    obtain ⟨k, v, hkv, hg⟩ := zGl_at hlo hv0
    match a, hk, hg with
    | .inr (.inr (.inl _)), hk, _ => cases hk
    | .inr (.inr (.inr _)), hk, _ => cases hk
    | .inl c0, hk, hg =>
      have hg0 : v = .int (nI c0) := hg
      subst hg0
      simp only [zF_eq] at hk
      obtain ⟨lo', hk, hlo'⟩ := zSt_to (w := .int (nI c0 + nI eb)) hk hlo (by show _ = _; rw [zs_addc])
      exact lv_iinc C.1 C.2.1 hd hl hkv (by rw [hv]) hm rfl (fun ls' hl' => hi _ _ _ _ _ _ _ _ _ _ _ _ hk ht p e s m args below meth c C ad0 n0 ad hA hN hB H locs ls' _ _ ws hR hP hD hS hl' hlo' hst)
    | .inr (.inl r), hk, hg =>
      obtain ⟨x, rfl, -, -⟩ := hg
      obtain ⟨lo', hk, hlo'⟩ := zSt_to (w := .int (x + Int32.ofInt n)) hk hlo (zG_any _)
      exact lv_iinc C.1 C.2.1 hd hl hkv rfl hm rfl (fun ls' hl' => hi _ _ _ _ _ _ _ _ _ _ _ _ hk ht p e s m args below meth c C ad0 n0 ad hA hN hB H locs ls' _ _ ws hR hP hD hS hl' hlo' hst)
end Sn
