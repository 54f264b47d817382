/-! THE EXACT MACHINE, 2: what a state of it says of the machine, and the rules of the plain instructions. -/
def yGo (ad : Nat → Nat) (bn : Nat) (r : Option yV) (v : Option Value) : Prop := match r, v with
  | none, none => True
  | some a, some x => yG ad bn a x
  | _, _ => False
def yQ (S : zS) (D : va_G) (cy : Nat → ClassId) (Fk : Nat → Nat → Nat) (z : Nat) (ad0 : Nat → Nat) (n0 : Nat) (K : yKo) : Array Value → State → Outcome → State → Prop := fun _ st oc t =>
  ∃ (r : Option yV) (h : yHp) (v : Option Value) (ad : Nat → Nat) (ws : va_W), (K r h ∧ ∀ q, r ≠ some (yr q)) ∧ oc = .returned v ∧ yGo ad h.1 r v ∧ (∀ k, k < n0 → ad k = ad0 k) ∧ n0 ≤ h.1 ∧ yRel ad cy Fk h ws ∧ va_P D (sCl S) ws t.heap ∧ va_D (fun q => z ≤ q) ws ∧ va_F (fun q => z ≤ q) st t
/-- a throw (NoSuchElementException), of a method that may throw: K says it of the answer 'null' -/
def yXC (S : zS) (D : va_G) (cy : Nat → ClassId) (Fk : Nat → Nat → Nat) (z mi : Nat) (ad0 : Nat → Nat) (n0 : Nat) (K : yKo) : String → State → State → Prop :=
  vx_X (fun _ : Unit => True) (fun E _ t => E = xE ∧ zThr mi = true ∧ ∃ (h : yHp) (ad : Nat → Nat) (ws : va_W), K (some (yr none)) h ∧ (∀ k, k < n0 → ad k = ad0 k) ∧ n0 ≤ h.1 ∧ yRel ad cy Fk h ws ∧ va_P D (sCl S) ws t.heap ∧ va_D (fun q => z ≤ q) ws) (fun q => z ≤ q)
/-- a state in a frame: the machine goes on from what it stands for, and comes to K -/
def yW (l : Launch) (S : zS) (D : va_G) (cy : Nat → ClassId) (Fk : Nat → Nat → Nat) (z : Nat) (d mi bc bs : Nat) (K : yKo) (nc ns pc : Nat) (lo : yL) (st : List yV) (h : yHp) : Prop :=
  ∀ (p : Program) (e : Env) (s : State) (m : MethodId) (args : Array Value) (below : List Frame) (meth : Method) (c : Code), zCtx S D cy z mi p s m args meth c →
    ∀ (ad0 : Nat → Nat) (n0 : Nat) (ad : Nat → Nat), (∀ k, k < n0 → ad k = ad0 k) → n0 ≤ h.1 → nc ≤ bc ∧ ns ≤ bs →
    ∀ (H : Heap) (locs : List Loc) (ls : Array Slot) (lv : List (Nat × Value)) (vs : List Value) (ws : va_W), yRel ad cy Fk h ws → va_P D (sCl S) ws H → va_D (fun q => z ≤ q) ws → va_S (fun q => z ≤ q) s.heap H locs → lv_has ls (sM S mi) lv → yGl ad h.1 lo lv → yGs ad h.1 st vs →
      W p l e (zRm d bc bs) s m args below meth c H locs nc ns (vx_MQ below (yQ S D cy Fk z ad0 n0 K) (yXC S D cy Fk z mi ad0 n0 K) args s bc bs (fun q => z ≤ q)) (F0 m pc ls vs)
section Sy
variable {l : Launch} {S : zS} {D : va_G} {cy : Nat → ClassId} {Fk : Nat → Nat → Nat} {z : Nat} {d mi bc bs nc ns pc : Nat} {lo : yL} {st : List yV} {h : yHp} {K : yKo}
theorem ys_iconst {n : Int} {a : Nat} (hd : decode (sC S mi) pc = .ok (.iconst n, 1)) (hv : Int32.ofInt n = nI a) (hk : yW l S D cy Fk z d mi bc bs K nc ns (pc + 1) lo (yi (nI a).toInt :: st) h) : yW l S D cy Fk z d mi bc bs K nc ns pc lo st h := by
  intro p e s m args below meth c C ad0 n0 ad hA hN hB H locs ls lv vs ws hR hP hD hS hl hlo hst
  exact lv_iconst C.1 C.2.1 hd hv (hk p e s m args below meth c C ad0 n0 ad hA hN hB H locs ls lv _ ws hR hP hD hS hl hlo ⟨_, _, rfl, ⟨_, rfl, rfl⟩, hst⟩)
theorem ys_bipush {n : Int} {a : Nat} (hd : decode (sC S mi) pc = .ok (.bipush n, 2)) (hv : (Int8.ofInt n).toInt32 = nI a) (hk : yW l S D cy Fk z d mi bc bs K nc ns (pc + 2) lo (yi (nI a).toInt :: st) h) : yW l S D cy Fk z d mi bc bs K nc ns pc lo st h := by
  intro p e s m args below meth c C ad0 n0 ad hA hN hB H locs ls lv vs ws hR hP hD hS hl hlo hst
  exact lv_bipush C.1 C.2.1 hd hv (hk p e s m args below meth c C ad0 n0 ad hA hN hB H locs ls lv _ ws hR hP hD hS hl hlo ⟨_, _, rfl, ⟨_, rfl, rfl⟩, hst⟩)
theorem ys_sipush {n : Int} {a : Nat} (hd : decode (sC S mi) pc = .ok (.sipush n, 3)) (hv : (Int16.ofInt n).toInt32 = nI a) (hk : yW l S D cy Fk z d mi bc bs K nc ns (pc + 3) lo (yi (nI a).toInt :: st) h) : yW l S D cy Fk z d mi bc bs K nc ns pc lo st h := by
  intro p e s m args below meth c C ad0 n0 ad hA hN hB H locs ls lv vs ws hR hP hD hS hl hlo hst
  exact lv_sipush C.1 C.2.1 hd hv (hk p e s m args below meth c C ad0 n0 ad hA hN hB H locs ls lv _ ws hR hP hD hS hl hlo ⟨_, _, rfl, ⟨_, rfl, rfl⟩, hst⟩)
theorem ys_ldc {x y a : Nat} (hd : decode (sC S mi) pc = .ok (.ldc x, 2)) (hw : (sW S)[y]? = some (.constant (sY S mi).cls x (nI a))) (hk : yW l S D cy Fk z d mi bc bs K nc ns (pc + 2) lo (yi (nI a).toInt :: st) h) : yW l S D cy Fk z d mi bc bs K nc ns pc lo st h := by
  intro p e s m args below meth c C ad0 n0 ad hA hN hB H locs ls lv vs ws hR hP hD hS hl hlo hst
  exact lv_ldc C.1 C.2.1 C.2.2.2.2.1 (zs_word C.2.2.2.2.2.1 hw) hd (hk p e s m args below meth c C ad0 n0 ad hA hN hB H locs ls lv _ ws hR hP hD hS hl hlo ⟨_, _, rfl, ⟨_, rfl, rfl⟩, hst⟩)
theorem ys_ldcw {x y a : Nat} (hd : decode (sC S mi) pc = .ok (.ldc_w x, 3)) (hw : (sW S)[y]? = some (.constant (sY S mi).cls x (nI a))) (hk : yW l S D cy Fk z d mi bc bs K nc ns (pc + 3) lo (yi (nI a).toInt :: st) h) : yW l S D cy Fk z d mi bc bs K nc ns pc lo st h := by
  intro p e s m args below meth c C ad0 n0 ad hA hN hB H locs ls lv vs ws hR hP hD hS hl hlo hst
  exact lv_ldcw C.1 C.2.1 C.2.2.2.2.1 (zs_word C.2.2.2.2.2.1 hw) hd (hk p e s m args below meth c C ad0 n0 ad hA hN hB H locs ls lv _ ws hR hP hD hS hl hlo ⟨_, _, rfl, ⟨_, rfl, rfl⟩, hst⟩)
theorem ys_ldc2 {x y : Nat} {v : Int64} (hd : decode (sC S mi) pc = .ok (.ldc2_w x, 3)) (hw : (sW S)[y]? = some (.constantLong (sY S mi).cls x v)) (hk : yW l S D cy Fk z d mi bc bs K nc ns (pc + 3) lo (yj v.toInt :: st) h) : yW l S D cy Fk z d mi bc bs K nc ns pc lo st h := by
  intro p e s m args below meth c C ad0 n0 ad hA hN hB H locs ls lv vs ws hR hP hD hS hl hlo hst
  exact lv_ldc2 C.1 C.2.1 C.2.2.2.2.1 (zs_word C.2.2.2.2.2.1 hw) hd (hk p e s m args below meth c C ad0 n0 ad hA hN hB H locs ls lv _ ws hR hP hD hS hl hlo ⟨_, _, rfl, ⟨_, rfl, rfl⟩, hst⟩)
theorem ys_lconst {n : Fin 2} {v : Int64} (hd : decode (sC S mi) pc = .ok (.lconst n, 1)) (hv : Int64.ofNat (n : Nat) = v) (hk : yW l S D cy Fk z d mi bc bs K nc ns (pc + 1) lo (yj v.toInt :: st) h) : yW l S D cy Fk z d mi bc bs K nc ns pc lo st h := by
  intro p e s m args below meth c C ad0 n0 ad hA hN hB H locs ls lv vs ws hR hP hD hS hl hlo hst
  exact lv_lconst C.1 C.2.1 hd hv (hk p e s m args below meth c C ad0 n0 ad hA hN hB H locs ls lv _ ws hR hP hD hS hl hlo ⟨_, _, rfl, ⟨_, rfl, rfl⟩, hst⟩)
theorem ys_iload {i en : Nat} {x : Int} (hd : (∃ k : Fin 4, decode (sC S mi) pc = .ok (.iload_n k, 1) ∧ (k : Nat) = i ∧ en = pc + 1) ∨ (decode (sC S mi) pc = .ok (.iload i, 2) ∧ en = pc + 2)) (hx : yLd lo i = some (yi x)) (hk : yW l S D cy Fk z d mi bc bs K nc ns en lo (yi x :: st) h) : yW l S D cy Fk z d mi bc bs K nc ns pc lo st h := by
  intro p e s m args below meth c C ad0 n0 ad hA hN hB H locs ls lv vs ws hR hP hD hS hl hlo hst
  obtain ⟨k, v, hkv, hg⟩ := yGl_at hlo hx
  have hg0 := hg
  obtain ⟨i0, rfl, _⟩ := hg0
  have hat := lv_at hl k hkv
  rcases hd with ⟨k4, hd, hk4, rfl⟩ | ⟨hd, rfl⟩
  · exact lv_iload_n C.1 C.2.1 hd hk4 hat (hk p e s m args below meth c C ad0 n0 ad hA hN hB H locs ls lv _ ws hR hP hD hS hl hlo ⟨_, _, rfl, hg, hst⟩)
  · exact lv_iload C.1 C.2.1 hd hat (hk p e s m args below meth c C ad0 n0 ad hA hN hB H locs ls lv _ ws hR hP hD hS hl hlo ⟨_, _, rfl, hg, hst⟩)
theorem ys_lload {i en : Nat} {x : Int} (hd : (∃ k : Fin 4, decode (sC S mi) pc = .ok (.lload_n k, 1) ∧ (k : Nat) = i ∧ en = pc + 1) ∨ (decode (sC S mi) pc = .ok (.lload i, 2) ∧ en = pc + 2)) (hx : yLd lo i = some (yj x)) (hk : yW l S D cy Fk z d mi bc bs K nc ns en lo (yj x :: st) h) : yW l S D cy Fk z d mi bc bs K nc ns pc lo st h := by
  intro p e s m args below meth c C ad0 n0 ad hA hN hB H locs ls lv vs ws hR hP hD hS hl hlo hst
  obtain ⟨k, v, hkv, hg⟩ := yGl_at hlo hx
  have hg0 := hg
  obtain ⟨i0, rfl, _⟩ := hg0
  have hat := lv_at hl k hkv
  rcases hd with ⟨k4, hd, hk4, rfl⟩ | ⟨hd, rfl⟩
  · exact lv_lload_n C.1 C.2.1 hd hk4 hat (hk p e s m args below meth c C ad0 n0 ad hA hN hB H locs ls lv _ ws hR hP hD hS hl hlo ⟨_, _, rfl, hg, hst⟩)
  · exact lv_lload C.1 C.2.1 hd hat (hk p e s m args below meth c C ad0 n0 ad hA hN hB H locs ls lv _ ws hR hP hD hS hl hlo ⟨_, _, rfl, hg, hst⟩)
theorem ys_aload {i en : Nat} {r : Option Nat} (hd : (∃ k : Fin 4, decode (sC S mi) pc = .ok (.aload_n k, 1) ∧ (k : Nat) = i ∧ en = pc + 1) ∨ (decode (sC S mi) pc = .ok (.aload i, 2) ∧ en = pc + 2)) (hx : yLd lo i = some (yr r)) (hk : yW l S D cy Fk z d mi bc bs K nc ns en lo (yr r :: st) h) : yW l S D cy Fk z d mi bc bs K nc ns pc lo st h := by
  intro p e s m args below meth c C ad0 n0 ad hA hN hB H locs ls lv vs ws hR hP hD hS hl hlo hst
  obtain ⟨k, v, hkv, hg⟩ := yGl_at hlo hx
  have hg0 : v = va_rf (r.map ad) := hg.1
  subst hg0
  have hat := lv_at hl k hkv
  cases r with
  | none =>
    rcases hd with ⟨k4, hd, hk4, rfl⟩ | ⟨hd, rfl⟩
    · exact lv_aload_nN C.1 C.2.1 hd hk4 hat (hk p e s m args below meth c C ad0 n0 ad hA hN hB H locs ls lv _ ws hR hP hD hS hl hlo ⟨_, _, rfl, hg, hst⟩)
    · exact lv_aloadN C.1 C.2.1 hd hat (hk p e s m args below meth c C ad0 n0 ad hA hN hB H locs ls lv _ ws hR hP hD hS hl hlo ⟨_, _, rfl, hg, hst⟩)
  | some q =>
    rcases hd with ⟨k4, hd, hk4, rfl⟩ | ⟨hd, rfl⟩
    · exact lv_aload_n C.1 C.2.1 hd hk4 hat (hk p e s m args below meth c C ad0 n0 ad hA hN hB H locs ls lv _ ws hR hP hD hS hl hlo ⟨_, _, rfl, hg, hst⟩)
    · exact lv_aload C.1 C.2.1 hd hat (hk p e s m args below meth c C ad0 n0 ad hA hN hB H locs ls lv _ ws hR hP hD hS hl hlo ⟨_, _, rfl, hg, hst⟩)
theorem ys_istore {i en : Nat} {x : Int} (hd : (∃ k : Fin 4, decode (sC S mi) pc = .ok (.istore_n k, 1) ∧ (k : Nat) = i ∧ en = pc + 1) ∨ (decode (sC S mi) pc = .ok (.istore i, 2) ∧ en = pc + 2)) (hm : i < sM S mi) (hk : yW l S D cy Fk z d mi bc bs K nc ns en (ySt i (yi x) lo) st h) : yW l S D cy Fk z d mi bc bs K nc ns pc lo (yi x :: st) h := by
  intro p e s m args below meth c C ad0 n0 ad hA hN hB H locs ls lv vs ws hR hP hD hS hl hlo hst
  obtain ⟨v, vt, rfl, hg, hst⟩ := hst
  have hg0 := hg
  obtain ⟨i0, rfl, _⟩ := hg0
  rcases hd with ⟨k4, hd, hk4, rfl⟩ | ⟨hd, rfl⟩
  · exact lv_istore_n C.1 C.2.1 hd hk4 hl hm rfl (fun ls' hl' => (hk p e s m args below meth c C ad0 n0 ad hA hN hB H locs ls' _ _ ws hR hP hD hS hl' (ySt_to hlo hg) hst))
  · exact lv_istore C.1 C.2.1 hd hl hm rfl (fun ls' hl' => (hk p e s m args below meth c C ad0 n0 ad hA hN hB H locs ls' _ _ ws hR hP hD hS hl' (ySt_to hlo hg) hst))
theorem ys_lstore {i en : Nat} {x : Int} (hd : (∃ k : Fin 4, decode (sC S mi) pc = .ok (.lstore_n k, 1) ∧ (k : Nat) = i ∧ en = pc + 1) ∨ (decode (sC S mi) pc = .ok (.lstore i, 2) ∧ en = pc + 2)) (hm : i + 1 < sM S mi) (hk : yW l S D cy Fk z d mi bc bs K nc ns en (ySt2 i (yj x) lo) st h) : yW l S D cy Fk z d mi bc bs K nc ns pc lo (yj x :: st) h := by
  intro p e s m args below meth c C ad0 n0 ad hA hN hB H locs ls lv vs ws hR hP hD hS hl hlo hst
  obtain ⟨v, vt, rfl, hg, hst⟩ := hst
  have hg0 := hg
  obtain ⟨i0, rfl, _⟩ := hg0
  rcases hd with ⟨k4, hd, hk4, rfl⟩ | ⟨hd, rfl⟩
  · exact lv_lstore_n C.1 C.2.1 hd hk4 hl hm rfl (fun ls' hl' => (hk p e s m args below meth c C ad0 n0 ad hA hN hB H locs ls' _ _ ws hR hP hD hS hl' (ySt2_to hlo hg) hst))
  · exact lv_lstore C.1 C.2.1 hd hl hm rfl (fun ls' hl' => (hk p e s m args below meth c C ad0 n0 ad hA hN hB H locs ls' _ _ ws hR hP hD hS hl' (ySt2_to hlo hg) hst))
theorem ys_astore {i en : Nat} {r : Option Nat} (hd : (∃ k : Fin 4, decode (sC S mi) pc = .ok (.astore_n k, 1) ∧ (k : Nat) = i ∧ en = pc + 1) ∨ (decode (sC S mi) pc = .ok (.astore i, 2) ∧ en = pc + 2)) (hm : i < sM S mi) (hk : yW l S D cy Fk z d mi bc bs K nc ns en (ySt i (yr r) lo) st h) : yW l S D cy Fk z d mi bc bs K nc ns pc lo (yr r :: st) h := by
  intro p e s m args below meth c C ad0 n0 ad hA hN hB H locs ls lv vs ws hR hP hD hS hl hlo hst
  obtain ⟨v, vt, rfl, hg, hst⟩ := hst
  have hg0 : v = va_rf (r.map ad) := hg.1
  subst hg0
  cases r with
  | none =>
    rcases hd with ⟨k4, hd, hk4, rfl⟩ | ⟨hd, rfl⟩
    · exact lv_astore_nN C.1 C.2.1 hd hk4 hl hm rfl (fun ls' hl' => (hk p e s m args below meth c C ad0 n0 ad hA hN hB H locs ls' _ _ ws hR hP hD hS hl' (ySt_to hlo hg) hst))
    · exact lv_astoreN C.1 C.2.1 hd hl hm rfl (fun ls' hl' => (hk p e s m args below meth c C ad0 n0 ad hA hN hB H locs ls' _ _ ws hR hP hD hS hl' (ySt_to hlo hg) hst))
  | some q =>
    rcases hd with ⟨k4, hd, hk4, rfl⟩ | ⟨hd, rfl⟩
    · exact lv_astore_n C.1 C.2.1 hd hk4 hl hm rfl (fun ls' hl' => (hk p e s m args below meth c C ad0 n0 ad hA hN hB H locs ls' _ _ ws hR hP hD hS hl' (ySt_to hlo hg) hst))
    · exact lv_astore C.1 C.2.1 hd hl hm rfl (fun ls' hl' => (hk p e s m args below meth c C ad0 n0 ad hA hN hB H locs ls' _ _ ws hR hP hD hS hl' (ySt_to hlo hg) hst))
theorem ys_iinc {i b : Nat} {n x : Int} (hd : decode (sC S mi) pc = .ok (.iinc i n, 3)) (hv : Int32.ofInt n = nI b) (hm : i < sM S mi) (hx : yLd lo i = some (yi x)) (hk : yW l S D cy Fk z d mi bc bs K nc ns (pc + 3) (ySt i (yi (yadd x (nI b).toInt)) lo) st h) : yW l S D cy Fk z d mi bc bs K nc ns pc lo st h := by
  intro p e s m args below meth c C ad0 n0 ad hA hN hB H locs ls lv vs ws hR hP hD hS hl hlo hst
  obtain ⟨k, v, hkv, hg⟩ := yGl_at hlo hx
  obtain ⟨i0, rfl, hx2⟩ := hg
  exact lv_iinc C.1 C.2.1 hd hl hkv rfl hm rfl (fun ls' hl' => (hk p e s m args below meth c C ad0 n0 ad hA hN hB H locs ls' _ _ ws hR hP hD hS hl' (ySt_to hlo ⟨_, rfl, by rw [← hx2, hv]; simp only [yadd, y32_to]⟩) hst))
theorem ys_iadd {x y : Int} (hd : decode (sC S mi) pc = .ok (.iadd, 1)) (hk : yW l S D cy Fk z d mi bc bs K nc ns (pc + 1) lo (yi (yadd x y) :: st) h) : yW l S D cy Fk z d mi bc bs K nc ns pc lo (yi y :: yi x :: st) h := by
  intro p e s m args below meth c C ad0 n0 ad hA hN hB H locs ls lv vs ws hR hP hD hS hl hlo hst
  obtain ⟨v, vt, rfl, ⟨b, rfl, rfl⟩, hst⟩ := hst
  obtain ⟨v, vt, rfl, ⟨a, rfl, rfl⟩, hst⟩ := hst
  exact lv_iadd C.1 C.2.1 hd (hk p e s m args below meth c C ad0 n0 ad hA hN hB H locs ls lv _ ws hR hP hD hS hl hlo ⟨_, _, rfl, ⟨_, rfl, by simp only [yadd, y32_to]⟩, hst⟩)
theorem ys_isub {x y : Int} (hd : decode (sC S mi) pc = .ok (.isub, 1)) (hk : yW l S D cy Fk z d mi bc bs K nc ns (pc + 1) lo (yi (ysub x y) :: st) h) : yW l S D cy Fk z d mi bc bs K nc ns pc lo (yi y :: yi x :: st) h := by
  intro p e s m args below meth c C ad0 n0 ad hA hN hB H locs ls lv vs ws hR hP hD hS hl hlo hst
  obtain ⟨v, vt, rfl, ⟨b, rfl, rfl⟩, hst⟩ := hst
  obtain ⟨v, vt, rfl, ⟨a, rfl, rfl⟩, hst⟩ := hst
  exact lv_isub C.1 C.2.1 hd (hk p e s m args below meth c C ad0 n0 ad hA hN hB H locs ls lv _ ws hR hP hD hS hl hlo ⟨_, _, rfl, ⟨_, rfl, by simp only [ysub, y32_to]⟩, hst⟩)
theorem ys_imul {x y : Int} (hd : decode (sC S mi) pc = .ok (.imul, 1)) (hk : yW l S D cy Fk z d mi bc bs K nc ns (pc + 1) lo (yi (ymul x y) :: st) h) : yW l S D cy Fk z d mi bc bs K nc ns pc lo (yi y :: yi x :: st) h := by
  intro p e s m args below meth c C ad0 n0 ad hA hN hB H locs ls lv vs ws hR hP hD hS hl hlo hst
  obtain ⟨v, vt, rfl, ⟨b, rfl, rfl⟩, hst⟩ := hst
  obtain ⟨v, vt, rfl, ⟨a, rfl, rfl⟩, hst⟩ := hst
  exact lv_imul C.1 C.2.1 hd (hk p e s m args below meth c C ad0 n0 ad hA hN hB H locs ls lv _ ws hR hP hD hS hl hlo ⟨_, _, rfl, ⟨_, rfl, by simp only [ymul, y32_to]⟩, hst⟩)
theorem ys_iand {x y : Int} (hd : decode (sC S mi) pc = .ok (.iand, 1)) (hk : yW l S D cy Fk z d mi bc bs K nc ns (pc + 1) lo (yi (yand x y) :: st) h) : yW l S D cy Fk z d mi bc bs K nc ns pc lo (yi y :: yi x :: st) h := by
  intro p e s m args below meth c C ad0 n0 ad hA hN hB H locs ls lv vs ws hR hP hD hS hl hlo hst
  obtain ⟨v, vt, rfl, ⟨b, rfl, rfl⟩, hst⟩ := hst
  obtain ⟨v, vt, rfl, ⟨a, rfl, rfl⟩, hst⟩ := hst
  exact lv_iand C.1 C.2.1 hd (hk p e s m args below meth c C ad0 n0 ad hA hN hB H locs ls lv _ ws hR hP hD hS hl hlo ⟨_, _, rfl, ⟨_, rfl, by simp only [yand, y32_to]⟩, hst⟩)
theorem ys_ior {x y : Int} (hd : decode (sC S mi) pc = .ok (.ior, 1)) (hk : yW l S D cy Fk z d mi bc bs K nc ns (pc + 1) lo (yi (yor x y) :: st) h) : yW l S D cy Fk z d mi bc bs K nc ns pc lo (yi y :: yi x :: st) h := by
  intro p e s m args below meth c C ad0 n0 ad hA hN hB H locs ls lv vs ws hR hP hD hS hl hlo hst
  obtain ⟨v, vt, rfl, ⟨b, rfl, rfl⟩, hst⟩ := hst
  obtain ⟨v, vt, rfl, ⟨a, rfl, rfl⟩, hst⟩ := hst
  exact lv_ior C.1 C.2.1 hd (hk p e s m args below meth c C ad0 n0 ad hA hN hB H locs ls lv _ ws hR hP hD hS hl hlo ⟨_, _, rfl, ⟨_, rfl, by simp only [yor, y32_to]⟩, hst⟩)
theorem ys_ixor {x y : Int} (hd : decode (sC S mi) pc = .ok (.ixor, 1)) (hk : yW l S D cy Fk z d mi bc bs K nc ns (pc + 1) lo (yi (yxor x y) :: st) h) : yW l S D cy Fk z d mi bc bs K nc ns pc lo (yi y :: yi x :: st) h := by
  intro p e s m args below meth c C ad0 n0 ad hA hN hB H locs ls lv vs ws hR hP hD hS hl hlo hst
  obtain ⟨v, vt, rfl, ⟨b, rfl, rfl⟩, hst⟩ := hst
  obtain ⟨v, vt, rfl, ⟨a, rfl, rfl⟩, hst⟩ := hst
  exact lv_ixor C.1 C.2.1 hd (hk p e s m args below meth c C ad0 n0 ad hA hN hB H locs ls lv _ ws hR hP hD hS hl hlo ⟨_, _, rfl, ⟨_, rfl, by simp only [yxor, y32_to]⟩, hst⟩)
theorem ys_idiv {x y : Int} (hd : decode (sC S mi) pc = .ok (.idiv, 1)) (hne : y ≠ 0) (hk : yW l S D cy Fk z d mi bc bs K nc ns (pc + 1) lo (yi (ydiv x y) :: st) h) : yW l S D cy Fk z d mi bc bs K nc ns pc lo (yi y :: yi x :: st) h := by
  intro p e s m args below meth c C ad0 n0 ad hA hN hB H locs ls lv vs ws hR hP hD hS hl hlo hst
  obtain ⟨v, vt, rfl, ⟨b, rfl, rfl⟩, hst⟩ := hst
  obtain ⟨v, vt, rfl, ⟨a, rfl, rfl⟩, hst⟩ := hst
  exact lv_idiv C.1 C.2.1 hd (fun q => hne (by rw [q]; rfl)) (hk p e s m args below meth c C ad0 n0 ad hA hN hB H locs ls lv _ ws hR hP hD hS hl hlo ⟨_, _, rfl, ⟨_, rfl, by simp only [ydiv, y32_to]⟩, hst⟩)
theorem ys_irem {x y : Int} (hd : decode (sC S mi) pc = .ok (.irem, 1)) (hne : y ≠ 0) (hk : yW l S D cy Fk z d mi bc bs K nc ns (pc + 1) lo (yi (yrem x y) :: st) h) : yW l S D cy Fk z d mi bc bs K nc ns pc lo (yi y :: yi x :: st) h := by
  intro p e s m args below meth c C ad0 n0 ad hA hN hB H locs ls lv vs ws hR hP hD hS hl hlo hst
  obtain ⟨v, vt, rfl, ⟨b, rfl, rfl⟩, hst⟩ := hst
  obtain ⟨v, vt, rfl, ⟨a, rfl, rfl⟩, hst⟩ := hst
  exact lv_irem C.1 C.2.1 hd (fun q => hne (by rw [q]; rfl)) (hk p e s m args below meth c C ad0 n0 ad hA hN hB H locs ls lv _ ws hR hP hD hS hl hlo ⟨_, _, rfl, ⟨_, rfl, by simp only [yrem, y32_to]⟩, hst⟩)
def yshl (x y : Int) : Int := (y32 x <<< (y32 y &&& 31)).toInt
def yshr (x y : Int) : Int := (y32 x >>> (y32 y &&& 31)).toInt
def yushr (x y : Int) : Int := ((y32 x).toUInt32 >>> ((y32 y).toUInt32 &&& Int32.toUInt32 31)).toInt32.toInt
def yi2b (x : Int) : Int := ((y32 x).toInt8).toInt32.toInt
def yi2l (x : Int) : Int := (y32 x).toInt64.toInt
def yladd (x y : Int) : Int := (y64 x + y64 y).toInt
def ylmul (x y : Int) : Int := (y64 x * y64 y).toInt
def yland (x y : Int) : Int := (y64 x &&& y64 y).toInt
def ylor (x y : Int) : Int := (y64 x ||| y64 y).toInt
def ylxor (x y : Int) : Int := (y64 x ^^^ y64 y).toInt
def ylshl (x y : Int) : Int := (y64 x <<< ((y32 y).toInt64 &&& 63)).toInt
def ylshr (x y : Int) : Int := (y64 x >>> ((y32 y).toInt64 &&& 63)).toInt
theorem ys_iushr {x y : Int} (hd : decode (sC S mi) pc = .ok (.iushr, 1)) (hk : yW l S D cy Fk z d mi bc bs K nc ns (pc + 1) lo (yi (yushr x y) :: st) h) : yW l S D cy Fk z d mi bc bs K nc ns pc lo (yi y :: yi x :: st) h := by
  intro p e s m args below meth c C ad0 n0 ad hA hN hB H locs ls lv vs ws hR hP hD hS hl hlo hst
  obtain ⟨v, vt, rfl, ⟨b, rfl, rfl⟩, hst⟩ := hst
  obtain ⟨v, vt, rfl, ⟨a, rfl, rfl⟩, hst⟩ := hst
  exact lv_iushr C.1 C.2.1 hd rfl (hk p e s m args below meth c C ad0 n0 ad hA hN hB H locs ls lv _ ws hR hP hD hS hl hlo ⟨_, _, rfl, ⟨_, rfl, by simp only [yushr, y32_to]⟩, hst⟩)
theorem ys_ladd {x y : Int} (hd : decode (sC S mi) pc = .ok (.ladd, 1)) (hk : yW l S D cy Fk z d mi bc bs K nc ns (pc + 1) lo (yj (yladd x y) :: st) h) : yW l S D cy Fk z d mi bc bs K nc ns pc lo (yj y :: yj x :: st) h := by
  intro p e s m args below meth c C ad0 n0 ad hA hN hB H locs ls lv vs ws hR hP hD hS hl hlo hst
  obtain ⟨v, vt, rfl, ⟨b, rfl, rfl⟩, hst⟩ := hst
  obtain ⟨v, vt, rfl, ⟨a, rfl, rfl⟩, hst⟩ := hst
  exact lv_ladd C.1 C.2.1 hd (hk p e s m args below meth c C ad0 n0 ad hA hN hB H locs ls lv _ ws hR hP hD hS hl hlo ⟨_, _, rfl, ⟨_, rfl, by simp only [yladd, y64_to]⟩, hst⟩)
theorem ys_lmul {x y : Int} (hd : decode (sC S mi) pc = .ok (.lmul, 1)) (hk : yW l S D cy Fk z d mi bc bs K nc ns (pc + 1) lo (yj (ylmul x y) :: st) h) : yW l S D cy Fk z d mi bc bs K nc ns pc lo (yj y :: yj x :: st) h := by
  intro p e s m args below meth c C ad0 n0 ad hA hN hB H locs ls lv vs ws hR hP hD hS hl hlo hst
  obtain ⟨v, vt, rfl, ⟨b, rfl, rfl⟩, hst⟩ := hst
  obtain ⟨v, vt, rfl, ⟨a, rfl, rfl⟩, hst⟩ := hst
  exact lv_lmul C.1 C.2.1 hd (hk p e s m args below meth c C ad0 n0 ad hA hN hB H locs ls lv _ ws hR hP hD hS hl hlo ⟨_, _, rfl, ⟨_, rfl, by simp only [ylmul, y64_to]⟩, hst⟩)
theorem ys_land {x y : Int} (hd : decode (sC S mi) pc = .ok (.land, 1)) (hk : yW l S D cy Fk z d mi bc bs K nc ns (pc + 1) lo (yj (yland x y) :: st) h) : yW l S D cy Fk z d mi bc bs K nc ns pc lo (yj y :: yj x :: st) h := by
  intro p e s m args below meth c C ad0 n0 ad hA hN hB H locs ls lv vs ws hR hP hD hS hl hlo hst
  obtain ⟨v, vt, rfl, ⟨b, rfl, rfl⟩, hst⟩ := hst
  obtain ⟨v, vt, rfl, ⟨a, rfl, rfl⟩, hst⟩ := hst
  exact lv_land C.1 C.2.1 hd (hk p e s m args below meth c C ad0 n0 ad hA hN hB H locs ls lv _ ws hR hP hD hS hl hlo ⟨_, _, rfl, ⟨_, rfl, by simp only [yland, y64_to]⟩, hst⟩)
theorem ys_lor {x y : Int} (hd : decode (sC S mi) pc = .ok (.lor, 1)) (hk : yW l S D cy Fk z d mi bc bs K nc ns (pc + 1) lo (yj (ylor x y) :: st) h) : yW l S D cy Fk z d mi bc bs K nc ns pc lo (yj y :: yj x :: st) h := by
  intro p e s m args below meth c C ad0 n0 ad hA hN hB H locs ls lv vs ws hR hP hD hS hl hlo hst
  obtain ⟨v, vt, rfl, ⟨b, rfl, rfl⟩, hst⟩ := hst
  obtain ⟨v, vt, rfl, ⟨a, rfl, rfl⟩, hst⟩ := hst
  exact lv_lor C.1 C.2.1 hd (hk p e s m args below meth c C ad0 n0 ad hA hN hB H locs ls lv _ ws hR hP hD hS hl hlo ⟨_, _, rfl, ⟨_, rfl, by simp only [ylor, y64_to]⟩, hst⟩)
theorem ys_lxor {x y : Int} (hd : decode (sC S mi) pc = .ok (.lxor, 1)) (hk : yW l S D cy Fk z d mi bc bs K nc ns (pc + 1) lo (yj (ylxor x y) :: st) h) : yW l S D cy Fk z d mi bc bs K nc ns pc lo (yj y :: yj x :: st) h := by
  intro p e s m args below meth c C ad0 n0 ad hA hN hB H locs ls lv vs ws hR hP hD hS hl hlo hst
  obtain ⟨v, vt, rfl, ⟨b, rfl, rfl⟩, hst⟩ := hst
  obtain ⟨v, vt, rfl, ⟨a, rfl, rfl⟩, hst⟩ := hst
  exact lv_lxor C.1 C.2.1 hd (hk p e s m args below meth c C ad0 n0 ad hA hN hB H locs ls lv _ ws hR hP hD hS hl hlo ⟨_, _, rfl, ⟨_, rfl, by simp only [ylxor, y64_to]⟩, hst⟩)
theorem ys_lshl {x y : Int} (hd : decode (sC S mi) pc = .ok (.lshl, 1)) (hk : yW l S D cy Fk z d mi bc bs K nc ns (pc + 1) lo (yj (ylshl x y) :: st) h) : yW l S D cy Fk z d mi bc bs K nc ns pc lo (yi y :: yj x :: st) h := by
  intro p e s m args below meth c C ad0 n0 ad hA hN hB H locs ls lv vs ws hR hP hD hS hl hlo hst
  obtain ⟨v, vt, rfl, ⟨b, rfl, rfl⟩, hst⟩ := hst
  obtain ⟨v, vt, rfl, ⟨a, rfl, rfl⟩, hst⟩ := hst
  exact lv_lshl C.1 C.2.1 hd rfl (hk p e s m args below meth c C ad0 n0 ad hA hN hB H locs ls lv _ ws hR hP hD hS hl hlo ⟨_, _, rfl, ⟨_, rfl, by simp only [ylshl, y32_to, y64_to]⟩, hst⟩)
theorem ys_lshr {x y : Int} (hd : decode (sC S mi) pc = .ok (.lshr, 1)) (hk : yW l S D cy Fk z d mi bc bs K nc ns (pc + 1) lo (yj (ylshr x y) :: st) h) : yW l S D cy Fk z d mi bc bs K nc ns pc lo (yi y :: yj x :: st) h := by
  intro p e s m args below meth c C ad0 n0 ad hA hN hB H locs ls lv vs ws hR hP hD hS hl hlo hst
  obtain ⟨v, vt, rfl, ⟨b, rfl, rfl⟩, hst⟩ := hst
  obtain ⟨v, vt, rfl, ⟨a, rfl, rfl⟩, hst⟩ := hst
  exact lv_lshr C.1 C.2.1 hd rfl (hk p e s m args below meth c C ad0 n0 ad hA hN hB H locs ls lv _ ws hR hP hD hS hl hlo ⟨_, _, rfl, ⟨_, rfl, by simp only [ylshr, y32_to, y64_to]⟩, hst⟩)
theorem ys_ishl {x y : Int} (hd : decode (sC S mi) pc = .ok (.ishl, 1)) (hk : yW l S D cy Fk z d mi bc bs K nc ns (pc + 1) lo (yi (yshl x y) :: st) h) : yW l S D cy Fk z d mi bc bs K nc ns pc lo (yi y :: yi x :: st) h := by
  intro p e s m args below meth c C ad0 n0 ad hA hN hB H locs ls lv vs ws hR hP hD hS hl hlo hst
  obtain ⟨v, vt, rfl, ⟨b, rfl, rfl⟩, hst⟩ := hst
  obtain ⟨v, vt, rfl, ⟨a, rfl, rfl⟩, hst⟩ := hst
  exact lv_ishl C.1 C.2.1 hd (hk p e s m args below meth c C ad0 n0 ad hA hN hB H locs ls lv _ ws hR hP hD hS hl hlo ⟨_, _, rfl, ⟨_, rfl, by simp only [yshl, y32_to]⟩, hst⟩)
theorem ys_ishr {x y : Int} (hd : decode (sC S mi) pc = .ok (.ishr, 1)) (hk : yW l S D cy Fk z d mi bc bs K nc ns (pc + 1) lo (yi (yshr x y) :: st) h) : yW l S D cy Fk z d mi bc bs K nc ns pc lo (yi y :: yi x :: st) h := by
  intro p e s m args below meth c C ad0 n0 ad hA hN hB H locs ls lv vs ws hR hP hD hS hl hlo hst
  obtain ⟨v, vt, rfl, ⟨b, rfl, rfl⟩, hst⟩ := hst
  obtain ⟨v, vt, rfl, ⟨a, rfl, rfl⟩, hst⟩ := hst
  exact lv_ishr C.1 C.2.1 hd (hk p e s m args below meth c C ad0 n0 ad hA hN hB H locs ls lv _ ws hR hP hD hS hl hlo ⟨_, _, rfl, ⟨_, rfl, by simp only [yshr, y32_to]⟩, hst⟩)
theorem ys_i2b {x : Int} (hd : decode (sC S mi) pc = .ok (.i2b, 1)) (hk : yW l S D cy Fk z d mi bc bs K nc ns (pc + 1) lo (yi (yi2b x) :: st) h) : yW l S D cy Fk z d mi bc bs K nc ns pc lo (yi x :: st) h := by
  intro p e s m args below meth c C ad0 n0 ad hA hN hB H locs ls lv vs ws hR hP hD hS hl hlo hst
  obtain ⟨v, vt, rfl, ⟨a, rfl, rfl⟩, hst⟩ := hst
  exact lv_i2b C.1 C.2.1 hd rfl (hk p e s m args below meth c C ad0 n0 ad hA hN hB H locs ls lv _ ws hR hP hD hS hl hlo ⟨_, _, rfl, ⟨_, rfl, by simp only [yi2b, y32_to]⟩, hst⟩)
theorem ys_i2l {x : Int} (hd : decode (sC S mi) pc = .ok (.i2l, 1)) (hk : yW l S D cy Fk z d mi bc bs K nc ns (pc + 1) lo (yj (yi2l x) :: st) h) : yW l S D cy Fk z d mi bc bs K nc ns pc lo (yi x :: st) h := by
  intro p e s m args below meth c C ad0 n0 ad hA hN hB H locs ls lv vs ws hR hP hD hS hl hlo hst
  obtain ⟨v, vt, rfl, ⟨a, rfl, rfl⟩, hst⟩ := hst
  exact lv_i2l C.1 C.2.1 hd rfl (hk p e s m args below meth c C ad0 n0 ad hA hN hB H locs ls lv _ ws hR hP hD hS hl hlo ⟨_, _, rfl, ⟨_, rfl, by simp only [yi2l, y32_to]⟩, hst⟩)
def ylcmp (x y : Int) : Int := (lg_cmp (y64 x) (y64 y)).toInt
theorem ys_lcmp {x y : Int} (hd : decode (sC S mi) pc = .ok (.lcmp, 1)) (hk : yW l S D cy Fk z d mi bc bs K nc ns (pc + 1) lo (yi (ylcmp x y) :: st) h) : yW l S D cy Fk z d mi bc bs K nc ns pc lo (yj y :: yj x :: st) h := by
  intro p e s m args below meth c C ad0 n0 ad hA hN hB H locs ls lv vs ws hR hP hD hS hl hlo hst
  obtain ⟨v, vt, rfl, ⟨b, rfl, rfl⟩, hst⟩ := hst
  obtain ⟨v, vt, rfl, ⟨a, rfl, rfl⟩, hst⟩ := hst
  exact W.lcmp C.1 C.2.1 hd (hk p e s m args below meth c C ad0 n0 ad hA hN hB H locs ls lv _ ws hR hP hD hS hl hlo ⟨_, _, rfl, ⟨_, rfl, by simp only [ylcmp, y64_to]⟩, hst⟩)
end Sy
