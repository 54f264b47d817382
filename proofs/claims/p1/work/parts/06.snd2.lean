section Sn2
variable {l : Launch} {S : zS} {D : va_G} {cy : Nat → ClassId} {z : Nat} {G : zG0} {ih : zHo} {d mi : Nat} {tb : zT} {bc bs nc ns pc ea eb ec en : Nat} {lo : zL} {st : List zV} {h : zHp} {K : zKo}
theorem zs_subc (c n : Nat) : nI (zsub c n) = nI c - nI n := by
  apply Int32.toBitVec_inj.mp
  apply BitVec.eq_of_toNat_eq
  rw [Int32.toBitVec_sub, BitVec.toNat_sub]
  show (Int32.ofNat _).toBitVec.toNat = (2 ^ 32 - (Int32.ofNat _).toBitVec.toNat + (Int32.ofNat _).toBitVec.toNat) % 2 ^ 32
  simp only [Int32.toBitVec_ofNat', BitVec.toNat_ofNat, zsub]
  omega
theorem zs_mulc (c n : Nat) : nI (zmul c n) = nI c * nI n := by
  apply Int32.toBitVec_inj.mp
  apply BitVec.eq_of_toNat_eq
  rw [Int32.toBitVec_mul, BitVec.toNat_mul]
  show (Int32.ofNat _).toBitVec.toNat = ((Int32.ofNat _).toBitVec.toNat * (Int32.ofNat _).toBitVec.toNat) % 2 ^ 32
  simp only [Int32.toBitVec_ofNat', BitVec.toNat_ofNat, zmul]
  rw [Nat.mod_mod, ← Nat.mul_mod]
/-- two ints of the stack -/
theorem zs_two {ad : Nat → Nat} {a b : zV} {st' : List zV} {vs : List Value} (hI : (zIsI a && zIsI b) = true) (hst : zGs ad h.1 (b :: a :: st') vs) : ∃ (x y : Int32) (vt : List Value), vs = .int y :: .int x :: vt ∧ zG ad h.1 a (.int x) ∧ zG ad h.1 b (.int y) ∧ zGs ad h.1 st' vt ∧ (zlo a ≤ zB x ∧ zB x ≤ zhi a) ∧ (zlo b ≤ zB y ∧ zB y ≤ zhi b) := by
  simp only [Bool.and_eq_true] at hI
  obtain ⟨v, vt, rfl, hb, w, wt, rfl, ha, hst⟩ := hst
  obtain ⟨x, rfl, h1, h2⟩ := zG_int hI.1 ha
  obtain ⟨y, rfl, h3, h4⟩ := zG_int hI.2 hb
  exact ⟨x, y, wt, rfl, ha, hb, hst, ⟨h1, h2⟩, ⟨h3, h4⟩⟩
theorem zs_bin (g : Nat → Nat → Nat) (gi : Int32 → Int32 → Int32) (hg : ∀ c n, nI (g c n) = gi (nI c) (nI n)) (hi : zOK l S D cy z G ih) (ht : ∃ an mc ms, zN G.1 mi = some (an, mc, ms, tb)) (hn : en = pc + 1)
    (row : ∀ (p : Program) (e : Env) (s : State) (m : MethodId) (args : Array Value) (below : List Frame) (meth : Method) (c : Code) (H : Heap) (locs : List Loc) (ls : Array Slot) (Q : State → Prop) (x y : Int32) (rest : List Value), p.tables.exec = Jvm.exec → c.code = sC S mi → W p l e (zRm d bc bs) s m args below meth c H locs nc ns Q (F0 m (pc + 1) ls (.int (gi x y) :: rest)) → W p l e (zRm d bc bs) s m args below meth c H locs nc ns Q (F0 m pc ls (.int y :: .int x :: rest)))
    (hk : zo_bin g ih (d, mi, tb, bc, bs) nc ns ea eb ec en lo st h K = true) : zW l S D cy z d mi bc bs nc ns pc lo st h K := by
  intro p e s m args below meth c C ad0 n0 ad hA hN hB H locs ls lv vs ws hR hP hD hS hl hlo hst
  subst hn
  revert hst
  revert hk
  match st with
  | [] => intro hk _; simp [zo_bin] at hk
  | [_] => intro hk _; simp [zo_bin] at hk
  | .inl y :: .inl x :: st' =>
    intro hk hst
    simp only [zo_bin, zF_eq] at hk
    obtain ⟨x', y', vt, rfl, ha, hb, hst, -, -⟩ := zs_two rfl hst
    refine row p e s m args below meth c H locs ls _ x' y' vt C.1 C.2.1 (hi _ _ _ _ _ _ _ _ _ _ _ _ hk ht p e s m args below meth c C ad0 n0 ad hA hN hB H locs ls lv _ ws hR hP hD hS hl hlo ⟨_, _, rfl, ?_, hst⟩)
    have h1 : Value.int x' = .int (nI x) := ha
    have h2 : Value.int y' = .int (nI y) := hb
    cases h1
    cases h2
    show _ = _
    rw [hg]
  | .inr b :: a :: st' =>
    intro hk hst
    simp only [zo_bin] at hk
    cases hI : (zIsI a && zIsI (.inr b)) with
    | false => rw [hI] at hk; cases hk
    | true =>
      rw [hI] at hk
      obtain ⟨x', y', vt, rfl, ha, hb, hst, -, -⟩ := zs_two hI hst
      exact row p e s m args below meth c H locs ls _ x' y' vt C.1 C.2.1 (hi _ _ _ _ _ _ _ _ _ _ _ _ hk ht p e s m args below meth c C ad0 n0 ad hA hN hB H locs ls lv _ ws hR hP hD hS hl hlo ⟨_, _, rfl, zG_any _, hst⟩)
  | .inl b :: .inr a :: st' =>
    intro hk hst
    simp only [zo_bin] at hk
    cases hI : (zIsI (.inr a) && zIsI (.inl b)) with
    | false => rw [hI] at hk; cases hk
    | true =>
      rw [hI] at hk
      obtain ⟨x', y', vt, rfl, ha, hb, hst, -, -⟩ := zs_two hI hst
      exact row p e s m args below meth c H locs ls _ x' y' vt C.1 C.2.1 (hi _ _ _ _ _ _ _ _ _ _ _ _ hk ht p e s m args below meth c C ad0 n0 ad hA hN hB H locs ls lv _ ws hR hP hD hS hl hlo ⟨_, _, rfl, zG_any _, hst⟩)
theorem zs_iadd (hi : zOK l S D cy z G ih) (ht : ∃ an mc ms, zN G.1 mi = some (an, mc, ms, tb)) (hd : decode (sC S mi) pc = .ok (.iadd, 1)) (hn : en = pc + 1) (hk : zo_bin zadd ih (d, mi, tb, bc, bs) nc ns ea eb ec en lo st h K = true) : zW l S D cy z d mi bc bs nc ns pc lo st h K :=
  zs_bin zadd (· + ·) zs_addc hi ht hn (fun p e s m args below meth c H locs ls Q x y rest hx hb k => lv_iadd hx hb hd k) hk
theorem zs_isub (hi : zOK l S D cy z G ih) (ht : ∃ an mc ms, zN G.1 mi = some (an, mc, ms, tb)) (hd : decode (sC S mi) pc = .ok (.isub, 1)) (hn : en = pc + 1) (hk : zo_bin zsub ih (d, mi, tb, bc, bs) nc ns ea eb ec en lo st h K = true) : zW l S D cy z d mi bc bs nc ns pc lo st h K :=
  zs_bin zsub (· - ·) zs_subc hi ht hn (fun p e s m args below meth c H locs ls Q x y rest hx hb k => lv_isub hx hb hd k) hk
theorem zs_imul (hi : zOK l S D cy z G ih) (ht : ∃ an mc ms, zN G.1 mi = some (an, mc, ms, tb)) (hd : decode (sC S mi) pc = .ok (.imul, 1)) (hn : en = pc + 1) (hk : zo_bin zmul ih (d, mi, tb, bc, bs) nc ns ea eb ec en lo st h K = true) : zW l S D cy z d mi bc bs nc ns pc lo st h K :=
  zs_bin zmul (· * ·) zs_mulc hi ht hn (fun p e s m args below meth c H locs ls Q x y rest hx hb k => lv_imul hx hb hd k) hk
theorem zs_ishr (hi : zOK l S D cy z G ih) (ht : ∃ an mc ms, zN G.1 mi = some (an, mc, ms, tb)) (hd : decode (sC S mi) pc = .ok (.ishr, 1)) (hn : en = pc + 1) (hk : zo_any2 ih (d, mi, tb, bc, bs) nc ns ea eb ec en lo st h K = true) : zW l S D cy z d mi bc bs nc ns pc lo st h K := by
  intro p e s m args below meth c C ad0 n0 ad hA hN hB H locs ls lv vs ws hR hP hD hS hl hlo hst
  subst hn
  revert hst
  revert hk
  match st with
  | [] => intro hk _; simp [zo_any2] at hk
  | [_] => intro hk _; simp [zo_any2] at hk
  | b :: a :: st' =>
    intro hk hst
    simp only [zo_any2] at hk
    cases hI : (zIsI a && zIsI b) with
    | false => rw [hI] at hk; cases hk
    | true =>
      rw [hI] at hk
      obtain ⟨x', y', vt, rfl, ha, hb, hst, -, -⟩ := zs_two hI hst
      exact lv_ishr C.1 C.2.1 hd (hi _ _ _ _ _ _ _ _ _ _ _ _ hk ht p e s m args below meth c C ad0 n0 ad hA hN hB H locs ls lv _ ws hR hP hD hS hl hlo ⟨_, _, rfl, zG_any _, hst⟩)
theorem zs_i2b (hi : zOK l S D cy z G ih) (ht : ∃ an mc ms, zN G.1 mi = some (an, mc, ms, tb)) (hd : decode (sC S mi) pc = .ok (.i2b, 1)) (hn : en = pc + 1) (hk : zo_any1 ih (d, mi, tb, bc, bs) nc ns ea eb ec en lo st h K = true) : zW l S D cy z d mi bc bs nc ns pc lo st h K := by
  intro p e s m args below meth c C ad0 n0 ad hA hN hB H locs ls lv vs ws hR hP hD hS hl hlo hst
  subst hn
  cases st with
  | nil => simp [zo_any1] at hk
  | cons a st' =>
    simp only [zo_any1] at hk
    cases hI : zIsI a with
    | false => rw [hI] at hk; cases hk
    | true =>
      rw [hI] at hk
      obtain ⟨v, vt, rfl, hg, hst⟩ := hst
      obtain ⟨x, rfl, -, -⟩ := zG_int hI hg
      exact lv_i2b C.1 C.2.1 hd rfl (hi _ _ _ _ _ _ _ _ _ _ _ _ hk ht p e s m args below meth c C ad0 n0 ad hA hN hB H locs ls lv _ ws hR hP hD hS hl hlo ⟨_, _, rfl, zG_any _, hst⟩)
theorem zs_ne0 {y : Nat} (h1 : 0 < y) (h2 : y < 2147483648) : ¬ nI y = 0 := nI_ne0 h1 h2
theorem zs_idiv (hi : zOK l S D cy z G ih) (ht : ∃ an mc ms, zN G.1 mi = some (an, mc, ms, tb)) (hd : decode (sC S mi) pc = .ok (.idiv, 1)) (hn : en = pc + 1) (hk : zo_div ih (d, mi, tb, bc, bs) nc ns ea eb ec en lo st h K = true) : zW l S D cy z d mi bc bs nc ns pc lo st h K := by
  intro p e s m args below meth c C ad0 n0 ad hA hN hB H locs ls lv vs ws hR hP hD hS hl hlo hst
  subst hn
  revert hst
  revert hk
  match st with
  | [] => intro hk _; simp [zo_div] at hk
  | [.inl _] => intro hk _; simp [zo_div] at hk
  | .inr _ :: _ => intro hk _; simp [zo_div] at hk
  | .inl y :: a :: st' =>
    intro hk hst
    simp only [zo_div] at hk
    cases hI : (zIsI a && (Nat.blt 0 y && Nat.blt y 2147483648)) with
    | false => rw [hI] at hk; cases hk
    | true =>
      rw [hI] at hk
      simp only [Bool.and_eq_true, Nat.blt_eq] at hI
      obtain ⟨x', y', vt, rfl, ha, hb, hs2, -, -⟩ := zs_two (a := a) (b := .inl y) (by simp only [hI.1]; rfl) hst
      have h2 : Value.int y' = .int (nI y) := hb
      cases h2
      exact lv_idiv C.1 C.2.1 hd (zs_ne0 hI.2.1 hI.2.2) (hi _ _ _ _ _ _ _ _ _ _ _ _ hk ht p e s m args below meth c C ad0 n0 ad hA hN hB H locs ls lv _ ws hR hP hD hS hl hlo ⟨_, _, rfl, zG_any _, hs2⟩)
theorem zs_remb {x : Int32} {y : Nat} (hx : 2147483648 ≤ zB x) (h1 : 0 < y) (h2 : y < 2147483648) : 2147483648 ≤ zB (x - x / nI y * nI y) ∧ zB (x - x / nI y * nI y) ≤ 2147483647 + y := by
  obtain ⟨j, hj, rfl⟩ : ∃ j : Nat, j < 2 ^ 31 ∧ x = nI j := nI_of (fun q => by
    have q := zB_lt.mp q
    have : zB 0 = 2147483648 := by decide
    omega)
  rw [pk_rem hj h1 h2, zB_nI]
  have := Nat.mod_lt j h1
  omega
theorem zs_irem (hi : zOK l S D cy z G ih) (ht : ∃ an mc ms, zN G.1 mi = some (an, mc, ms, tb)) (hd : decode (sC S mi) pc = .ok (.irem, 1)) (hn : en = pc + 1) (hk : zo_rem ih (d, mi, tb, bc, bs) nc ns ea eb ec en lo st h K = true) : zW l S D cy z d mi bc bs nc ns pc lo st h K := by
  intro p e s m args below meth c C ad0 n0 ad hA hN hB H locs ls lv vs ws hR hP hD hS hl hlo hst
  subst hn
  revert hst
  revert hk
  match st with
  | [] => intro hk _; simp [zo_rem] at hk
  | [.inl _] => intro hk _; simp [zo_rem] at hk
  | .inr _ :: _ => intro hk _; simp [zo_rem] at hk
  | .inl y :: a :: st' =>
    intro hk hst
    simp only [zo_rem, zF_eq] at hk
    cases hI : (zIsI a && (Nat.blt 0 y && Nat.blt y 2147483648)) with
    | false => rw [hI] at hk; cases hk
    | true =>
      rw [hI] at hk
      simp only [cond_true] at hk
      simp only [Bool.and_eq_true, Nat.blt_eq] at hI
      obtain ⟨x', y', vt, rfl, ha, hb, hs2, hxb, -⟩ := zs_two (a := a) (b := .inl y) (by simp only [hI.1]; rfl) hst
      have h2 : Value.int y' = .int (nI y) := hb
      cases h2
      cases hc : Nat.ble 2147483648 (zlo a) with
      | true =>
        rw [hc] at hk
        simp only [cond_true] at hk
        have hle : 2147483648 ≤ zlo a := Nat.le_of_ble_eq_true hc
        have hrb := zs_remb (x := x') (y := y) (by omega) hI.2.1 hI.2.2
        exact lv_irem C.1 C.2.1 hd (zs_ne0 hI.2.1 hI.2.2) (hi _ _ _ _ _ _ _ _ _ _ _ _ hk ht p e s m args below meth c C ad0 n0 ad hA hN hB H locs ls lv _ ws hR hP hD hS hl hlo ⟨_, _, rfl, ⟨_, rfl, hrb.1, hrb.2⟩, hs2⟩)
      | false =>
        rw [hc] at hk
        simp only [cond_false] at hk
        exact lv_irem C.1 C.2.1 hd (zs_ne0 hI.2.1 hI.2.2) (hi _ _ _ _ _ _ _ _ _ _ _ _ hk ht p e s m args below meth c C ad0 n0 ad hA hN hB H locs ls lv _ ws hR hP hD hS hl hlo ⟨_, _, rfl, zG_any _, hs2⟩)
theorem zs_dup (hi : zOK l S D cy z G ih) (ht : ∃ an mc ms, zN G.1 mi = some (an, mc, ms, tb)) (hd : decode (sC S mi) pc = .ok (.dup, 1)) (hn : en = pc + 1) (hk : zo_dup ih (d, mi, tb, bc, bs) nc ns ea eb ec en lo st h K = true) : zW l S D cy z d mi bc bs nc ns pc lo st h K := by
  intro p e s m args below meth c C ad0 n0 ad hA hN hB H locs ls lv vs ws hR hP hD hS hl hlo hst
  subst hn
  cases st with
  | nil => simp [zo_dup] at hk
  | cons a st' =>
    simp only [zo_dup] at hk
    obtain ⟨v, vt, rfl, hg, hst⟩ := hst
    have hc := zG_cat hg
    cases hI : zIsL a with
    | true => rw [hI] at hk; cases hk
    | false =>
      rw [hI] at hk hc
      exact lv_dup C.1 C.2.1 hd hc (hi _ _ _ _ _ _ _ _ _ _ _ _ hk ht p e s m args below meth c C ad0 n0 ad hA hN hB H locs ls lv _ ws hR hP hD hS hl hlo ⟨_, _, rfl, hg, _, _, rfl, hg, hst⟩)
theorem zs_pop (hi : zOK l S D cy z G ih) (ht : ∃ an mc ms, zN G.1 mi = some (an, mc, ms, tb)) (hd : decode (sC S mi) pc = .ok (.pop, 1)) (hn : en = pc + 1) (hk : zo_pop ih (d, mi, tb, bc, bs) nc ns ea eb ec en lo st h K = true) : zW l S D cy z d mi bc bs nc ns pc lo st h K := by
  intro p e s m args below meth c C ad0 n0 ad hA hN hB H locs ls lv vs ws hR hP hD hS hl hlo hst
  subst hn
  cases st with
  | nil => simp [zo_pop] at hk
  | cons a st' =>
    simp only [zo_pop] at hk
    obtain ⟨v, vt, rfl, hg, hst⟩ := hst
    have hc := zG_cat hg
    cases hI : zIsL a with
    | true => rw [hI] at hk; cases hk
    | false =>
      rw [hI] at hk hc
      exact lv_pop C.1 C.2.1 hd hc (hi _ _ _ _ _ _ _ _ _ _ _ _ hk ht p e s m args below meth c C ad0 n0 ad hA hN hB H locs ls lv _ ws hR hP hD hS hl hlo hst)
theorem zs_dup2 (hi : zOK l S D cy z G ih) (ht : ∃ an mc ms, zN G.1 mi = some (an, mc, ms, tb)) (hd : decode (sC S mi) pc = .ok (.dup2, 1)) (hn : en = pc + 1) (hk : zo_dup2 ih (d, mi, tb, bc, bs) nc ns ea eb ec en lo st h K = true) : zW l S D cy z d mi bc bs nc ns pc lo st h K := by
  intro p e s m args below meth c C ad0 n0 ad hA hN hB H locs ls lv vs ws hR hP hD hS hl hlo hst
  subst hn
  revert hst
  revert hk
  match st with
  | [] => intro hk _; simp [zo_dup2] at hk
  | [_] => intro hk _; simp [zo_dup2] at hk
  | b :: a :: st' =>
    intro hk hst
    simp only [zo_dup2] at hk
    obtain ⟨v, vt, rfl, hg, w, wt, rfl, hg2, hst⟩ := hst
    have hc := zG_cat hg
    have hc2 := zG_cat hg2
    cases hLa : zIsL a <;> cases hLb : zIsL b <;> simp only [hLa, hLb, Bool.or_true, Bool.or_false, Bool.true_or, Bool.false_or, cond_true, cond_false] at hk hc hc2 <;> first | (cases hk; done) | skip
    exact lv_dup2_11 C.1 C.2.1 hd hc hc2 (hi _ _ _ _ _ _ _ _ _ _ _ _ hk ht p e s m args below meth c C ad0 n0 ad hA hN hB H locs ls lv _ ws hR hP hD hS hl hlo ⟨_, _, rfl, hg, _, _, rfl, hg2, _, _, rfl, hg, _, _, rfl, hg2, hst⟩)
theorem zs_goto (hi : zOK l S D cy z G ih) (ht : ∃ an mc ms, zN G.1 mi = some (an, mc, ms, tb)) {off : Int} (hd : decode (sC S mi) pc = .ok (.goto off, 3)) (hg : (pc : Int) + off = (ea : Int)) (hk : zo_go ih (d, mi, tb, bc, bs) nc ns ea eb ec en lo st h K = true) : zW l S D cy z d mi bc bs nc ns pc lo st h K := by
  intro p e s m args below meth c C ad0 n0 ad hA hN hB H locs ls lv vs ws hR hP hD hS hl hlo hst
  exact lv_goto C.1 C.2.1 hd hg (hi _ _ _ _ _ _ _ _ _ _ _ _ hk ht p e s m args below meth c C ad0 n0 ad hA hN hB H locs ls lv _ ws hR hP hD hS hl hlo hst)
theorem zs_ifnn (hi : zOK l S D cy z G ih) (ht : ∃ an mc ms, zN G.1 mi = some (an, mc, ms, tb)) {off : Int} (hd : decode (sC S mi) pc = .ok (.ifnonnull off, 3)) (hg : (pc : Int) + off = (ea : Int)) (hn : en = pc + 3) (hk : zo_nn ih (d, mi, tb, bc, bs) nc ns ea eb ec en lo st h K = true) : zW l S D cy z d mi bc bs nc ns pc lo st h K := by
  intro p e s m args below meth c C ad0 n0 ad hA hN hB H locs ls lv vs ws hR hP hD hS hl hlo hst
  subst hn
  revert hst
  revert hk
  match st with
  | [] => intro hk _; simp [zo_nn] at hk
  | .inl _ :: _ => intro hk _; simp [zo_nn] at hk
  | .inr (.inl _) :: _ => intro hk _; simp [zo_nn] at hk
  | .inr (.inr (.inl _)) :: _ => intro hk _; simp [zo_nn] at hk
  | .inr (.inr (.inr none)) :: st' =>
    intro hk hst
    simp only [zo_nn] at hk
    obtain ⟨v, vt, rfl, hv, hst⟩ := hst
    have hv : v = .null := hv.1
    subst hv
    exact lv_ifnonnullN C.1 C.2.1 hd (hi _ _ _ _ _ _ _ _ _ _ _ _ hk ht p e s m args below meth c C ad0 n0 ad hA hN hB H locs ls lv _ ws hR hP hD hS hl hlo hst)
  | .inr (.inr (.inr (some q))) :: st' =>
    intro hk hst
    simp only [zo_nn] at hk
    obtain ⟨v, vt, rfl, hv, hst⟩ := hst
    have hv : v = .ref (ad q) := hv.1
    subst hv
    exact lv_ifnonnull C.1 C.2.1 hd hg (hi _ _ _ _ _ _ _ _ _ _ _ _ hk ht p e s m args below meth c C ad0 n0 ad hA hN hB H locs ls lv _ ws hR hP hD hS hl hlo hst)
end Sn2
