section Sn3
variable {l : Launch} {S : zS} {D : va_G} {cy : Nat → ClassId} {z : Nat} {G : zG0} {ih : zHo} {d mi : Nat} {tb : zT} {bc bs nc ns pc ea eb ec en : Nat} {lo : zL} {st : List zV} {h : zHp} {K : zKo}
theorem zs_lt1 {a b : zV} {x y : Int32} (h1 : zlo a ≤ zB x ∧ zB x ≤ zhi a) (h2 : zlo b ≤ zB y ∧ zB y ≤ zhi b) : (zlt a b = 1 → x < y) ∧ (zlt a b = 0 → ¬ x < y) := by
  unfold zlt
  cases c1 : Nat.blt (zhi a) (zlo b) with
  | true =>
    have c1 : zhi a < zlo b := by simpa [Nat.blt_eq] using c1
    exact ⟨fun _ => zB_lt.mpr (by omega), fun q => by simp at q⟩
  | false =>
    cases c2 : Nat.ble (zhi b) (zlo a) with
    | true =>
      have c2 : zhi b ≤ zlo a := Nat.le_of_ble_eq_true c2
      exact ⟨fun q => by simp at q, fun _ q => by have q := zB_lt.mp q; omega⟩
    | false => exact ⟨fun q => by simp at q, fun q => by simp at q⟩
theorem zs_eq1 {a b : zV} {x y : Int32} (h1 : zlo a ≤ zB x ∧ zB x ≤ zhi a) (h2 : zlo b ≤ zB y ∧ zB y ≤ zhi b) : (zeq a b = 1 → x = y) ∧ (zeq a b = 0 → ¬ x = y) := by
  unfold zeq
  cases c1 : (Nat.blt (zhi a) (zlo b) || Nat.blt (zhi b) (zlo a)) with
  | true =>
    have c1 : zhi a < zlo b ∨ zhi b < zlo a := by simpa [Nat.blt_eq] using c1
    exact ⟨fun q => by simp at q, fun _ q => by have q := zB_eq.mp q; omega⟩
  | false =>
    cases c2 : (Nat.beq (zlo a) (zhi a) && (Nat.beq (zlo b) (zhi b) && Nat.beq (zlo a) (zlo b))) with
    | true =>
      have c2 : zlo a = zhi a ∧ zlo b = zhi b ∧ zlo a = zlo b := by simpa [Nat.beq_eq] using c2
      exact ⟨fun _ => zB_eq.mpr (by omega), fun q => by simp at q⟩
    | false => exact ⟨fun q => by simp at q, fun q => by simp at q⟩
/-- two roads, by what is known of the condition -/
theorem zs_b2 {n : Nat} {A B : Bool} {P X Y : Prop} (h : zb2 n A B = true) (h1 : n = 1 → P) (h0 : n = 0 → ¬ P) (hA : A = true → X) (hB : B = true → Y) : (P → X) ∧ (¬ P → Y) := by
  match n, h, h1, h0 with
  | 0, h, _, h0 => exact ⟨fun q => absurd q (h0 rfl), fun _ => hB h⟩
  | 1, h, h1, _ => exact ⟨fun _ => hA h, fun q => absurd (h1 rfl) q⟩
  | n + 2, h, _, _ =>
    have h : cond A B false = true := h
    cases A with
    | true => exact ⟨fun _ => hA rfl, fun _ => hB h⟩
    | false => cases h
theorem zs_b2n {n : Nat} {A B : Bool} {P X Y : Prop} (h : zb2 (match n with | 0 => 1 | 1 => 0 | n => n) A B = true) (h1 : n = 1 → P) (h0 : n = 0 → ¬ P) (hA : A = true → X) (hB : B = true → Y) : (¬ P → X) ∧ (P → Y) := by
  match n, h, h1, h0 with
  | 0, h, _, h0 => exact ⟨fun _ => hA h, fun q => absurd q (h0 rfl)⟩
  | 1, h, h1, _ => exact ⟨fun q => absurd (h1 rfl) q, fun _ => hB h⟩
  | n + 2, h, _, _ =>
    have h : cond A B false = true := h
    cases A with
    | true => exact ⟨fun _ => hA rfl, fun _ => hB h⟩
    | false => cases h
def zCn (k : Nat) : ClassFile.Cond := match k with
  | 0 => .eq
  | 1 => .ne
  | 2 => .lt
  | 3 => .ge
  | 4 => .gt
  | _ => .le
theorem zs_icmp (k : Nat) (hk6 : k < 6) (hi : zOK l S D cy z G ih) (ht : ∃ an mc ms, zN G.1 mi = some (an, mc, ms, tb)) {off : Int} (hd : decode (sC S mi) pc = .ok (.if_icmp (zCn k) off, 3)) (hg : (pc : Int) + off = (ea : Int)) (hn : en = pc + 3) (hk : zo_ic k ih (d, mi, tb, bc, bs) nc ns ea eb ec en lo st h K = true) : zW l S D cy z d mi bc bs nc ns pc lo st h K := by
  intro p e s m args below meth c C ad0 n0 ad hA hN hB H locs ls lv vs ws hR hP hD hS hl hlo hst
  subst hn
  revert hst
  revert hk
  match st with
  | [] => intro hk _; simp [zo_ic] at hk
  | [_] => intro hk _; simp [zo_ic] at hk
  | b :: a :: st' =>
    intro hk hst
    simp only [zo_ic] at hk
    cases hI : (zIsI a && zIsI b) with
    | false => rw [hI] at hk; cases hk
    | true =>
      rw [hI] at hk
      simp only [cond_true] at hk
      obtain ⟨x, y, vt, rfl, ha, hb, hs2, hx, hy⟩ := zs_two hI hst
      have kA := fun q => hi d mi tb bc bs nc ns ea lo st' h K q ht p e s m args below meth c C ad0 n0 ad hA hN hB H locs ls lv vt ws hR hP hD hS hl hlo hs2
      have kB := fun q => hi d mi tb bc bs nc ns (pc + 3) lo st' h K q ht p e s m args below meth c C ad0 n0 ad hA hN hB H locs ls lv vt ws hR hP hD hS hl hlo hs2
      match k, hk6, hk, hd with
      | 0, _, hk, hd =>
        obtain ⟨k1, k2⟩ := zs_b2 hk (zs_eq1 hx hy).1 (zs_eq1 hx hy).2 kA kB
        exact lv_icmp_eq C.1 C.2.1 hd hg k1 k2
      | 1, _, hk, hd =>
        obtain ⟨k1, k2⟩ := zs_b2n hk (zs_eq1 hx hy).1 (zs_eq1 hx hy).2 kA kB
        exact lv_icmp_ne C.1 C.2.1 hd hg k1 k2
      | 2, _, hk, hd =>
        obtain ⟨k1, k2⟩ := zs_b2 hk (zs_lt1 hx hy).1 (zs_lt1 hx hy).2 kA kB
        exact lv_icmp_lt C.1 C.2.1 hd hg k1 k2
      | 3, _, hk, hd =>
        obtain ⟨k1, k2⟩ := zs_b2n hk (zs_lt1 hx hy).1 (zs_lt1 hx hy).2 kA kB
        exact lv_icmp_ge C.1 C.2.1 hd hg (fun q => k1 (fun r => by have q := zB_le.mp q; have r := zB_lt.mp r; omega)) (fun q => k2 (zB_lt.mpr (by have : ¬ zB y ≤ zB x := fun r => q (zB_le.mpr r); omega)))
      | 4, _, hk, hd =>
        obtain ⟨k1, k2⟩ := zs_b2 hk (zs_lt1 hy hx).1 (zs_lt1 hy hx).2 kA kB
        exact lv_icmp_gt C.1 C.2.1 hd hg k1 k2
      | 5, _, hk, hd =>
        obtain ⟨k1, k2⟩ := zs_b2n hk (zs_lt1 hy hx).1 (zs_lt1 hy hx).2 kA kB
        exact lv_icmp_le C.1 C.2.1 hd hg (fun q => k1 (fun r => by have q := zB_le.mp q; have r := zB_lt.mp r; omega)) (fun q => k2 (zB_lt.mpr (by have : ¬ zB x ≤ zB y := fun r => q (zB_le.mpr r); omega)))
theorem zs_if (k : Nat) (hk6 : k < 6) (hi : zOK l S D cy z G ih) (ht : ∃ an mc ms, zN G.1 mi = some (an, mc, ms, tb)) {off : Int} (hd : decode (sC S mi) pc = .ok (.ifCond (zCn k) off, 3)) (hg : (pc : Int) + off = (ea : Int)) (hn : en = pc + 3) (hk : zo_if k ih (d, mi, tb, bc, bs) nc ns ea eb ec en lo st h K = true) : zW l S D cy z d mi bc bs nc ns pc lo st h K := by
  intro p e s m args below meth c C ad0 n0 ad hA hN hB H locs ls lv vs ws hR hP hD hS hl hlo hst
  subst hn
  cases st with
  | nil => simp [zo_if] at hk
  | cons a st' =>
    simp only [zo_if] at hk
    cases hI : zIsI a with
    | false => rw [hI] at hk; cases hk
    | true =>
      rw [hI] at hk
      simp only [cond_true] at hk
      obtain ⟨v, vt, rfl, ha, hs2⟩ := hst
      obtain ⟨x, rfl, hx⟩ := zG_int hI ha
      have hy : zlo (.inl 0) ≤ zB 0 ∧ zB 0 ≤ zhi (.inl 0) := by decide
      have kA := fun q => hi d mi tb bc bs nc ns ea lo st' h K q ht p e s m args below meth c C ad0 n0 ad hA hN hB H locs ls lv vt ws hR hP hD hS hl hlo hs2
      have kB := fun q => hi d mi tb bc bs nc ns (pc + 3) lo st' h K q ht p e s m args below meth c C ad0 n0 ad hA hN hB H locs ls lv vt ws hR hP hD hS hl hlo hs2
      match k, hk6, hk, hd with
      | 0, _, hk, hd =>
        obtain ⟨k1, k2⟩ := zs_b2 hk (zs_eq1 hx hy).1 (zs_eq1 hx hy).2 kA kB
        exact lv_if_eq C.1 C.2.1 hd hg k1 k2
      | 1, _, hk, hd =>
        obtain ⟨k1, k2⟩ := zs_b2n hk (zs_eq1 hx hy).1 (zs_eq1 hx hy).2 kA kB
        exact lv_if_ne C.1 C.2.1 hd hg k1 k2
      | 2, _, hk, hd =>
        obtain ⟨k1, k2⟩ := zs_b2 hk (zs_lt1 hx hy).1 (zs_lt1 hx hy).2 kA kB
        exact lv_if_lt C.1 C.2.1 hd hg k1 k2
      | 3, _, hk, hd =>
        obtain ⟨k1, k2⟩ := zs_b2n hk (zs_lt1 hx hy).1 (zs_lt1 hx hy).2 kA kB
        exact lv_if_ge C.1 C.2.1 hd hg (fun q => k1 (fun r => by have q := zB_le.mp q; have r := zB_lt.mp r; omega)) (fun q => k2 (zB_lt.mpr (by have : ¬ zB 0 ≤ zB x := fun r => q (zB_le.mpr r); omega)))
      | 4, _, hk, hd =>
        obtain ⟨k1, k2⟩ := zs_b2 hk (zs_lt1 hy hx).1 (zs_lt1 hy hx).2 kA kB
        exact lv_if_gt C.1 C.2.1 hd hg k1 k2
      | 5, _, hk, hd =>
        obtain ⟨k1, k2⟩ := zs_b2n hk (zs_lt1 hy hx).1 (zs_lt1 hy hx).2 kA kB
        exact lv_if_le C.1 C.2.1 hd hg (fun q => k1 (fun r => by have q := zB_le.mp q; have r := zB_lt.mp r; omega)) (fun q => k2 (zB_lt.mpr (by have : ¬ zB x ≤ zB 0 := fun r => q (zB_le.mpr r); omega)))
/-- the rows of targets of a switch are its own -/
def zSwOk (G : zG0) (pc : Nat) (dflt lo hi : Int) (offs : Array Int) (ea eb ec en : Nat) : Prop :=
  (ea : Int) = lo + 2147483648 ∧ (ea + eb : Int) = hi + 2147483649 ∧ (pc : Int) + dflt = (en : Int) ∧ ∃ tg : List Nat, G.2.2[ec]? = some tg ∧ ∀ j, j < eb → ∃ (off : Int) (t : Nat), offs[j]? = some off ∧ tg[j]? = some t ∧ (pc : Int) + off = (t : Int)
theorem zs_sw (hi : zOK l S D cy z G ih) (ht : ∃ an mc ms, zN G.1 mi = some (an, mc, ms, tb)) {dflt lo' hi' : Int} {offs : Array Int} {len : Nat} (hd : decode (sC S mi) pc = .ok (.tableswitch dflt lo' hi' offs, len)) (hsw : zSwOk G pc dflt lo' hi' offs ea eb ec en) (hk : zo_sw G ih (d, mi, tb, bc, bs) nc ns ea eb ec en lo st h K = true) : zW l S D cy z d mi bc bs nc ns pc lo st h K := by
  intro p e s m args below meth c C ad0 n0 ad hA hN hB H locs ls lv vs ws hR hP hD hS hl hlo hst
  obtain ⟨e1, e2, e3, tg, e4, e5⟩ := hsw
  cases st with
  | nil => simp [zo_sw] at hk
  | cons a st' =>
    simp only [zo_sw, zN_eq, e4] at hk
    cases hI : zIsI a with
    | false => rw [hI] at hk; cases hk
    | true =>
      rw [hI] at hk
      simp only [cond_true] at hk
      obtain ⟨v, vt, rfl, ha, hs2⟩ := hst
      obtain ⟨x, rfl, hx⟩ := zG_int hI ha
      have hxb := zB_int x
      cases c1 : (Nat.blt (zhi a) ea || Nat.ble (ea + eb) (zlo a)) with
      | true =>
        rw [c1] at hk
        simp only [cond_true] at hk
        have c1 : zhi a < ea ∨ ea + eb ≤ zlo a := by simpa [Nat.blt_eq] using c1
        exact lv_tableOut C.1 C.2.1 hd (by omega) e3 (hi _ _ _ _ _ _ _ _ _ _ _ _ hk ht p e s m args below meth c C ad0 n0 ad hA hN hB H locs ls lv _ ws hR hP hD hS hl hlo hs2)
      | false =>
        rw [c1] at hk
        simp only [cond_false] at hk
        have c1 : ¬ zhi a < ea ∧ ¬ ea + eb ≤ zlo a := by
          constructor
          · intro q
            have q : Nat.blt (zhi a) ea = true := by simpa [Nat.blt_eq] using q
            rw [q] at c1
            simp at c1
          · intro q
            have q : Nat.ble (ea + eb) (zlo a) = true := Nat.ble_eq_true_of_le q
            rw [q] at c1
            simp at c1
        cases c2 : Nat.beq (zlo a) (zhi a) with
        | false => rw [c2] at hk; cases hk
        | true =>
          rw [c2] at hk
          simp only [cond_true] at hk
          have c2 : zlo a = zhi a := Nat.eq_of_beq_eq_true c2
          obtain ⟨off, t, o1, o2, o3⟩ := e5 (zlo a - ea) (by omega)
          rw [o2] at hk
          refine lv_tableIn C.1 C.2.1 hd (by omega) (by omega) (off := off) ?_ o3 (hi _ _ _ _ _ _ _ _ _ _ _ _ hk ht p e s m args below meth c C ad0 n0 ad hA hN hB H locs ls lv _ ws hR hP hD hS hl hlo hs2)
          rw [show (x.toInt - lo').toNat = zlo a - ea by omega]
          exact o1
end Sn3
