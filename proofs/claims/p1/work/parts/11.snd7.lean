section Sn7
variable {l : Launch} {S : zS} {D : va_G} {cy : Nat → ClassId} {z : Nat} {G : zG0} {ih : zHo} {d mi : Nat} {tb : zT} {bc bs nc ns pc ea eb ec en : Nat} {lo : zL} {st : List zV} {h : zHp} {K : zKo}
theorem zs_new (hcl : zCls S) (hmk : zMk S G) (hi : zOK l S D cy z G ih) (ht : ∃ an mc ms, zN G.1 mi = some (an, mc, ms, tb)) {x y : Nat} {C0 : String} {T0 : u_T} (hd : decode (sC S mi) pc = .ok (.new x, 3)) (hc0 : (sCl S)[ea]? = some (C0, T0, eb)) (hw : (sW S)[y]? = some (.classLink (sY S mi).cls x C0)) (hn : en = pc + 3) (hk : zo_new G ih (d, mi, tb, bc, bs) nc ns ea eb ec en lo st h K = true) : zW l S D cy z d mi bc bs nc ns pc lo st h K := by
  intro p e s m args below meth c C ad0 n0 ad hA hN hB H locs ls lv vs ws hR hP hD hS hl hlo hst
  subst hn
  simp only [zo_new, zN_eq, zF_eq] at hk
  cases hf : G.2.1[ea]? with
  | none => rw [hf] at hk; cases hk
  | some fs =>
    rw [hf] at hk
    dsimp only at hk
    cases hb : (Nat.ble (nc + 1) bc && Nat.ble (ns + eb) bs) with
    | false => rw [hb] at hk; cases hk
    | true =>
      rw [hb] at hk
      simp only [cond_true] at hk
      simp only [Bool.and_eq_true] at hb
      have hb1 : nc + 1 ≤ bc := Nat.le_of_ble_eq_true hb.1
      have hb2 : ns + eb ≤ bs := Nat.le_of_ble_eq_true hb.2
      obtain ⟨h', hk, e1, e2⟩ := zNew_to hk
      obtain ⟨C1, T1, N1, ty, k1, k2, k3, k4, k5, k6⟩ := hmk ea fs hf
      rw [hc0] at k1
      cases k1
      refine va_new C.1 C.2.1 C.2.2.2.2.2.1 (fun w hw => List.mem_cons_of_mem _ ((hcl _ _ _ _ hc0).1 w hw)) ty k2 C.2.2.2.2.1 (zs_word C.2.2.2.2.2.1 hw) (C.2.2.2.2.2.1 _ (List.mem_cons_of_mem _ k5)) (C.2.2.2.2.2.1 _ (List.mem_cons_of_mem _ k6)) C.2.2.2.2.2.2.2.2.1.1 hP hD hS (fun q hq => Nat.le_trans C.2.2.2.2.2.2.2.2.2 hq) hc0 k4 hb1 hb2 hd (fun q H1 hP' hD' hS' => ?_)
      have hup : zGs (zAd ad h.1 q) h'.1 st vs := zGs_up zAd_old (by omega) hst
      exact hi _ _ _ _ _ _ _ _ _ _ _ _ hk ht p e s m args below meth c C ad0 n0 (zAd ad h.1 q) (fun k hkn => by rw [zAd_old k (by omega)]; exact hA k hkn) (by omega) ⟨hb1, hb2⟩ H1 locs ls lv _ _ (zR_add hR e1 e2 ⟨_, rfl, zs_blank fs k3⟩) hP' hD' hS' hl (zGl_up zAd_old (by omega) hlo) ⟨_, _, rfl, ⟨by show _ = Value.ref _; rw [zAd_new], fun k q => by cases q; omega⟩, hup⟩
theorem zs_na (hac : Jvm.Cond.arrayClass .byte ∈ sW S ∧ Jvm.Cond.arrayClass .int ∈ sW S ∧ Jvm.Cond.arrayClass .long ∈ sW S ∧ Jvm.Cond.arrayClass .boolean ∈ sW S) (hi : zOK l S D cy z G ih) (ht : ∃ an mc ms, zN G.1 mi = some (an, mc, ms, tb)) (hd : (ea = 0 ∧ decode (sC S mi) pc = .ok (.newarray .byte, 2)) ∨ (ea = 1 ∧ decode (sC S mi) pc = .ok (.newarray .int, 2)) ∨ (ea = 2 ∧ decode (sC S mi) pc = .ok (.newarray .long, 2)) ∨ (ea = 3 ∧ decode (sC S mi) pc = .ok (.newarray .boolean, 2))) (hn : en = pc + 2) (hk : zo_na ih (d, mi, tb, bc, bs) nc ns ea eb ec en lo st h K = true) : zW l S D cy z d mi bc bs nc ns pc lo st h K := by
  intro p e s m args below meth c C ad0 n0 ad hA hN hB H locs ls lv vs ws hR hP hD hS hl hlo hst
  subst hn
  revert hst
  revert hk
  match st with
  | [] => intro hk _; simp [zo_na] at hk
  | .inr _ :: _ => intro hk _; simp [zo_na] at hk
  | .inl n :: st' =>
    intro hk hst
    simp only [zo_na, zF_eq] at hk
    obtain ⟨u, ut, rfl, hu, hs2⟩ := hst
    have hu0 : u = .int (nI n) := hu
    subst hu0
    cases hb : (Nat.ble n 65536 && (Nat.ble (nc + 1) bc && Nat.ble (ns + n) bs)) with
    | false => rw [hb] at hk; cases hk
    | true =>
      rw [hb] at hk
      simp only [cond_true] at hk
      simp only [Bool.and_eq_true] at hb
      have hb0 : n ≤ 65536 := Nat.le_of_ble_eq_true hb.1
      have hb1 : nc + 1 ≤ bc := Nat.le_of_ble_eq_true hb.2.1
      have hb2 : ns + n ≤ bs := Nat.le_of_ble_eq_true hb.2.2
      obtain ⟨h', hk, e1, e2⟩ := zNew_to hk
      have hA0 : ∀ q, s.heap.size ≤ q → z ≤ q := fun q hq => Nat.le_trans C.2.2.2.2.2.2.2.2.2 hq
      have hneg : ¬ nI n < 0 := nI_pos (by omega)
      have hcl : (nI n).toNatClampNeg = n := nI_clamp (by omega)
      have wd : ∀ w ∈ sW S, w.before args s = true := fun w hw => C.2.2.2.2.2.1 w (List.mem_cons_of_mem _ hw)
      have fin : ∀ (q : Nat) (H1 : Heap) (ee : va_E), zGc (zAd ad h.1 q) h'.1 cy (cond (Nat.beq ea 2) (.inr (.inr (.inl n))) (.inr (.inl (ea, n, .inl 0, [])))) ee → va_P D (sCl S) (ws ++ [(q, ee)]) H1 → va_D (fun q => z ≤ q) (ws ++ [(q, ee)]) → va_S (fun q => z ≤ q) s.heap H1 locs → W p l e (zRm d bc bs) s m args below meth c H1 locs (nc + 1) (ns + n) (MQ below (zQ S D cy z ad0 n0 K) args s bc bs (fun q => z ≤ q)) (F0 m (pc + 2) ls (.ref q :: ut)) := by
        intro q H1 ee hge hP' hD' hS'
        exact hi _ _ _ _ _ _ _ _ _ _ _ _ hk ht p e s m args below meth c C ad0 n0 (zAd ad h.1 q) (fun k hkn => by rw [zAd_old k (by omega)]; exact hA k hkn) (by omega) ⟨hb1, hb2⟩ H1 locs ls lv _ _ (zR_add hR e1 e2 hge) hP' hD' hS' hl (zGl_up zAd_old (by omega) hlo) ⟨_, _, rfl, ⟨by show _ = Value.ref _; rw [zAd_new], fun k q => by cases q; omega⟩, zGs_up zAd_old (by omega) hs2⟩
      rcases hd with ⟨rfl, hd⟩ | ⟨rfl, hd⟩ | ⟨rfl, hd⟩ | ⟨rfl, hd⟩
      · refine va_newa (atype := .byte) (ty := .byte) (a0 := (n, .inl (fun _ => 0))) C.1 C.2.1 (wd _ hac.1) rfl C.2.2.2.2.2.2.2.2.1.1 hP hD hS hA0 (fun cA => rfl) hneg hcl (by simp only [componentBytes]; omega) hb1 hb2 hd (fun q cA H1 hK' hP' hD' hS' => ?_)
        have hcA := zs_cA 0 C.2.2.2.2.2.2.2.2.1.1 hK' rfl
        subst hcA
        exact fin q H1 _ ⟨fun _ => 0, rfl, fun j hj => rfl⟩ hP' hD' hS'
      · refine va_newa (atype := .int) (ty := .int) (a0 := (n, .inl (fun _ => 0))) C.1 C.2.1 (wd _ hac.2.1) rfl C.2.2.2.2.2.2.2.2.1.1 hP hD hS hA0 (fun cA => rfl) hneg hcl (by simp only [componentBytes]; omega) hb1 hb2 hd (fun q cA H1 hK' hP' hD' hS' => ?_)
        have hcA := zs_cA 1 C.2.2.2.2.2.2.2.2.1.1 hK' rfl
        subst hcA
        exact fin q H1 _ ⟨fun _ => 0, rfl, fun j hj => rfl⟩ hP' hD' hS'
      · refine va_newa (atype := .long) (ty := .long) (a0 := (n, .inr (.inl (fun _ => 0)))) C.1 C.2.1 (wd _ hac.2.2.1) rfl C.2.2.2.2.2.2.2.2.1.1 hP hD hS hA0 (fun cA => rfl) hneg hcl (by simp only [componentBytes]; omega) hb1 hb2 hd (fun q cA H1 hK' hP' hD' hS' => ?_)
        have hcA := zs_cA 2 C.2.2.2.2.2.2.2.2.1.1 hK' rfl
        subst hcA
        exact fin q H1 _ ⟨fun _ => 0, rfl⟩ hP' hD' hS'
      · refine va_newa (atype := .boolean) (ty := .boolean) (a0 := (n, .inl (fun _ => 0))) C.1 C.2.1 (wd _ hac.2.2.2) rfl C.2.2.2.2.2.2.2.2.1.1 hP hD hS hA0 (fun cA => rfl) hneg hcl (by simp only [componentBytes]; omega) hb1 hb2 hd (fun q cA H1 hK' hP' hD' hS' => ?_)
        have hcA := zs_cA 3 C.2.2.2.2.2.2.2.2.1.1 hK' rfl
        subst hcA
        exact fin q H1 _ ⟨fun _ => 0, rfl, fun j hj => rfl⟩ hP' hD' hS'
theorem zs_raq (hi : zOK l S D cy z G ih) (ht : ∃ an mc ms, zN G.1 mi = some (an, mc, ms, tb)) {x y : Nat} {C0 : String} (hd : decode (sC S mi) pc = .ok (.anewarray x, 3)) (hC : (ea = 4 ∧ C0 = "ChairAlley$State") ∨ (ea = 5 ∧ C0 = "ChairAlley$World")) (hao : C0 ∈ sAo S) (hw : (sW S)[y]? = some (.classLink (sY S mi).cls x C0)) (hn : en = pc + 3) (hk : zo_ra ih (d, mi, tb, bc, bs) nc ns ea eb ec en lo st h K = true) : zW l S D cy z d mi bc bs nc ns pc lo st h K := by
  intro p e s m args below meth c C ad0 n0 ad hA hN hB H locs ls lv vs ws hR hP hD hS hl hlo hst
  subst hn
  revert hst
  revert hk
  match st with
  | [] => intro hk _; simp [zo_ra] at hk
  | .inr _ :: _ => intro hk _; simp [zo_ra] at hk
  | .inl n :: st' =>
    intro hk hst
    simp only [zo_ra, zF_eq] at hk
    obtain ⟨u, ut, rfl, hu, hs2⟩ := hst
    have hu0 : u = .int (nI n) := hu
    subst hu0
    cases hb : (Nat.ble n 64 && (Nat.ble (nc + 1) bc && Nat.ble (ns + n) bs)) with
    | false => rw [hb] at hk; cases hk
    | true =>
      rw [hb] at hk
      simp only [cond_true] at hk
      simp only [Bool.and_eq_true] at hb
      have hb0 : n ≤ 64 := Nat.le_of_ble_eq_true hb.1
      have hb1 : nc + 1 ≤ bc := Nat.le_of_ble_eq_true hb.2.1
      have hb2 : ns + n ≤ bs := Nat.le_of_ble_eq_true hb.2.2
      obtain ⟨h', hk, e1, e2⟩ := zNew_to hk
      have hA0 : ∀ q, s.heap.size ≤ q → z ≤ q := fun q hq => Nat.le_trans C.2.2.2.2.2.2.2.2.2 hq
      have hneg : ¬ nI n < 0 := nI_pos (by omega)
      have hcl : (nI n).toNatClampNeg = n := nI_clamp (by omega)
      have hge : ∀ q : Nat, zGc (zAd ad h.1 q) h'.1 cy (.inr (.inr (.inr (ea, List.replicate n none)))) (.inl (cy ea, n, .inr (.inr (.inr (.inr (fun _ => none)))))) := fun q => ⟨fun _ => none, by rw [List.length_replicate], fun j r hj => by
        have : r = none := by
          rw [List.getElem?_replicate] at hj
          split at hj
          · cases hj; rfl
          · cases hj
        subst this
        exact ⟨rfl, fun k q => by cases q⟩⟩
      have fin : ∀ (q : Nat) (H1 : Heap), va_P D (sCl S) (ws ++ [(q, .inl (cy ea, n, .inr (.inr (.inr (.inr (fun _ => none))))))]) H1 → va_D (fun q => z ≤ q) (ws ++ [(q, .inl (cy ea, n, .inr (.inr (.inr (.inr (fun _ => none))))))]) → va_S (fun q => z ≤ q) s.heap H1 locs → W p l e (zRm d bc bs) s m args below meth c H1 locs (nc + 1) (ns + n) (MQ below (zQ S D cy z ad0 n0 K) args s bc bs (fun q => z ≤ q)) (F0 m (pc + 3) ls (.ref q :: ut)) := by
        intro q H1 hP' hD' hS'
        exact hi _ _ _ _ _ _ _ _ _ _ _ _ hk ht p e s m args below meth c C ad0 n0 (zAd ad h.1 q) (fun k hkn => by rw [zAd_old k (by omega)]; exact hA k hkn) (by omega) ⟨hb1, hb2⟩ H1 locs ls lv _ _ (zR_add hR e1 e2 (hge q)) hP' hD' hS' hl (zGl_up zAd_old (by omega) hlo) ⟨_, _, rfl, ⟨by show _ = Value.ref _; rw [zAd_new], fun k q => by cases q; omega⟩, zGs_up zAd_old (by omega) hs2⟩
      refine va_newq C.1 C.2.1 C.2.2.2.2.1 (zs_word C.2.2.2.2.2.1 hw) (C.2.2.2.2.2.2.2.2.1.2.2 _ hao) C.2.2.2.2.2.2.2.2.1.1 hP hD hS hA0 hneg hcl (by omega) hb1 hb2 hd (fun q cA H1 hK' hP' hD' hS' => ?_)
      rcases hC with ⟨rfl, rfl⟩ | ⟨rfl, rfl⟩
      · have hcA := zs_cA 4 C.2.2.2.2.2.2.2.2.1.1 hK' rfl
        subst hcA
        exact fin q H1 hP' hD' hS'
      · have hcA := zs_cA 5 C.2.2.2.2.2.2.2.2.1.1 hK' rfl
        subst hcA
        exact fin q H1 hP' hD' hS'
theorem zs_ireturn (hd : decode (sC S mi) pc = .ok (.ireturn, 1)) (hr0 : sR S mi = some .int) (hk : zo_reti ih (d, mi, tb, bc, bs) nc ns ea eb ec en lo st h K = true) : zW l S D cy z d mi bc bs nc ns pc lo st h K := by
  intro p e s m args below meth c C ad0 n0 ad hA hN hB H locs ls lv vs ws hR hP hD hS hl hlo hst
  revert hst
  revert hk
  match st with
  | [] => intro hk _; simp [zo_reti] at hk
  | _ :: _ :: _ => intro hk _; simp [zo_reti] at hk
  | [a] =>
    intro hk hst
    simp only [zo_reti] at hk
    cases hI : zIsI a with
    | false => rw [hI] at hk; cases hk
    | true =>
      rw [hI] at hk
      simp only [cond_true] at hk
      obtain ⟨v, vt, rfl, hv, hs2⟩ := hst
      have hs2 : vt = [] := hs2
      subst hs2
      obtain ⟨x, rfl, -⟩ := zG_int hI hv
      refine W.widen hB.1 hB.2 ?_
      exact W.iret C.1 C.2.1 (C.2.2.2.1.trans hr0) (fun t ht _ => ⟨_, h, _, ad, ws, hk, rfl, hv, hA, hN, hR, by rw [ht]; exact hP, hD, hS.F ht⟩) hS.2.2 hd C.2.2.2.2.2.2.1
theorem zs_zreturn (hd : decode (sC S mi) pc = .ok (.ireturn, 1)) (hr0 : sR S mi = some .boolean) (hk : zo_retz ih (d, mi, tb, bc, bs) nc ns ea eb ec en lo st h K = true) : zW l S D cy z d mi bc bs nc ns pc lo st h K := by
  intro p e s m args below meth c C ad0 n0 ad hA hN hB H locs ls lv vs ws hR hP hD hS hl hlo hst
  revert hst
  revert hk
  match st with
  | [] => intro hk _; simp [zo_retz] at hk
  | .inr _ :: _ => intro hk _; simp [zo_retz] at hk
  | .inl _ :: _ :: _ => intro hk _; simp [zo_retz] at hk
  | [.inl c0] =>
    intro hk hst
    simp only [zo_retz] at hk
    cases hb : Nat.blt c0 2 with
    | false => rw [hb] at hk; cases hk
    | true =>
      rw [hb] at hk
      simp only [cond_true] at hk
      have hb : c0 < 2 := by simpa [Nat.blt_eq] using hb
      obtain ⟨v, vt, rfl, hv, hs2⟩ := hst
      have hs2 : vt = [] := hs2
      subst hs2
      have hv0 : v = .int (nI c0) := hv
      subst hv0
      refine W.widen hB.1 hB.2 ?_
      refine W.zret C.1 C.2.1 (C.2.2.2.1.trans hr0) ?_ (fun t ht _ => ⟨_, h, _, ad, ws, hk, rfl, hv, hA, hN, hR, by rw [ht]; exact hP, hD, hS.F ht⟩) hS.2.2 hd C.2.2.2.2.2.2.1
      match c0, hb with
      | 0, _ => rfl
      | 1, _ => rfl
theorem zs_return (hd : decode (sC S mi) pc = .ok (.return_, 1)) (hr0 : sR S mi = none) (hk : zo_ret ih (d, mi, tb, bc, bs) nc ns ea eb ec en lo st h K = true) : zW l S D cy z d mi bc bs nc ns pc lo st h K := by
  intro p e s m args below meth c C ad0 n0 ad hA hN hB H locs ls lv vs ws hR hP hD hS hl hlo hst
  revert hst
  revert hk
  match st with
  | _ :: _ => intro hk _; simp [zo_ret] at hk
  | [] =>
    intro hk hst
    simp only [zo_ret] at hk
    have hs2 : vs = [] := hst
    subst hs2
    refine W.widen hB.1 hB.2 ?_
    exact W.vret C.1 C.2.1 (C.2.2.2.1.trans hr0) (fun t ht _ => ⟨none, h, none, ad, ws, hk, rfl, trivial, hA, hN, hR, by rw [ht]; exact hP, hD, hS.F ht⟩) hS.2.2 hd C.2.2.2.2.2.2.1
end Sn7
