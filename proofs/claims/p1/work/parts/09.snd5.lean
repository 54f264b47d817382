theorem zRd_cons (dd : zI) (u : Nat × zI) (us : List (Nat × zI)) (j : Nat) : zRd dd (u :: us) j = if u.1 = j then u.2 else zRd dd us j := by
  show cond (Nat.beq u.1 j) u.2 (zRd dd us j) = _
  cases hb : Nat.beq u.1 j with
  | true => rw [if_pos (Nat.eq_of_beq_eq_true hb)]; rfl
  | false => rw [if_neg (fun q => by rw [q] at hb; simp at hb)]; rfl
theorem zUpd_ok {dd : zI} {us : List (Nat × zI)} {n i : Nat} {f : Nat → Int32} {a : zI} {x : Int32} (hf : ∀ j, j < n → zGi (zRd dd us j) (f j)) (ha : zGi a x) : ∀ j, j < n → zGi (zRd dd ((i, a) :: us) j) (upd f i x j) := by
  intro j hj
  rw [zRd_cons]
  by_cases hij : i = j
  · rw [if_pos hij, ← hij, pk_us]; exact ha
  · rw [if_neg hij, pk_un (fun q => hij q.symm)]; exact hf j hj
theorem zUp_ok {dd : zI} {us : List (Nat × zI)} {n i : Nat} {f : Nat → Int32} {a : zI} {x : Int32} (hf : ∀ j, j < n → zGi (zRd dd us j) (f j)) (ha : zGi a x) : ∀ j, j < n → zGi (zRd dd (zUp dd us i a) j) (upd f i x j) := by
  cases us with
  | nil =>
    match dd, a, hf, ha with
    | .inl c, .inl c', hf, ha =>
      show ∀ j, j < n → zGi (zRd (.inl c) (cond (Nat.beq c c') [] [(i, .inl c')]) j) (upd f i x j)
      cases hb : Nat.beq c c' with
      | false => exact zUpd_ok hf ha
      | true =>
        have hb := Nat.eq_of_beq_eq_true hb
        subst hb
        intro j hj
        show zGi (.inl c) _
        by_cases hij : i = j
        · rw [← hij, pk_us]; exact ha
        · rw [pk_un (fun q => hij q.symm)]; exact hf j hj
    | .inl _, .inr _, hf, ha => exact zUpd_ok hf ha
    | .inr _, .inl _, hf, ha => exact zUpd_ok hf ha
    | .inr _, .inr _, hf, ha => exact zUpd_ok hf ha
  | cons u t =>
    show ∀ j, j < n → zGi (zRd dd (cond (Nat.beq u.1 i) ((i, a) :: t) ((i, a) :: u :: t)) j) (upd f i x j)
    cases hb : Nat.beq u.1 i with
    | false => exact zUpd_ok hf ha
    | true =>
      have hb := Nat.eq_of_beq_eq_true hb
      intro j hj
      rw [cond_true, zRd_cons]
      by_cases hij : i = j
      · rw [if_pos hij, ← hij, pk_us]; exact ha
      · have h1 := hf j hj
        rw [zRd_cons, if_neg (fun q => hij (hb ▸ q))] at h1
        rw [if_neg hij, pk_un (fun q => hij q.symm)]
        exact h1
theorem zUp_nil {dd : zI} {us : List (Nat × zI)} {i : Nat} {a : zI} (h : zUp dd us i a = []) : us = [] := by
  cases us with
  | nil => rfl
  | cons u t =>
    have h : cond (Nat.beq u.1 i) ((i, a) :: t) ((i, a) :: u :: t) = [] := h
    cases hb : Nat.beq u.1 i <;> rw [hb] at h <;> cases h
theorem zs_and1 (c : Nat) : nI c &&& 1 = nI (c % 2) := by
  rw [pk_and (nI c) (m := 1) 1 (by decide)]
  have h : (nI c).toBitVec.toNat = c % 4294967296 := by
    show (Int32.ofNat c).toBitVec.toNat = _
    simp
  rw [h]
  congr 1
  omega
/-- what a row keeps of an int stands for what the machine keeps -/
theorem zNar_ok {ad : Nat → Nat} {bn k : Nat} {a : zV} {x : Int32} {ty : FieldType} (hk : (k = 0 ∧ ty = .byte) ∨ (k = 1 ∧ ty = .int) ∨ (k = 3 ∧ ty = .boolean)) (hg : zG ad bn a (.int x)) : zGi (zNar k a) (vp_nar ty x) := by
  have top : ∀ y : Int32, zGi (.inr zTop) y := fun y => ⟨Nat.zero_le _, zB_max y⟩
  rcases hk with ⟨rfl, rfl⟩ | ⟨rfl, rfl⟩ | ⟨rfl, rfl⟩
  · cases a <;> exact top _
  · match a, hg with
    | .inl c, hg =>
      have h1 : Value.int x = .int (nI c) := hg
      cases h1
      rfl
    | .inr (.inl r), hg =>
      obtain ⟨y, hy, h1, h2⟩ := hg
      cases hy
      exact ⟨h1, h2⟩
    | .inr (.inr _), hg => exact top _
  · match a, hg with
    | .inl c, hg =>
      have h1 : Value.int x = .int (nI c) := hg
      cases h1
      show nI c &&& 1 = nI (c % 2)
      exact zs_and1 c
    | .inr _, hg => exact top _
theorem zs_in {i n : Nat} (h1 : i < n) (h2 : i < 2147483648) : vp_in (nI i) n := by
  rw [vp_in_iff, nI_toInt (n := i) (by omega)]
  omega
section Sn5
variable {l : Launch} {S : zS} {D : va_G} {cy : Nat → ClassId} {z : Nat} {G : zG0} {ih : zHo} {d mi : Nat} {tb : zT} {bc bs nc ns pc ea eb ec en : Nat} {lo : zL} {st : List zV} {h : zHp} {K : zKo}
theorem zs_ild (ok : Nat → Bool) (hok : (ok = zk1 ∧ decode (sC S mi) pc = .ok (.iaload, 1)) ∨ (ok = zk03 ∧ decode (sC S mi) pc = .ok (.baload, 1))) (hi : zOK l S D cy z G ih) (ht : ∃ an mc ms, zN G.1 mi = some (an, mc, ms, tb)) (hn : en = pc + 1) (hk : zo_ild ok ih (d, mi, tb, bc, bs) nc ns ea eb ec en lo st h K = true) : zW l S D cy z d mi bc bs nc ns pc lo st h K := by
  intro p e s m args below meth c C ad0 n0 ad hA hN hB H locs ls lv vs ws hR hP hD hS hl hlo hst
  subst hn
  revert hst
  revert hk
  match st with
  | [] => intro hk _; simp [zo_ild] at hk
  | [.inl _] => intro hk _; simp [zo_ild] at hk
  | .inr _ :: _ => intro hk _; simp [zo_ild] at hk
  | .inl _ :: .inl _ :: _ => intro hk _; simp [zo_ild] at hk
  | .inl _ :: .inr (.inl _) :: _ => intro hk _; simp [zo_ild] at hk
  | .inl _ :: .inr (.inr (.inl _)) :: _ => intro hk _; simp [zo_ild] at hk
  | .inl _ :: .inr (.inr (.inr none)) :: _ => intro hk _; simp [zo_ild] at hk
  | .inl i :: .inr (.inr (.inr (some q))) :: st' =>
    intro hk hst
    simp only [zo_ild, zF_eq] at hk
    obtain ⟨u, ut, rfl, hu, v, vt, rfl, hv, hs2⟩ := hst
    have hu0 : u = .int (nI i) := hu
    subst hu0
    have hv0 : v = .ref (ad q) := hv.1
    subst hv0
    cases hq : zGet h q with
    | none => rw [hq] at hk; cases hk
    | some cell =>
      rw [hq] at hk
      obtain ⟨ee, he, hge⟩ := hR.2.2 q cell hq
      revert hge
      revert hk
      match cell with
      | .inl _ => intro hk _; cases hk
      | .inr (.inr (.inl _)) => intro hk _; cases hk
      | .inr (.inr (.inr _)) => intro hk _; cases hk
      | .inr (.inl (k, n, dd, us)) =>
        intro hk hge
        obtain ⟨f, rfl, hf⟩ := hge
        dsimp only at hk
        cases hb : (ok k && (Nat.blt i n && Nat.ble n 65536)) with
        | false => rw [hb] at hk; cases hk
        | true =>
          rw [hb] at hk
          simp only [cond_true] at hk
          simp only [Bool.and_eq_true, Nat.blt_eq] at hb
          have hn6 : n ≤ 65536 := Nat.le_of_ble_eq_true hb.2.2
          have hin : vp_in (nI i) n := zs_in hb.2.1 (by omega)
          have hcl : (nI i).toNatClampNeg = i := nI_clamp (by omega)
          have kk : W p l e (zRm d bc bs) s m args below meth c H locs nc ns (MQ below (zQ S D cy z ad0 n0 K) args s bc bs (fun q => z ≤ q)) (F0 m (pc + 1) ls (.int (f (nI i).toNatClampNeg) :: vt)) := by
            rw [hcl]
            have hfi := hf i hb.2.1
            cases hr : zRd dd us i with
            | inl c0 =>
              rw [hr] at hk hfi
              exact hi _ _ _ _ _ _ _ _ _ _ _ _ hk ht p e s m args below meth c C ad0 n0 ad hA hN hB H locs ls lv _ ws hR hP hD hS hl hlo ⟨_, _, rfl, (by rw [show f i = _ from hfi]; exact rfl), hs2⟩
            | inr r =>
              rw [hr] at hk hfi
              exact hi _ _ _ _ _ _ _ _ _ _ _ _ hk ht p e s m args below meth c C ad0 n0 ad hA hN hB H locs ls lv _ ws hR hP hD hS hl hlo ⟨_, _, rfl, ⟨_, rfl, hfi⟩, hs2⟩
          rcases hok with ⟨rfl, hd⟩ | ⟨rfl, hd⟩
          · have hk1 : k = 1 := Nat.eq_of_beq_eq_true hb.1
            subst hk1
            exact va_iald C.1 C.2.1 C.2.2.2.2.2.2.2.2.1.1 hP q 1 he rfl hin hd kk
          · have hk1 : k = 0 ∨ k = 3 := by have := hb.1; simpa [zk03, Nat.beq_eq] using this
            rcases hk1 with rfl | rfl
            · exact va_bald C.1 C.2.1 C.2.2.2.2.2.2.2.2.1.1 hP q 0 he rfl hin hd kk
            · exact va_zald C.1 C.2.1 C.2.2.2.2.2.2.2.2.1.1 hP q 3 he rfl hin hd kk
theorem zs_ist (ok : Nat → Bool) (hok : (ok = zk1 ∧ decode (sC S mi) pc = .ok (.iastore, 1)) ∨ (ok = zk03 ∧ decode (sC S mi) pc = .ok (.bastore, 1))) (hi : zOK l S D cy z G ih) (ht : ∃ an mc ms, zN G.1 mi = some (an, mc, ms, tb)) (hn : en = pc + 1) (hk : zo_ist ok ih (d, mi, tb, bc, bs) nc ns ea eb ec en lo st h K = true) : zW l S D cy z d mi bc bs nc ns pc lo st h K := by
  intro p e s m args below meth c C ad0 n0 ad hA hN hB H locs ls lv vs ws hR hP hD hS hl hlo hst
  subst hn
  revert hst
  revert hk
  match st with
  | [] => intro hk _; simp [zo_ist] at hk
  | [_] => intro hk _; simp [zo_ist] at hk
  | [_, .inl _] => intro hk _; simp [zo_ist] at hk
  | _ :: .inr _ :: _ => intro hk _; simp [zo_ist] at hk
  | _ :: .inl _ :: .inl _ :: _ => intro hk _; simp [zo_ist] at hk
  | _ :: .inl _ :: .inr (.inl _) :: _ => intro hk _; simp [zo_ist] at hk
  | _ :: .inl _ :: .inr (.inr (.inl _)) :: _ => intro hk _; simp [zo_ist] at hk
  | _ :: .inl _ :: .inr (.inr (.inr none)) :: _ => intro hk _; simp [zo_ist] at hk
  | a :: .inl i :: .inr (.inr (.inr (some q))) :: st' =>
    intro hk hst
    simp only [zo_ist, zF_eq] at hk
    obtain ⟨w, wt, rfl, hw, u, ut, rfl, hu, v, vt, rfl, hv, hs2⟩ := hst
    have hu0 : u = .int (nI i) := hu
    subst hu0
    have hv0 : v = .ref (ad q) := hv.1
    subst hv0
    cases hq : zGet h q with
    | none => rw [hq] at hk; cases hk
    | some cell =>
      rw [hq] at hk
      obtain ⟨ee, he, hge⟩ := hR.2.2 q cell hq
      revert hq
      revert hge
      revert hk
      match cell with
      | .inl _ => intro hk _ _; cases hk
      | .inr (.inr (.inl _)) => intro hk _ _; cases hk
      | .inr (.inr (.inr _)) => intro hk _ _; cases hk
      | .inr (.inl (k, n, dd, us)) =>
        intro hk hge hq
        obtain ⟨f, rfl, hf⟩ := hge
        dsimp only at hk
        cases hb : (ok k && (zIsI a && (Nat.blt i n && Nat.ble n 65536))) with
        | false => rw [hb] at hk; cases hk
        | true =>
          rw [hb] at hk
          simp only [cond_true] at hk
          simp only [Bool.and_eq_true, Nat.blt_eq] at hb
          obtain ⟨x, rfl, -, -⟩ := zG_int hb.2.1 hw
          have hn6 : n ≤ 65536 := Nat.le_of_ble_eq_true hb.2.2.2
          have hin : vp_in (nI i) n := zs_in hb.2.2.1 (by omega)
          have hcl : (nI i).toNatClampNeg = i := nI_clamp (by omega)
          have kk : ∀ (ty : FieldType), ((k = 0 ∧ ty = .byte) ∨ (k = 1 ∧ ty = .int) ∨ (k = 3 ∧ ty = .boolean)) → ∀ (H1 : Heap) (locs1 : List Loc), va_P D (sCl S) (ws.set q (ad q, .inl (cy k, n, .inl (upd f (nI i).toNatClampNeg (vp_nar ty x))))) H1 → va_D (fun q => z ≤ q) (ws.set q (ad q, .inl (cy k, n, .inl (upd f (nI i).toNatClampNeg (vp_nar ty x))))) → va_S (fun q => z ≤ q) s.heap H1 locs1 → W p l e (zRm d bc bs) s m args below meth c H1 locs1 nc ns (MQ below (zQ S D cy z ad0 n0 K) args s bc bs (fun q => z ≤ q)) (F0 m (pc + 1) ls vt) := by
            intro ty hty H1 locs1 hP' hD' hS'
            rw [hcl] at hP' hD'
            have hnar := zNar_ok hty hw
            cases hz : zNar k a with
            | inl c0 =>
              rw [hz] at hk hnar
              dsimp only at hk
              have hup := zUp_ok (i := i) hf hnar
              cases hus : zUp dd us i (.inl c0) with
              | nil =>
                rw [hus] at hk hup
                have hus0 := zUp_nil hus
                subst hus0
                have hR' := zR_set (h' := h) (c := .inr (.inl (k, n, dd, []))) (e := .inl (cy k, n, .inl (upd f i (vp_nar ty x)))) hR hq rfl (fun j => by by_cases hj : j = q <;> simp [hj, hq]) ⟨_, rfl, hup⟩
                exact hi _ _ _ _ _ _ _ _ _ _ _ _ hk ht p e s m args below meth c C ad0 n0 ad hA hN hB H1 locs1 ls lv _ _ hR' hP' hD' hS' hl hlo hs2
              | cons u us' =>
                rw [hus] at hk hup
                obtain ⟨h', hk, e1, e2⟩ := zPut_to hk
                have hR' := zR_set (e := .inl (cy k, n, .inl (upd f i (vp_nar ty x)))) hR hq e1 e2 ⟨_, rfl, hup⟩
                exact hi _ _ _ _ _ _ _ _ _ _ _ _ hk ht p e s m args below meth c C ad0 n0 ad hA (by rw [e1]; exact hN) hB H1 locs1 ls lv _ _ hR' hP' hD' hS' hl (by rw [e1]; exact hlo) (by rw [e1]; exact hs2)
            | inr r =>
              rw [hz] at hk hnar
              dsimp only at hk
              have hup := zUpd_ok (i := i) hf hnar
              obtain ⟨h', hk, e1, e2⟩ := zPut_to hk
              have hR' := zR_set (e := .inl (cy k, n, .inl (upd f i (vp_nar ty x)))) hR hq e1 e2 ⟨_, rfl, hup⟩
              exact hi _ _ _ _ _ _ _ _ _ _ _ _ hk ht p e s m args below meth c C ad0 n0 ad hA (by rw [e1]; exact hN) hB H1 locs1 ls lv _ _ hR' hP' hD' hS' hl (by rw [e1]; exact hlo) (by rw [e1]; exact hs2)
          rcases hok with ⟨rfl, hd⟩ | ⟨rfl, hd⟩
          · have hk1 : k = 1 := Nat.eq_of_beq_eq_true hb.1
            have kk := kk .int (Or.inr (Or.inl ⟨hk1, rfl⟩))
            subst hk1
            exact va_iast C.1 C.2.1 C.2.2.2.2.2.2.2.2.1.1 hP hD hS q 1 he rfl hin hd kk
          · have hk1 : k = 0 ∨ k = 3 := by have := hb.1; simpa [zk03, Nat.beq_eq] using this
            rcases hk1 with hk1 | hk1
            · have kk := kk .byte (Or.inl ⟨hk1, rfl⟩)
              subst hk1
              exact va_bast C.1 C.2.1 C.2.2.2.2.2.2.2.2.1.1 hP hD hS q 0 he rfl hin hd kk
            · have kk := kk .boolean (Or.inr (Or.inr ⟨hk1, rfl⟩))
              subst hk1
              exact va_zast C.1 C.2.1 C.2.2.2.2.2.2.2.2.1.1 hP hD hS q 3 he rfl hin hd kk
end Sn5
