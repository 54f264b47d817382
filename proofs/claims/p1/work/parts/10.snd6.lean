/-- the classes that rows of references take -/
def zRaOk (S : zS) : Prop := (∃ T N, (sCl S)[5]? = some ("ChairAlley$State", T, N)) ∧ ∃ T N, (sCl S)[9]? = some ("ChairAlley$World", T, N)
/-- what a blank field is on the machine -/
def zDv (a : zV) : Value := match a with
  | .inl c => .int (nI c)
  | .inr (.inl _) => .int 0
  | .inr (.inr (.inl _)) => .long 0
  | .inr (.inr (.inr _)) => .null
/-- a blank value -/
def zBl (a : zV) : Prop := a = .inl 0 ∨ a = zLng ∨ a = zRef none
theorem zs_blank {ad : Nat → Nat} {bn : Nat} : ∀ (fs : List zV), (∀ a ∈ fs, zBl a) → zGs ad bn fs (fs.map zDv) := by
  intro fs
  induction fs with
  | nil => intro _; rfl
  | cons a t ih =>
    intro h
    refine ⟨_, _, rfl, ?_, ih (fun b hb => h b (List.mem_cons_of_mem _ hb))⟩
    rcases h a List.mem_cons_self with rfl | rfl | rfl
    · exact rfl
    · exact ⟨0, rfl⟩
    · exact ⟨rfl, fun k q => by cases q⟩
/-- what is known of the classes that are made: their blank fields -/
def zMk (S : zS) (G : zG0) : Prop := ∀ (ci : Nat) (fs : List zV), G.2.1[ci]? = some fs → ∃ (C : String) (T : u_T) (N : Nat) (ty : Nat → FieldType), (sCl S)[ci]? = some (C, T, N) ∧ (∀ k, k < N → parseFieldDescriptor (T k).2.2.1 = some (ty k)) ∧ (∀ a ∈ fs, zBl a) ∧ (∀ j, j < N → defaultValue (ty j) = vp_V (fs.map zDv) j) ∧ Jvm.Cond.instantiable C N ∈ sW S ∧ Jvm.Cond.initialized C ∈ sW S
theorem zs_ra {s : State} {c1 c2 : ClassId} {ty : FieldType} (h1 : va_RA s c1 ty) (h2 : va_RA s c2 ty) : c1 = c2 := by
  cases ty with
  | object C =>
    obtain ⟨-, -, -, -, -, h1⟩ := h1
    obtain ⟨-, -, -, -, -, h2⟩ := h2
    rw [h1] at h2
    exact Option.some.inj h2
  | _ =>
    have h1 : s.vm.findClass _ = some c1 := h1
    have h2 : s.vm.findClass _ = some c2 := h2
    rw [h1] at h2
    exact Option.some.inj h2
theorem zs_cA {D : va_G} {cl : List vw_C} {cy : Nat → ClassId} {s : State} {cA : ClassId} {ty : FieldType} (t : Nat) (hK : va_K D cl (zTys cy) s) (hK' : va_K D cl (zTys cy ++ [(cA, ty)]) s) (ht : (zTys cy)[t]? = some (cy t, ty)) : cA = cy t :=
  zs_ra (hK'.2 6 (cA, ty) rfl).2 (hK.2 t _ ht).2
section Sn6
variable {l : Launch} {S : zS} {D : va_G} {cy : Nat → ClassId} {z : Nat} {G : zG0} {ih : zHo} {d mi : Nat} {tb : zT} {bc bs nc ns pc ea eb ec en : Nat} {lo : zL} {st : List zV} {h : zHp} {K : zKo}
theorem zs_lald (hi : zOK l S D cy z G ih) (ht : ∃ an mc ms, zN G.1 mi = some (an, mc, ms, tb)) (hd : decode (sC S mi) pc = .ok (.laload, 1)) (hn : en = pc + 1) (hk : zo_lld ih (d, mi, tb, bc, bs) nc ns ea eb ec en lo st h K = true) : zW l S D cy z d mi bc bs nc ns pc lo st h K := by
  intro p e s m args below meth c C ad0 n0 ad hA hN hB H locs ls lv vs ws hR hP hD hS hl hlo hst
  subst hn
  revert hst
  revert hk
  match st with
  | [] => intro hk _; simp [zo_lld] at hk
  | [.inl _] => intro hk _; simp [zo_lld] at hk
  | .inr _ :: _ => intro hk _; simp [zo_lld] at hk
  | .inl _ :: .inl _ :: _ => intro hk _; simp [zo_lld] at hk
  | .inl _ :: .inr (.inl _) :: _ => intro hk _; simp [zo_lld] at hk
  | .inl _ :: .inr (.inr (.inl _)) :: _ => intro hk _; simp [zo_lld] at hk
  | .inl _ :: .inr (.inr (.inr none)) :: _ => intro hk _; simp [zo_lld] at hk
  | .inl i :: .inr (.inr (.inr (some q))) :: st' =>
    intro hk hst
    simp only [zo_lld] at hk
    obtain ⟨u, ut, rfl, hu, v, vt, rfl, hv, hs2⟩ := hst
    have hu0 : u = .int (nI i) := hu
    subst hu0
    have hv0 : v = .ref (ad q) := hv.1
    subst hv0
    cases hq : zGet h q with
    | none => rw [hq] at hk; cases hk
    | some cell =>
      rw [hq] at hk
      obtain ⟨ee, he, hge⟩ := hR.2.2 q cell hq
      revert hge
      revert hk
      match cell with
      | .inl _ => intro hk _; cases hk
      | .inr (.inl _) => intro hk _; cases hk
      | .inr (.inr (.inr _)) => intro hk _; cases hk
      | .inr (.inr (.inl n)) =>
        intro hk hge
        obtain ⟨f, rfl⟩ := hge
        dsimp only at hk
        cases hb : (Nat.blt i n && Nat.ble n 65536) with
        | false => rw [hb] at hk; cases hk
        | true =>
          rw [hb] at hk
          simp only [cond_true] at hk
          simp only [Bool.and_eq_true, Nat.blt_eq] at hb
          have hn6 : n ≤ 65536 := Nat.le_of_ble_eq_true hb.2
          exact va_lald C.1 C.2.1 C.2.2.2.2.2.2.2.2.1.1 hP q 2 he rfl (zs_in hb.1 (by omega)) hd (hi _ _ _ _ _ _ _ _ _ _ _ _ hk ht p e s m args below meth c C ad0 n0 ad hA hN hB H locs ls lv _ ws hR hP hD hS hl hlo ⟨_, _, rfl, ⟨_, rfl⟩, hs2⟩)
theorem zs_last (hi : zOK l S D cy z G ih) (ht : ∃ an mc ms, zN G.1 mi = some (an, mc, ms, tb)) (hd : decode (sC S mi) pc = .ok (.lastore, 1)) (hn : en = pc + 1) (hk : zo_lst ih (d, mi, tb, bc, bs) nc ns ea eb ec en lo st h K = true) : zW l S D cy z d mi bc bs nc ns pc lo st h K := by
  intro p e s m args below meth c C ad0 n0 ad hA hN hB H locs ls lv vs ws hR hP hD hS hl hlo hst
  subst hn
  revert hst
  revert hk
  match st with
  | [] => intro hk _; simp [zo_lst] at hk
  | .inl _ :: _ => intro hk _; simp [zo_lst] at hk
  | .inr (.inl _) :: _ => intro hk _; simp [zo_lst] at hk
  | .inr (.inr (.inr _)) :: _ => intro hk _; simp [zo_lst] at hk
  | [.inr (.inr (.inl _))] => intro hk _; simp [zo_lst] at hk
  | .inr (.inr (.inl _)) :: .inr _ :: _ => intro hk _; simp [zo_lst] at hk
  | [.inr (.inr (.inl _)), .inl _] => intro hk _; simp [zo_lst] at hk
  | .inr (.inr (.inl _)) :: .inl _ :: .inl _ :: _ => intro hk _; simp [zo_lst] at hk
  | .inr (.inr (.inl _)) :: .inl _ :: .inr (.inl _) :: _ => intro hk _; simp [zo_lst] at hk
  | .inr (.inr (.inl _)) :: .inl _ :: .inr (.inr (.inl _)) :: _ => intro hk _; simp [zo_lst] at hk
  | .inr (.inr (.inl _)) :: .inl _ :: .inr (.inr (.inr none)) :: _ => intro hk _; simp [zo_lst] at hk
  | .inr (.inr (.inl _)) :: .inl i :: .inr (.inr (.inr (some q))) :: st' =>
    intro hk hst
    simp only [zo_lst] at hk
    obtain ⟨w, wt, rfl, hw, u, ut, rfl, hu, v, vt, rfl, hv, hs2⟩ := hst
    obtain ⟨x, rfl⟩ := hw
    have hu0 : u = .int (nI i) := hu
    subst hu0
    have hv0 : v = .ref (ad q) := hv.1
    subst hv0
    cases hq : zGet h q with
    | none => rw [hq] at hk; cases hk
    | some cell =>
      rw [hq] at hk
      obtain ⟨ee, he, hge⟩ := hR.2.2 q cell hq
      revert hq
      revert hge
      revert hk
      match cell with
      | .inl _ => intro hk _ _; cases hk
      | .inr (.inl _) => intro hk _ _; cases hk
      | .inr (.inr (.inr _)) => intro hk _ _; cases hk
      | .inr (.inr (.inl n)) =>
        intro hk hge hq
        obtain ⟨f, rfl⟩ := hge
        dsimp only at hk
        cases hb : (Nat.blt i n && Nat.ble n 65536) with
        | false => rw [hb] at hk; cases hk
        | true =>
          rw [hb] at hk
          simp only [cond_true] at hk
          simp only [Bool.and_eq_true, Nat.blt_eq] at hb
          have hn6 : n ≤ 65536 := Nat.le_of_ble_eq_true hb.2
          refine va_last C.1 C.2.1 C.2.2.2.2.2.2.2.2.1.1 hP hD hS q 2 he rfl (zs_in hb.1 (by omega)) hd (fun H1 locs1 hP' hD' hS' => ?_)
          have hR' := zR_set (h' := h) (c := .inr (.inr (.inl n))) (e := .inl (cy 2, n, .inr (.inl (vp_updL f (nI i).toNatClampNeg x)))) hR hq rfl (fun j => by by_cases hj : j = q <;> simp [hj, hq]) ⟨_, rfl⟩
          exact hi _ _ _ _ _ _ _ _ _ _ _ _ hk ht p e s m args below meth c C ad0 n0 ad hA hN hB H1 locs1 ls lv _ _ hR' hP' hD' hS' hl hlo hs2
theorem zs_aald (hi : zOK l S D cy z G ih) (ht : ∃ an mc ms, zN G.1 mi = some (an, mc, ms, tb)) (hd : decode (sC S mi) pc = .ok (.aaload, 1)) (hn : en = pc + 1) (hk : zo_ald ih (d, mi, tb, bc, bs) nc ns ea eb ec en lo st h K = true) : zW l S D cy z d mi bc bs nc ns pc lo st h K := by
  intro p e s m args below meth c C ad0 n0 ad hA hN hB H locs ls lv vs ws hR hP hD hS hl hlo hst
  subst hn
  revert hst
  revert hk
  match st with
  | [] => intro hk _; simp [zo_ald] at hk
  | [.inl _] => intro hk _; simp [zo_ald] at hk
  | .inr _ :: _ => intro hk _; simp [zo_ald] at hk
  | .inl _ :: .inl _ :: _ => intro hk _; simp [zo_ald] at hk
  | .inl _ :: .inr (.inl _) :: _ => intro hk _; simp [zo_ald] at hk
  | .inl _ :: .inr (.inr (.inl _)) :: _ => intro hk _; simp [zo_ald] at hk
  | .inl _ :: .inr (.inr (.inr none)) :: _ => intro hk _; simp [zo_ald] at hk
  | .inl i :: .inr (.inr (.inr (some q))) :: st' =>
    intro hk hst
    simp only [zo_ald, zN_eq] at hk
    obtain ⟨u, ut, rfl, hu, v, vt, rfl, hv, hs2⟩ := hst
    have hu0 : u = .int (nI i) := hu
    subst hu0
    have hv0 : v = .ref (ad q) := hv.1
    subst hv0
    cases hq : zGet h q with
    | none => rw [hq] at hk; cases hk
    | some cell =>
      rw [hq] at hk
      obtain ⟨ee, he, hge⟩ := hR.2.2 q cell hq
      revert hge
      revert hk
      match cell with
      | .inl _ => intro hk _; cases hk
      | .inr (.inl _) => intro hk _; cases hk
      | .inr (.inr (.inl _)) => intro hk _; cases hk
      | .inr (.inr (.inr (k, rs))) =>
        intro hk hge
        obtain ⟨f, rfl, hf⟩ := hge
        dsimp only at hk
        cases hr : rs[i]? with
        | none => rw [hr] at hk; cases hk
        | some r =>
          rw [hr] at hk
          dsimp only at hk
          cases hb : (Nat.ble i 64 && (Nat.beq k 4 || Nat.beq k 5)) with
          | false => rw [hb] at hk; cases hk
          | true =>
            rw [hb] at hk
            simp only [cond_true] at hk
            simp only [Bool.and_eq_true] at hb
            have hi6 : i ≤ 64 := Nat.le_of_ble_eq_true hb.1
            have hk4 : k = 4 ∨ k = 5 := by simpa [Nat.beq_eq] using hb.2
            have hlt : i < rs.length := (List.getElem?_eq_some_iff.mp hr).1
            have hcl : (nI i).toNatClampNeg = i := nI_clamp (by omega)
            obtain ⟨f1, f2⟩ := hf i r hr
            have kk : W p l e (zRm d bc bs) s m args below meth c H locs nc ns (MQ below (zQ S D cy z ad0 n0 K) args s bc bs (fun q => z ≤ q)) (F0 m (pc + 1) ls (va_rf (f (nI i).toNatClampNeg) :: vt)) := by
              rw [hcl]
              exact hi _ _ _ _ _ _ _ _ _ _ _ _ hk ht p e s m args below meth c C ad0 n0 ad hA hN hB H locs ls lv _ ws hR hP hD hS hl hlo ⟨_, _, rfl, ⟨by rw [f1], f2⟩, hs2⟩
            rcases hk4 with rfl | rfl
            · exact va_aldq C.1 C.2.1 C.2.2.2.2.2.2.2.2.1.1 hP q 4 he rfl (zs_in hlt (by omega)) hd kk
            · exact va_aldq C.1 C.2.1 C.2.2.2.2.2.2.2.2.1.1 hP q 5 he rfl (zs_in hlt (by omega)) hd kk
theorem zs_aast (hra : zRaOk S) (hi : zOK l S D cy z G ih) (ht : ∃ an mc ms, zN G.1 mi = some (an, mc, ms, tb)) (hd : decode (sC S mi) pc = .ok (.aastore, 1)) (hn : en = pc + 1) (hk : zo_ast ih (d, mi, tb, bc, bs) nc ns ea eb ec en lo st h K = true) : zW l S D cy z d mi bc bs nc ns pc lo st h K := by
  intro p e s m args below meth c C ad0 n0 ad hA hN hB H locs ls lv vs ws hR hP hD hS hl hlo hst
  subst hn
  revert hst
  revert hk
  match st with
  | [] => intro hk _; simp [zo_ast] at hk
  | .inl _ :: _ => intro hk _; simp [zo_ast] at hk
  | .inr (.inl _) :: _ => intro hk _; simp [zo_ast] at hk
  | .inr (.inr (.inl _)) :: _ => intro hk _; simp [zo_ast] at hk
  | .inr (.inr (.inr none)) :: _ => intro hk _; simp [zo_ast] at hk
  | [.inr (.inr (.inr (some _)))] => intro hk _; simp [zo_ast] at hk
  | .inr (.inr (.inr (some _))) :: .inr _ :: _ => intro hk _; simp [zo_ast] at hk
  | [.inr (.inr (.inr (some _))), .inl _] => intro hk _; simp [zo_ast] at hk
  | .inr (.inr (.inr (some _))) :: .inl _ :: .inl _ :: _ => intro hk _; simp [zo_ast] at hk
  | .inr (.inr (.inr (some _))) :: .inl _ :: .inr (.inl _) :: _ => intro hk _; simp [zo_ast] at hk
  | .inr (.inr (.inr (some _))) :: .inl _ :: .inr (.inr (.inl _)) :: _ => intro hk _; simp [zo_ast] at hk
  | .inr (.inr (.inr (some _))) :: .inl _ :: .inr (.inr (.inr none)) :: _ => intro hk _; simp [zo_ast] at hk
  | .inr (.inr (.inr (some g))) :: .inl i :: .inr (.inr (.inr (some q))) :: st' =>
    intro hk hst
    simp only [zo_ast] at hk
    obtain ⟨w, wt, rfl, hw, u, ut, rfl, hu, v, vt, rfl, hv, hs2⟩ := hst
    have hw0 : w = .ref (ad g) := hw.1
    subst hw0
    have hu0 : u = .int (nI i) := hu
    subst hu0
    have hv0 : v = .ref (ad q) := hv.1
    subst hv0
    cases hq : zGet h q with
    | none => rw [hq] at hk; cases hk
    | some cell =>
      rw [hq] at hk
      obtain ⟨ee, he, hge⟩ := hR.2.2 q cell hq
      revert hq
      revert hge
      revert hk
      match cell with
      | .inl _ => intro hk _ _; cases hk
      | .inr (.inl _) => intro hk _ _; cases hk
      | .inr (.inr (.inl _)) => intro hk _ _; cases hk
      | .inr (.inr (.inr (k, rs))) =>
        intro hk hge hq
        obtain ⟨f, rfl, hf⟩ := hge
        cases hq2 : zGet h g with
        | none => rw [hq2] at hk; cases hk
        | some cell2 =>
          rw [hq2] at hk
          obtain ⟨e2, he2, hge2⟩ := hR.2.2 g cell2 hq2
          match cell2, hk, hge2 with
          | .inr _, hk, _ => cases hk
          | .inl (ko, fs), hk, hge2 =>
            obtain ⟨vs2, rfl, -⟩ := hge2
            dsimp only at hk
            cases hb : (Nat.ble i 64 && ((Nat.beq k 4 && Nat.beq ko 5) || (Nat.beq k 5 && Nat.beq ko 9))) with
            | false => rw [hb] at hk; cases hk
            | true =>
              rw [hb] at hk
              simp only [cond_true] at hk
              simp only [Bool.and_eq_true] at hb
              have hi6 : i ≤ 64 := Nat.le_of_ble_eq_true hb.1
              have hk4 : (k = 4 ∧ ko = 5) ∨ (k = 5 ∧ ko = 9) := by simpa [Nat.beq_eq] using hb.2
              obtain ⟨hlt, hk⟩ := zSet_to _ _ _ _ hk
              obtain ⟨h', hk, e1, e3⟩ := zPut_to hk
              have hcl : (nI i).toNatClampNeg = i := nI_clamp (by omega)
              have hin : vp_in (nI i) rs.length := zs_in hlt (by omega)
              have kk : ∀ (H1 : Heap) (locs1 : List Loc), va_P D (sCl S) (ws.set q (ad q, .inl (cy k, rs.length, .inr (.inr (.inr (.inr (va_up f (nI i).toNatClampNeg (some (ad g))))))))) H1 → va_D (fun q => z ≤ q) (ws.set q (ad q, .inl (cy k, rs.length, .inr (.inr (.inr (.inr (va_up f (nI i).toNatClampNeg (some (ad g))))))))) → va_S (fun q => z ≤ q) s.heap H1 locs1 → W p l e (zRm d bc bs) s m args below meth c H1 locs1 nc ns (MQ below (zQ S D cy z ad0 n0 K) args s bc bs (fun q => z ≤ q)) (F0 m (pc + 1) ls vt) := by
                intro H1 locs1 hP' hD' hS'
                rw [hcl] at hP' hD'
                have hR' := zR_set (e := .inl (cy k, rs.length, .inr (.inr (.inr (.inr (va_up f i (some (ad g)))))))) hR hq e1 e3 ⟨va_up f i (some (ad g)), by rw [List.length_set], fun j r hj => by
                  by_cases hji : j = i
                  · subst hji
                    rw [List.getElem?_set_self hlt] at hj
                    cases hj
                    refine ⟨?_, fun k' q' => by cases q'; exact hw.2 g rfl⟩
                    rw [va_up_self]; rfl
                  · rw [List.getElem?_set_ne (fun q => hji q.symm)] at hj
                    rw [va_up_ne _ _ hji]
                    exact hf j r hj⟩
                exact hi _ _ _ _ _ _ _ _ _ _ _ _ hk ht p e s m args below meth c C ad0 n0 ad hA (by rw [e1]; exact hN) hB H1 locs1 ls lv _ _ hR' hP' hD' hS' hl (by rw [e1]; exact hlo) (by rw [e1]; exact hs2)
              rcases hk4 with ⟨rfl, rfl⟩ | ⟨rfl, rfl⟩
              · obtain ⟨T5, N5, h5⟩ := hra.1
                exact va_astq C.1 C.2.1 C.2.2.2.2.2.2.2.2.1.1 hP hD hS q 4 g 5 he rfl he2 h5 hin hd kk
              · obtain ⟨T9, N9, h9⟩ := hra.2
                exact va_astq C.1 C.2.1 C.2.2.2.2.2.2.2.2.1.1 hP hD hS q 5 g 9 he rfl he2 h9 hin hd kk
end Sn6
