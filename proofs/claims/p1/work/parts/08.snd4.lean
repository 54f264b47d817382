/-- what is known of the classes: their fields' words, types, names -/
def zCls (S : zS) : Prop := ∀ (ci : Nat) (C : String) (T : u_T) (N : Nat), (sCl S)[ci]? = some (C, T, N) → (∀ w ∈ u_ws C T N, w ∈ sW S) ∧ (∃ ty0 : Nat → FieldType, ∀ k, k < N → parseFieldDescriptor (T k).2.2.1 = some (ty0 k)) ∧ ∀ a, a < N → ∀ b, b < N → a ≠ b → (T a).2.1 ≠ (T b).2.1
/-- the kind of a field: int 0, long 1, boolean 2, reference 3 -/
def zKd (ty : FieldType) : Nat := match ty with
  | .int => 0
  | .long => 1
  | .boolean => 2
  | .object _ => 3
  | .array _ => 3
  | _ => 9
theorem zs_fit {ad : Nat → Nat} {bn : Nat} {ty : FieldType} {a : zV} {v : Value} (h : zFit (zKd ty) a = true) (hg : zG ad bn a v) : narrow ty v = v ∧ fits ty v = true := by
  match ty, a, h, hg with
  | .int, .inl c, _, hg => rw [show v = _ from hg]; exact ⟨rfl, rfl⟩
  | .int, .inr (.inl r), _, hg => obtain ⟨x, rfl, -⟩ := hg; exact ⟨rfl, rfl⟩
  | .long, .inr (.inr (.inl _)), _, hg => obtain ⟨x, rfl⟩ := hg; exact ⟨rfl, rfl⟩
  | .boolean, .inl 0, _, hg => rw [show v = _ from hg]; exact ⟨rfl, rfl⟩
  | .boolean, .inl 1, _, hg => rw [show v = _ from hg]; exact ⟨rfl, rfl⟩
  | .boolean, .inl (c + 2), h, _ =>
    have h : Nat.blt (c + 2) 2 = true := h
    rw [Nat.blt_eq] at h
    omega
  | .object C, .inr (.inr (.inr none)), _, hg => rw [hg.1]; exact ⟨rfl, rfl⟩
  | .object C, .inr (.inr (.inr (some k))), _, hg => rw [hg.1]; exact ⟨rfl, rfl⟩
  | .array C, .inr (.inr (.inr none)), _, hg => rw [hg.1]; exact ⟨rfl, rfl⟩
  | .array C, .inr (.inr (.inr (some k))), _, hg => rw [hg.1]; exact ⟨rfl, rfl⟩
section Sn4
variable {l : Launch} {S : zS} {D : va_G} {cy : Nat → ClassId} {z : Nat} {G : zG0} {ih : zHo} {d mi : Nat} {tb : zT} {bc bs nc ns pc ea eb ec en : Nat} {lo : zL} {st : List zV} {h : zHp} {K : zKo}
theorem zs_gf (hcl : zCls S) (hi : zOK l S D cy z G ih) (ht : ∃ an mc ms, zN G.1 mi = some (an, mc, ms, tb)) {x y : Nat} {C0 : String} {T : u_T} {N : Nat} (hd : decode (sC S mi) pc = .ok (.getfield x, 3)) (hc0 : (sCl S)[ea]? = some (C0, T, N)) (hkN : eb < N) (hw : (sW S)[y]? = some (.fieldLink (sY S mi).cls x (T eb).1 (T eb).2.1 (T eb).2.2.1)) (hn : en = pc + 3) (hk : zo_gf ih (d, mi, tb, bc, bs) nc ns ea eb ec en lo st h K = true) : zW l S D cy z d mi bc bs nc ns pc lo st h K := by
  intro p e s m args below meth c C ad0 n0 ad hA hN hB H locs ls lv vs ws hR hP hD hS hl hlo hst
  subst hn
  revert hst
  revert hk
  match st with
  | [] => intro hk _; simp [zo_gf] at hk
  | .inl _ :: _ => intro hk _; simp [zo_gf] at hk
  | .inr (.inl _) :: _ => intro hk _; simp [zo_gf] at hk
  | .inr (.inr (.inl _)) :: _ => intro hk _; simp [zo_gf] at hk
  | .inr (.inr (.inr none)) :: _ => intro hk _; simp [zo_gf] at hk
  | .inr (.inr (.inr (some q))) :: st' =>
    intro hk hst
    simp only [zo_gf, zN_eq] at hk
    obtain ⟨v, vt, rfl, hv, hs2⟩ := hst
    have hv0 : v = .ref (ad q) := hv.1
    subst hv0
    cases hq : zGet h q with
    | none => rw [hq] at hk; cases hk
    | some cell =>
      rw [hq] at hk
      obtain ⟨ee, he, hge⟩ := hR.2.2 q cell hq
      revert hge
      revert hk
      match cell with
      | .inr (.inl _) => intro hk _; cases hk
      | .inr (.inr (.inl _)) => intro hk _; cases hk
      | .inr (.inr (.inr _)) => intro hk _; cases hk
      | .inl (k, fs) =>
        intro hk hge
        obtain ⟨vs', rfl, hgs⟩ := hge
        dsimp only at hk
        cases hb : Nat.beq k ea with
        | false => rw [hb] at hk; cases hk
        | true =>
          rw [hb] at hk
          simp only [cond_true] at hk
          have hke : k = ea := Nat.eq_of_beq_eq_true hb
          subst hke
          cases hf : fs[eb]? with
          | none => rw [hf] at hk; cases hk
          | some a =>
            rw [hf] at hk
            obtain ⟨u, hu, hgu⟩ := zGs_get hgs hf
            exact va_get C.1 C.2.1 C.2.2.2.2.2.1 (fun w hw => List.mem_cons_of_mem _ ((hcl _ _ _ _ hc0).1 w hw)) C.2.2.2.2.1 C.2.2.2.2.2.2.2.2.1.1 hP q he hc0 eb hkN (zs_word C.2.2.2.2.2.1 hw) (fun _ q => q) hu hd (hi _ _ _ _ _ _ _ _ _ _ _ _ hk ht p e s m args below meth c C ad0 n0 ad hA hN hB H locs ls lv _ ws hR hP hD hS hl hlo ⟨_, _, rfl, hgu, hs2⟩)
theorem zs_pf (hcl : zCls S) (hi : zOK l S D cy z G ih) (ht : ∃ an mc ms, zN G.1 mi = some (an, mc, ms, tb)) {x y : Nat} {C0 : String} {T : u_T} {N : Nat} {ty : FieldType} (hd : decode (sC S mi) pc = .ok (.putfield x, 3)) (hc0 : (sCl S)[ea]? = some (C0, T, N)) (hkN : eb < N) (hw : (sW S)[y]? = some (.fieldLink (sY S mi).cls x (T eb).1 (T eb).2.1 (T eb).2.2.1)) (hpt : parseFieldDescriptor (T eb).2.2.1 = some ty) (hkd : ec = zKd ty) (hfin : (T eb).2.2.2 = false ∨ ((T eb).2.2.2 = true ∧ (sY S mi).name = "<init>" ∧ (T eb).1 = (sY S mi).cls)) (hn : en = pc + 3) (hk : zo_pf ih (d, mi, tb, bc, bs) nc ns ea eb ec en lo st h K = true) : zW l S D cy z d mi bc bs nc ns pc lo st h K := by
  intro p e s m args below meth c C ad0 n0 ad hA hN hB H locs ls lv vs ws hR hP hD hS hl hlo hst
  subst hn
  subst hkd
  revert hst
  revert hk
  match st with
  | [] => intro hk _; simp [zo_pf] at hk
  | [_] => intro hk _; simp [zo_pf] at hk
  | _ :: .inl _ :: _ => intro hk _; simp [zo_pf] at hk
  | _ :: .inr (.inl _) :: _ => intro hk _; simp [zo_pf] at hk
  | _ :: .inr (.inr (.inl _)) :: _ => intro hk _; simp [zo_pf] at hk
  | _ :: .inr (.inr (.inr none)) :: _ => intro hk _; simp [zo_pf] at hk
  | a :: .inr (.inr (.inr (some q))) :: st' =>
    intro hk hst
    simp only [zo_pf] at hk
    obtain ⟨u, ut, rfl, hgu, v, vt, rfl, hv, hs2⟩ := hst
    have hv0 : v = .ref (ad q) := hv.1
    subst hv0
    cases hq : zGet h q with
    | none => rw [hq] at hk; cases hk
    | some cell =>
      rw [hq] at hk
      obtain ⟨ee, he, hge⟩ := hR.2.2 q cell hq
      revert hq
      revert hge
      revert hk
      match cell with
      | .inr (.inl _) => intro hk _ _; cases hk
      | .inr (.inr (.inl _)) => intro hk _ _; cases hk
      | .inr (.inr (.inr _)) => intro hk _ _; cases hk
      | .inl (k, fs) =>
        intro hk hge hq
        obtain ⟨vs', rfl, hgs⟩ := hge
        dsimp only at hk
        cases hb : (Nat.beq k ea && zFit (zKd ty) a) with
        | false => rw [hb] at hk; cases hk
        | true =>
          rw [hb] at hk
          simp only [cond_true] at hk
          simp only [Bool.and_eq_true] at hb
          have hke : k = ea := Nat.eq_of_beq_eq_true hb.1
          subst hke
          obtain ⟨hlt, hk⟩ := zSet_to _ _ _ _ hk
          obtain ⟨h', hk, e1, e2⟩ := zPut_to hk
          obtain ⟨f1, f2⟩ := zs_fit hb.2 hgu
          obtain ⟨ty0, hty0⟩ := (hcl _ _ _ _ hc0).2.1
          have hR' := zR_set (e := .inr (k, vs'.set eb u)) hR hq e1 e2 ⟨_, rfl, zGs_set hgs hgu⟩
          have hlen : eb < vs'.length := by rw [zGs_len hgs]; exact hlt
          have kk := fun (H1 : Heap) (locs1 : List Loc) hP' hD' hS' => hi _ _ _ _ _ _ _ _ _ _ _ _ hk ht p e s m args below meth c C ad0 n0 ad hA (by rw [e1]; exact hN) hB H1 locs1 ls lv _ _ hR' hP' hD' hS' hl (by rw [e1]; exact hlo) (by rw [e1]; exact hs2)
          rcases hfin with hfin | ⟨hfin, hin, hdc⟩
          · exact va_put C.1 C.2.1 C.2.2.2.2.2.1 (fun w hw => List.mem_cons_of_mem _ ((hcl _ _ _ _ hc0).1 w hw)) ty0 hty0 (hcl _ _ _ _ hc0).2.2 C.2.2.2.2.1 C.2.2.2.2.2.2.2.2.1.1 hP hD hS q he hc0 eb hkN (zs_word C.2.2.2.2.2.1 hw) (fun _ q => q) hfin hpt f1 f2 hlen hd kk
          · exact va_putF C.1 C.2.1 C.2.2.2.2.2.1 (fun w hw => List.mem_cons_of_mem _ ((hcl _ _ _ _ hc0).1 w hw)) ty0 hty0 (hcl _ _ _ _ hc0).2.2 C.2.2.2.2.1 C.2.2.2.2.2.2.2.2.1.1 hP hD hS q he hc0 eb hkN (zs_word C.2.2.2.2.2.1 hw) (fun _ q => q) hfin (C.2.2.2.2.2.2.2.1.trans hin) hdc hpt f1 f2 hlen hd kk
theorem zs_len (hi : zOK l S D cy z G ih) (ht : ∃ an mc ms, zN G.1 mi = some (an, mc, ms, tb)) (hd : decode (sC S mi) pc = .ok (.arraylength, 1)) (hn : en = pc + 1) (hk : zo_len ih (d, mi, tb, bc, bs) nc ns ea eb ec en lo st h K = true) : zW l S D cy z d mi bc bs nc ns pc lo st h K := by
  intro p e s m args below meth c C ad0 n0 ad hA hN hB H locs ls lv vs ws hR hP hD hS hl hlo hst
  subst hn
  revert hst
  revert hk
  match st with
  | [] => intro hk _; simp [zo_len] at hk
  | .inl _ :: _ => intro hk _; simp [zo_len] at hk
  | .inr (.inl _) :: _ => intro hk _; simp [zo_len] at hk
  | .inr (.inr (.inl _)) :: _ => intro hk _; simp [zo_len] at hk
  | .inr (.inr (.inr none)) :: _ => intro hk _; simp [zo_len] at hk
  | .inr (.inr (.inr (some q))) :: st' =>
    intro hk hst
    simp only [zo_len] at hk
    obtain ⟨v, vt, rfl, hv, hs2⟩ := hst
    have hv0 : v = .ref (ad q) := hv.1
    subst hv0
    cases hq : zGet h q with
    | none => rw [hq] at hk; cases hk
    | some cell =>
      rw [hq] at hk
      obtain ⟨ee, he, hge⟩ := hR.2.2 q cell hq
      revert hq
      revert hge
      revert hk
      match cell with
      | .inl _ => intro hk _ _; cases hk
      | .inr (.inr (.inr _)) => intro hk _ _; cases hk
      | .inr (.inr (.inl n)) =>
        intro hk hge _
        obtain ⟨f, rfl⟩ := hge
        exact va_alen C.1 C.2.1 C.2.2.2.2.2.2.2.2.1.1 hP q 2 he rfl rfl hd (hi _ _ _ _ _ _ _ _ _ _ _ _ hk ht p e s m args below meth c C ad0 n0 ad hA hN hB H locs ls lv _ ws hR hP hD hS hl hlo ⟨_, _, rfl, rfl, hs2⟩)
      | .inr (.inl (k, n, dd, us)) =>
        intro hk hge hq
        obtain ⟨f, rfl, -⟩ := hge
        dsimp only at hk
        cases hb : (Nat.beq k 0 || (Nat.beq k 1 || Nat.beq k 3)) with
        | false => rw [hb] at hk; cases hk
        | true =>
        rw [hb] at hk
        have hb : k = 0 ∨ k = 1 ∨ k = 3 := by simpa [Nat.beq_eq] using hb
        have kk := hi _ _ _ _ _ _ _ _ _ _ _ _ hk ht p e s m args below meth c C ad0 n0 ad hA hN hB H locs ls lv (.int (nI n) :: vt) ws hR hP hD hS hl hlo ⟨_, _, rfl, rfl, hs2⟩
        rcases hb with rfl | rfl | rfl
        · exact va_alen C.1 C.2.1 C.2.2.2.2.2.2.2.2.1.1 hP q 0 he rfl rfl hd kk
        · exact va_alen C.1 C.2.1 C.2.2.2.2.2.2.2.2.1.1 hP q 1 he rfl rfl hd kk
        · exact va_alen C.1 C.2.1 C.2.2.2.2.2.2.2.2.1.1 hP q 3 he rfl rfl hd kk
end Sn4
