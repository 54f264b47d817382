/-- words of the library's own methods -/
def zNt (S : zS) : Prop := Jvm.Cond.instanceMethod Lib.objectInit ∈ sW S ∧ Jvm.Cond.code Lib.objectInit ⟨#[0xb1]⟩ 1 none ∈ sW S ∧ Jvm.Cond.native arraycopyName ∈ sW S ∧ Jvm.Cond.static arraycopyName ∈ sW S ∧ Jvm.Cond.initialized "java/lang/System" ∈ sW S ∧ Jvm.Cond.initialized "java/lang/Math" ∈ sW S ∧ (Jvm.Cond.static Lib.Math.max.name ∈ sW S ∧ Jvm.Cond.code Lib.Math.max.name Lib.Math.max.code 2 (some .int) ∈ sW S) ∧ (Jvm.Cond.static Lib.Math.min.name ∈ sW S ∧ Jvm.Cond.code Lib.Math.min.name Lib.Math.min.code 2 (some .int) ∈ sW S)
section Sn9
variable {l : Launch} {S : zS} {D : va_G} {cy : Nat → ClassId} {z : Nat} {G : zG0} {ih : zHo} {d mi : Nat} {tb : zT} {bc bs nc ns pc ea eb ec en : Nat} {lo : zL} {st : List zV} {h : zHp} {K : zKo}
theorem zs_obj (hnt : zNt S) (hi : zOK l S D cy z G ih) (ht : ∃ an mc ms, zN G.1 mi = some (an, mc, ms, tb)) {x : Nat} (hd : decode (sC S mi) pc = .ok (.invokespecial x, 3)) (hw : Jvm.Cond.methodLink (sY S mi).cls x Lib.objectInit ∈ sW S) (hn : en = pc + 3) (hk : zo_obj ih (d, mi, tb, bc, bs) nc ns ea eb ec en lo st h K = true) : zW l S D cy z d mi bc bs nc ns pc lo st h K := by
  intro p e s m args below meth c C ad0 n0 ad hA hN hB H locs ls lv vs ws hR hP hD hS hl hlo hst
  subst hn
  have wd : ∀ w ∈ sW S, w.before args s = true := fun w hw => C.2.2.2.2.2.1 w (List.mem_cons_of_mem _ hw)
  revert hst
  revert hk
  match st with
  | [] => intro hk _; simp [zo_obj] at hk
  | .inl _ :: _ => intro hk _; simp [zo_obj] at hk
  | .inr (.inl _) :: _ => intro hk _; simp [zo_obj] at hk
  | .inr (.inr (.inl _)) :: _ => intro hk _; simp [zo_obj] at hk
  | .inr (.inr (.inr none)) :: _ => intro hk _; simp [zo_obj] at hk
  | .inr (.inr (.inr (some q))) :: st' =>
    intro hk hst
    simp only [zo_obj] at hk
    obtain ⟨v, vt, rfl, hv, hs2⟩ := hst
    have hv0 : v = .ref (ad q) := hv.1
    subst hv0
    cases hb : (Nat.blt 0 d && Nat.ble (zCat st') 8) with
    | false => rw [hb] at hk; cases hk
    | true =>
      rw [hb] at hk
      simp only [cond_true] at hk
      simp only [Bool.and_eq_true, Nat.blt_eq] at hb
      have hcr : (vt.map fun v => v.category).sum ≤ 8 := by rw [zGs_cat hs2]; exact Nat.le_of_ble_eq_true hb.2
      refine W.objInit C.1 C.2.1 C.2.2.2.2.1 (wd _ hw) (wd _ hnt.1) (wd _ hnt.2.1) rfl (by rw [C.2.2.1]; exact hl.1) rfl hd (show 1 ≤ d by omega) ?_ ?_
      · show 2 * 0 + (vt.map fun v => v.category).sum + 12 ≤ 60 * d
        omega
      · exact hi _ _ _ _ _ _ _ _ _ _ _ _ hk ht p e s m args below meth c C ad0 n0 ad hA hN hB H locs ls lv _ ws hR hP hD hS hl hlo hs2
theorem zs_mm (mx : Bool) (hnt : zNt S) (hi : zOK l S D cy z G ih) (ht : ∃ an mc ms, zN G.1 mi = some (an, mc, ms, tb)) {x : Nat} (hd : decode (sC S mi) pc = .ok (.invokestatic x, 3)) (hw : Jvm.Cond.methodLink (sY S mi).cls x (cond mx Lib.Math.max.name Lib.Math.min.name) ∈ sW S) (hn : en = pc + 3) (hk : zo_mm mx ih (d, mi, tb, bc, bs) nc ns ea eb ec en lo st h K = true) : zW l S D cy z d mi bc bs nc ns pc lo st h K := by
  intro p e s m args below meth c C ad0 n0 ad hA hN hB H locs ls lv vs ws hR hP hD hS hl hlo hst
  subst hn
  have wd : ∀ w ∈ sW S, w.before args s = true := fun w hw => C.2.2.2.2.2.1 w (List.mem_cons_of_mem _ hw)
  revert hst
  revert hk
  match st with
  | [] => intro hk _; simp [zo_mm] at hk
  | [.inl _] => intro hk _; simp [zo_mm] at hk
  | .inr _ :: _ => intro hk _; simp [zo_mm] at hk
  | .inl _ :: .inr _ :: _ => intro hk _; simp [zo_mm] at hk
  | .inl y :: .inl x0 :: st' =>
    intro hk hst
    simp only [zo_mm, zF_eq] at hk
    obtain ⟨u, ut, rfl, hu, v, vt, rfl, hv, hs2⟩ := hst
    have hu0 : u = .int (nI y) := hu
    subst hu0
    have hv0 : v = .int (nI x0) := hv
    subst hv0
    cases hb : (Nat.blt 0 d && Nat.ble (zCat st') 8) with
    | false => rw [hb] at hk; cases hk
    | true =>
      rw [hb] at hk
      simp only [cond_true] at hk
      simp only [Bool.and_eq_true, Nat.blt_eq] at hb
      have hcr : (vt.map fun v => v.category).sum ≤ 8 := by rw [zGs_cat hs2]; exact Nat.le_of_ble_eq_true hb.2
      have hfr : 1 ≤ (zRm d bc bs).frames := show 1 ≤ d by omega
      have hlc : (vt.map fun v => v.category).sum + 13 ≤ (zRm d bc bs).locals := show _ ≤ 60 * d by omega
      have hml : c.maxLocals = ls.size := by rw [C.2.2.1]; exact hl.1.symm
      have hyx : nI y < nI x0 ↔ zlo (.inl y) < zlo (.inl x0) := by
        rw [zB_lt, zB_nI, zB_nI]; exact Iff.rfl
      have hxy : nI x0 < nI y ↔ zlo (.inl x0) < zlo (.inl y) := by
        rw [zB_lt, zB_nI, zB_nI]; exact Iff.rfl
      have heq : zlo (.inl x0) = zlo (.inl y) → nI x0 = nI y := fun q => zB_eq.mpr (by rw [zB_nI, zB_nI]; exact q)
      have kk := fun (r : Int32) (hr : r = nI (cond (Nat.blt (zlo (.inl y)) (zlo (.inl x0))) (cond mx x0 y) (cond mx y x0))) => hi _ _ _ _ _ _ _ _ _ _ _ _ hk ht p e s m args below meth c C ad0 n0 ad hA hN hB H locs ls lv (.int r :: vt) ws hR hP hD hS hl hlo ⟨_, _, rfl, by rw [hr]; exact rfl, hs2⟩
      cases mx with
      | true =>
        refine va_mmax C.1 C.2.1 hml C.2.2.2.2.1 (wd _ hw) (wd _ hnt.2.2.2.2.2.2.1.1) (wd _ hnt.2.2.2.2.2.1) (wd _ hnt.2.2.2.2.2.2.1.2) hfr hlc hB.1 hB.2 hd (kk _ ?_)
        cases hc : Nat.blt (zlo (.inl y)) (zlo (.inl x0)) with
        | true =>
          have hc : zlo (.inl y) < zlo (.inl x0) := by simpa [Nat.blt_eq] using hc
          rw [if_neg (fun q => by have q := hxy.mp q; omega)]
          rfl
        | false =>
          have hc : ¬ zlo (.inl y) < zlo (.inl x0) := fun q => by
            have q : Nat.blt (zlo (.inl y)) (zlo (.inl x0)) = true := by simpa [Nat.blt_eq] using q
            rw [q] at hc; cases hc
          by_cases hlt : nI x0 < nI y
          · rw [if_pos hlt]; rfl
          · rw [if_neg hlt]
            have : ¬ zlo (.inl x0) < zlo (.inl y) := fun q => hlt (hxy.mpr q)
            exact heq (by omega)
      | false =>
        refine va_mmin C.1 C.2.1 hml C.2.2.2.2.1 (wd _ hw) (wd _ hnt.2.2.2.2.2.2.2.1) (wd _ hnt.2.2.2.2.2.1) (wd _ hnt.2.2.2.2.2.2.2.2) hfr hlc hB.1 hB.2 hd (kk _ ?_)
        cases hc : Nat.blt (zlo (.inl y)) (zlo (.inl x0)) with
        | true =>
          have hc : zlo (.inl y) < zlo (.inl x0) := by simpa [Nat.blt_eq] using hc
          rw [if_pos (hyx.mpr hc)]
          rfl
        | false =>
          have hc : ¬ zlo (.inl y) < zlo (.inl x0) := fun q => by
            have q : Nat.blt (zlo (.inl y)) (zlo (.inl x0)) = true := by simpa [Nat.blt_eq] using q
            rw [q] at hc; cases hc
          rw [if_neg (fun q => hc (hyx.mp q))]
          rfl
theorem zs_cpy (hnt : zNt S) (hi : zOK l S D cy z G ih) (ht : ∃ an mc ms, zN G.1 mi = some (an, mc, ms, tb)) {x : Nat} (hd : decode (sC S mi) pc = .ok (.invokestatic x, 3)) (hw : Jvm.Cond.methodLink (sY S mi).cls x arraycopyName ∈ sW S) (hn : en = pc + 3) (hk : zo_cpy ih (d, mi, tb, bc, bs) nc ns ea eb ec en lo st h K = true) : zW l S D cy z d mi bc bs nc ns pc lo st h K := by
  intro p e s m args below meth c C ad0 n0 ad hA hN hB H locs ls lv vs ws hR hP hD hS hl hlo hst
  subst hn
  have wd : ∀ w ∈ sW S, w.before args s = true := fun w hw => C.2.2.2.2.2.1 w (List.mem_cons_of_mem _ hw)
  unfold zo_cpy at hk
  split at hk
  · rename_i n q q1 st'
    obtain ⟨v1, t1, rfl, g1, v2, t2, rfl, g2, v3, t3, rfl, g3, v4, t4, rfl, g4, v5, vt, rfl, g5, hs2⟩ := hst
    have g1 : v1 = .int (nI n) := g1
    have g2 : v2 = .int (nI 0) := g2
    have g3 : v3 = .ref (ad q) := g3.1
    have g4 : v4 = .int (nI 0) := g4
    have g5 : v5 = .ref (ad q1) := g5.1
    subst g1 g2 g3 g4 g5
    split at hk
    · rename_i k n1 du k' n2 dv hq1 hq
      cases hb : ((Nat.blt 0 d && Nat.ble (zCat st') 8) && ((Nat.beq k 1 && Nat.beq k' 1) && ((Nat.beq n1 n && Nat.beq n2 n) && Nat.ble n 65536))) with
      | false => dsimp only at hk; rw [hb] at hk; cases hk
      | true =>
        dsimp only at hk
        rw [hb] at hk
        simp only [cond_true] at hk
        simp only [Bool.and_eq_true, Nat.blt_eq] at hb
        obtain ⟨⟨hd0, hcr0⟩, ⟨hk1, hk2⟩, ⟨hn1, hn2⟩, hn6⟩ := hb
        have hk1 : k = 1 := Nat.eq_of_beq_eq_true hk1
        have hk2 : k' = 1 := Nat.eq_of_beq_eq_true hk2
        have hn1 : n1 = n := Nat.eq_of_beq_eq_true hn1
        have hn2 : n2 = n := Nat.eq_of_beq_eq_true hn2
        have hn6 : n ≤ 65536 := Nat.le_of_ble_eq_true hn6
        subst hk1 hk2 hn1 hn2
        obtain ⟨d1, u1⟩ := du
        obtain ⟨d2, u2⟩ := dv
        obtain ⟨e1, he1, f, rfl, hf⟩ := hR.2.2 q1 _ hq1
        obtain ⟨e2, he2, g, rfl, hg⟩ := hR.2.2 q _ hq
        obtain ⟨h', hk, e3, e4⟩ := zPut_to hk
        have hcr : (vt.map fun v => v.category).sum ≤ 8 := by rw [zGs_cat hs2]; exact Nat.le_of_ble_eq_true hcr0
        have hcl : (nI n2).toNatClampNeg = n2 := nI_clamp (by omega)
        have hcl0 : (nI 0).toNatClampNeg = 0 := nI_clamp (by omega)
        refine va_copyi C.1 C.2.1 (by rw [C.2.2.1]; exact hl.1.symm) C.2.2.2.2.1 (wd _ hw) (wd _ hnt.2.2.1) (wd _ hnt.2.2.2.1) (wd _ hnt.2.2.2.2.1) C.2.2.2.2.2.2.2.2.1.1 hP hD hS q1 q 1 1 he1 he2 rfl rfl rfl (nI_pos (by omega)) (nI_pos (by omega)) (nI_pos (by omega)) (by rw [hcl, hcl0]; omega) (by rw [hcl, hcl0]; omega) (fun i _ => rfl) (show 1 ≤ d by omega) ?_ hd (fun H1 locs1 hP' hD' hS' => ?_)
        · show _ + (nativeFrameWords "java/lang/System" "arraycopy" 5 + 11) ≤ 60 * d
          have : nativeFrameWords "java/lang/System" "arraycopy" 5 = 7 := by decide
          omega
        · rw [hcl, hcl0] at hP' hD'
          have hR' := zR_set (e := .inl (cy 1, n2, .inl (va_cpy f g 0 0 n2))) hR hq e3 e4 ⟨_, rfl, fun j hj => by rw [pk_cpy_in (Nat.zero_le _) (by omega), Nat.zero_add, Nat.sub_zero]; exact hf j hj⟩
          exact hi _ _ _ _ _ _ _ _ _ _ _ _ hk ht p e s m args below meth c C ad0 n0 ad hA (by rw [e3]; exact hN) hB H1 locs1 ls lv _ _ hR' hP' hD' hS' hl (by rw [e3]; exact hlo) (by rw [e3]; exact hs2)
    · cases hk
  · cases hk
end Sn9
