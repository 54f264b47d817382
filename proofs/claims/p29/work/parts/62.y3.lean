/-! THE EXACT MACHINE, 3: the stack, branches. -/
section Sy
variable {l : Launch} {S : zS} {D : va_G} {cy : Nat → ClassId} {Fk : Nat → Nat → Nat} {z : Nat} {d mi bc bs nc ns pc : Nat} {lo : yL} {st : List yV} {h : yHp} {K : yKo}
theorem ys_dup {a : yV} (hl1 : yIsL a = false) (hd : decode (sC S mi) pc = .ok (.dup, 1)) (hk : yW l S D cy Fk z d mi bc bs K nc ns (pc + 1) lo (a :: a :: st) h) : yW l S D cy Fk z d mi bc bs K nc ns pc lo (a :: st) h := by
  intro p e s m args below meth c C ad0 n0 ad hA hN hB H locs ls lv vs ws hR hP hD hS hl hlo hst
  obtain ⟨v, vt, rfl, hg, hst⟩ := hst
  have hc : v.category = 1 := by rw [yG_cat hg, hl1]; rfl
  exact lv_dup C.1 C.2.1 hd hc (hk p e s m args below meth c C ad0 n0 ad hA hN hB H locs ls lv _ ws hR hP hD hS hl hlo ⟨_, _, rfl, hg, _, _, rfl, hg, hst⟩)
theorem ys_pop {a : yV} (hl1 : yIsL a = false) (hd : decode (sC S mi) pc = .ok (.pop, 1)) (hk : yW l S D cy Fk z d mi bc bs K nc ns (pc + 1) lo st h) : yW l S D cy Fk z d mi bc bs K nc ns pc lo (a :: st) h := by
  intro p e s m args below meth c C ad0 n0 ad hA hN hB H locs ls lv vs ws hR hP hD hS hl hlo hst
  obtain ⟨v, vt, rfl, hg, hst⟩ := hst
  have hc : v.category = 1 := by rw [yG_cat hg, hl1]; rfl
  exact lv_pop C.1 C.2.1 hd hc (hk p e s m args below meth c C ad0 n0 ad hA hN hB H locs ls lv _ ws hR hP hD hS hl hlo hst)
theorem ys_dup2 {a b : yV} (hl1 : yIsL a = false) (hl2 : yIsL b = false) (hd : decode (sC S mi) pc = .ok (.dup2, 1)) (hk : yW l S D cy Fk z d mi bc bs K nc ns (pc + 1) lo (b :: a :: b :: a :: st) h) : yW l S D cy Fk z d mi bc bs K nc ns pc lo (b :: a :: st) h := by
  intro p e s m args below meth c C ad0 n0 ad hA hN hB H locs ls lv vs ws hR hP hD hS hl hlo hst
  obtain ⟨v, vt, rfl, hg, hst⟩ := hst
  obtain ⟨v2, vt, rfl, hg2, hst⟩ := hst
  have hc : v.category = 1 := by rw [yG_cat hg, hl2]; rfl
  have hc2 : v2.category = 1 := by rw [yG_cat hg2, hl1]; rfl
  exact lv_dup2_11 C.1 C.2.1 hd hc hc2 (hk p e s m args below meth c C ad0 n0 ad hA hN hB H locs ls lv _ ws hR hP hD hS hl hlo ⟨_, _, rfl, hg, _, _, rfl, hg2, _, _, rfl, hg, _, _, rfl, hg2, hst⟩)
theorem ys_goto {off : Int} {t : Nat} (hd : decode (sC S mi) pc = .ok (.goto off, 3)) (hg : (pc : Int) + off = (t : Int)) (hk : yW l S D cy Fk z d mi bc bs K nc ns t lo st h) : yW l S D cy Fk z d mi bc bs K nc ns pc lo st h := by
  intro p e s m args below meth c C ad0 n0 ad hA hN hB H locs ls lv vs ws hR hP hD hS hl hlo hst
  exact lv_goto C.1 C.2.1 hd hg (hk p e s m args below meth c C ad0 n0 ad hA hN hB H locs ls lv _ ws hR hP hD hS hl hlo hst)
theorem ys_ifnn {off : Int} {t : Nat} {r : Option Nat} (hd : decode (sC S mi) pc = .ok (.ifnonnull off, 3)) (hg : (pc : Int) + off = (t : Int)) (hk1 : ∀ q, r = some q → yW l S D cy Fk z d mi bc bs K nc ns t lo st h) (hk2 : r = none → yW l S D cy Fk z d mi bc bs K nc ns (pc + 3) lo st h) : yW l S D cy Fk z d mi bc bs K nc ns pc lo (yr r :: st) h := by
  intro p e s m args below meth c C ad0 n0 ad hA hN hB H locs ls lv vs ws hR hP hD hS hl hlo hst
  obtain ⟨v, vt, rfl, hg2, hst⟩ := hst
  have hv : v = va_rf (r.map ad) := hg2.1
  subst hv
  cases r with
  | none =>
    have hk := hk2 rfl
    exact lv_ifnonnullN C.1 C.2.1 hd (hk p e s m args below meth c C ad0 n0 ad hA hN hB H locs ls lv _ ws hR hP hD hS hl hlo hst)
  | some q =>
    have hk := hk1 q rfl
    exact lv_ifnonnull C.1 C.2.1 hd hg (hk p e s m args below meth c C ad0 n0 ad hA hN hB H locs ls lv _ ws hR hP hD hS hl hlo hst)
theorem y_ieq {a b : Int32} : a = b ↔ a.toInt = b.toInt := Int32.toInt_inj.symm
theorem ys_icmp_eq {off : Int} {t : Nat} {x y : Int} (hd : decode (sC S mi) pc = .ok (.if_icmp .eq off, 3)) (hg : (pc : Int) + off = (t : Int)) (hk1 : x = y → yW l S D cy Fk z d mi bc bs K nc ns t lo st h) (hk2 : ¬ (x = y) → yW l S D cy Fk z d mi bc bs K nc ns (pc + 3) lo st h) : yW l S D cy Fk z d mi bc bs K nc ns pc lo (yi y :: yi x :: st) h := by
  intro p e s m args below meth c C ad0 n0 ad hA hN hB H locs ls lv vs ws hR hP hD hS hl hlo hst
  obtain ⟨v, vt, rfl, ⟨b, rfl, rfl⟩, hst⟩ := hst
  obtain ⟨v, vt, rfl, ⟨a, rfl, rfl⟩, hst⟩ := hst
  exact lv_icmp_eq C.1 C.2.1 hd hg (fun q => (hk1 (y_ieq.mp q)) p e s m args below meth c C ad0 n0 ad hA hN hB H locs ls lv _ ws hR hP hD hS hl hlo hst) (fun q => (hk2 (fun g => q (y_ieq.mpr g))) p e s m args below meth c C ad0 n0 ad hA hN hB H locs ls lv _ ws hR hP hD hS hl hlo hst)
theorem ys_if_eq {off : Int} {t : Nat} {x : Int} (hd : decode (sC S mi) pc = .ok (.ifCond .eq off, 3)) (hg : (pc : Int) + off = (t : Int)) (hk1 : x = 0 → yW l S D cy Fk z d mi bc bs K nc ns t lo st h) (hk2 : ¬ (x = 0) → yW l S D cy Fk z d mi bc bs K nc ns (pc + 3) lo st h) : yW l S D cy Fk z d mi bc bs K nc ns pc lo (yi x :: st) h := by
  intro p e s m args below meth c C ad0 n0 ad hA hN hB H locs ls lv vs ws hR hP hD hS hl hlo hst
  obtain ⟨v, vt, rfl, ⟨a, rfl, rfl⟩, hst⟩ := hst
  exact lv_if_eq C.1 C.2.1 hd hg (fun q => (hk1 (y_ieq.mp q)) p e s m args below meth c C ad0 n0 ad hA hN hB H locs ls lv _ ws hR hP hD hS hl hlo hst) (fun q => (hk2 (fun g => q (y_ieq.mpr g))) p e s m args below meth c C ad0 n0 ad hA hN hB H locs ls lv _ ws hR hP hD hS hl hlo hst)
theorem ys_icmp_ne {off : Int} {t : Nat} {x y : Int} (hd : decode (sC S mi) pc = .ok (.if_icmp .ne off, 3)) (hg : (pc : Int) + off = (t : Int)) (hk1 : x ≠ y → yW l S D cy Fk z d mi bc bs K nc ns t lo st h) (hk2 : ¬ (x ≠ y) → yW l S D cy Fk z d mi bc bs K nc ns (pc + 3) lo st h) : yW l S D cy Fk z d mi bc bs K nc ns pc lo (yi y :: yi x :: st) h := by
  intro p e s m args below meth c C ad0 n0 ad hA hN hB H locs ls lv vs ws hR hP hD hS hl hlo hst
  obtain ⟨v, vt, rfl, ⟨b, rfl, rfl⟩, hst⟩ := hst
  obtain ⟨v, vt, rfl, ⟨a, rfl, rfl⟩, hst⟩ := hst
  exact lv_icmp_ne C.1 C.2.1 hd hg (fun q => (hk1 (fun g => q (y_ieq.mpr g))) p e s m args below meth c C ad0 n0 ad hA hN hB H locs ls lv _ ws hR hP hD hS hl hlo hst) (fun q => (hk2 (fun g => g (y_ieq.mp q))) p e s m args below meth c C ad0 n0 ad hA hN hB H locs ls lv _ ws hR hP hD hS hl hlo hst)
theorem ys_if_ne {off : Int} {t : Nat} {x : Int} (hd : decode (sC S mi) pc = .ok (.ifCond .ne off, 3)) (hg : (pc : Int) + off = (t : Int)) (hk1 : x ≠ 0 → yW l S D cy Fk z d mi bc bs K nc ns t lo st h) (hk2 : ¬ (x ≠ 0) → yW l S D cy Fk z d mi bc bs K nc ns (pc + 3) lo st h) : yW l S D cy Fk z d mi bc bs K nc ns pc lo (yi x :: st) h := by
  intro p e s m args below meth c C ad0 n0 ad hA hN hB H locs ls lv vs ws hR hP hD hS hl hlo hst
  obtain ⟨v, vt, rfl, ⟨a, rfl, rfl⟩, hst⟩ := hst
  exact lv_if_ne C.1 C.2.1 hd hg (fun q => (hk1 (fun g => q (y_ieq.mpr g))) p e s m args below meth c C ad0 n0 ad hA hN hB H locs ls lv _ ws hR hP hD hS hl hlo hst) (fun q => (hk2 (fun g => g (y_ieq.mp q))) p e s m args below meth c C ad0 n0 ad hA hN hB H locs ls lv _ ws hR hP hD hS hl hlo hst)
theorem ys_icmp_lt {off : Int} {t : Nat} {x y : Int} (hd : decode (sC S mi) pc = .ok (.if_icmp .lt off, 3)) (hg : (pc : Int) + off = (t : Int)) (hk1 : x < y → yW l S D cy Fk z d mi bc bs K nc ns t lo st h) (hk2 : ¬ (x < y) → yW l S D cy Fk z d mi bc bs K nc ns (pc + 3) lo st h) : yW l S D cy Fk z d mi bc bs K nc ns pc lo (yi y :: yi x :: st) h := by
  intro p e s m args below meth c C ad0 n0 ad hA hN hB H locs ls lv vs ws hR hP hD hS hl hlo hst
  obtain ⟨v, vt, rfl, ⟨b, rfl, rfl⟩, hst⟩ := hst
  obtain ⟨v, vt, rfl, ⟨a, rfl, rfl⟩, hst⟩ := hst
  exact lv_icmp_lt C.1 C.2.1 hd hg (fun q => (hk1 (Int32.lt_iff_toInt_lt.mp q)) p e s m args below meth c C ad0 n0 ad hA hN hB H locs ls lv _ ws hR hP hD hS hl hlo hst) (fun q => (hk2 (fun g => q (Int32.lt_iff_toInt_lt.mpr g))) p e s m args below meth c C ad0 n0 ad hA hN hB H locs ls lv _ ws hR hP hD hS hl hlo hst)
theorem ys_if_lt {off : Int} {t : Nat} {x : Int} (hd : decode (sC S mi) pc = .ok (.ifCond .lt off, 3)) (hg : (pc : Int) + off = (t : Int)) (hk1 : x < 0 → yW l S D cy Fk z d mi bc bs K nc ns t lo st h) (hk2 : ¬ (x < 0) → yW l S D cy Fk z d mi bc bs K nc ns (pc + 3) lo st h) : yW l S D cy Fk z d mi bc bs K nc ns pc lo (yi x :: st) h := by
  intro p e s m args below meth c C ad0 n0 ad hA hN hB H locs ls lv vs ws hR hP hD hS hl hlo hst
  obtain ⟨v, vt, rfl, ⟨a, rfl, rfl⟩, hst⟩ := hst
  exact lv_if_lt C.1 C.2.1 hd hg (fun q => (hk1 (Int32.lt_iff_toInt_lt.mp q)) p e s m args below meth c C ad0 n0 ad hA hN hB H locs ls lv _ ws hR hP hD hS hl hlo hst) (fun q => (hk2 (fun g => q (Int32.lt_iff_toInt_lt.mpr g))) p e s m args below meth c C ad0 n0 ad hA hN hB H locs ls lv _ ws hR hP hD hS hl hlo hst)
theorem ys_icmp_ge {off : Int} {t : Nat} {x y : Int} (hd : decode (sC S mi) pc = .ok (.if_icmp .ge off, 3)) (hg : (pc : Int) + off = (t : Int)) (hk1 : y ≤ x → yW l S D cy Fk z d mi bc bs K nc ns t lo st h) (hk2 : ¬ (y ≤ x) → yW l S D cy Fk z d mi bc bs K nc ns (pc + 3) lo st h) : yW l S D cy Fk z d mi bc bs K nc ns pc lo (yi y :: yi x :: st) h := by
  intro p e s m args below meth c C ad0 n0 ad hA hN hB H locs ls lv vs ws hR hP hD hS hl hlo hst
  obtain ⟨v, vt, rfl, ⟨b, rfl, rfl⟩, hst⟩ := hst
  obtain ⟨v, vt, rfl, ⟨a, rfl, rfl⟩, hst⟩ := hst
  exact lv_icmp_ge C.1 C.2.1 hd hg (fun q => (hk1 (Int32.le_iff_toInt_le.mp q)) p e s m args below meth c C ad0 n0 ad hA hN hB H locs ls lv _ ws hR hP hD hS hl hlo hst) (fun q => (hk2 (fun g => q (Int32.le_iff_toInt_le.mpr g))) p e s m args below meth c C ad0 n0 ad hA hN hB H locs ls lv _ ws hR hP hD hS hl hlo hst)
theorem ys_if_ge {off : Int} {t : Nat} {x : Int} (hd : decode (sC S mi) pc = .ok (.ifCond .ge off, 3)) (hg : (pc : Int) + off = (t : Int)) (hk1 : 0 ≤ x → yW l S D cy Fk z d mi bc bs K nc ns t lo st h) (hk2 : ¬ (0 ≤ x) → yW l S D cy Fk z d mi bc bs K nc ns (pc + 3) lo st h) : yW l S D cy Fk z d mi bc bs K nc ns pc lo (yi x :: st) h := by
  intro p e s m args below meth c C ad0 n0 ad hA hN hB H locs ls lv vs ws hR hP hD hS hl hlo hst
  obtain ⟨v, vt, rfl, ⟨a, rfl, rfl⟩, hst⟩ := hst
  exact lv_if_ge C.1 C.2.1 hd hg (fun q => (hk1 (Int32.le_iff_toInt_le.mp q)) p e s m args below meth c C ad0 n0 ad hA hN hB H locs ls lv _ ws hR hP hD hS hl hlo hst) (fun q => (hk2 (fun g => q (Int32.le_iff_toInt_le.mpr g))) p e s m args below meth c C ad0 n0 ad hA hN hB H locs ls lv _ ws hR hP hD hS hl hlo hst)
theorem ys_icmp_gt {off : Int} {t : Nat} {x y : Int} (hd : decode (sC S mi) pc = .ok (.if_icmp .gt off, 3)) (hg : (pc : Int) + off = (t : Int)) (hk1 : y < x → yW l S D cy Fk z d mi bc bs K nc ns t lo st h) (hk2 : ¬ (y < x) → yW l S D cy Fk z d mi bc bs K nc ns (pc + 3) lo st h) : yW l S D cy Fk z d mi bc bs K nc ns pc lo (yi y :: yi x :: st) h := by
  intro p e s m args below meth c C ad0 n0 ad hA hN hB H locs ls lv vs ws hR hP hD hS hl hlo hst
  obtain ⟨v, vt, rfl, ⟨b, rfl, rfl⟩, hst⟩ := hst
  obtain ⟨v, vt, rfl, ⟨a, rfl, rfl⟩, hst⟩ := hst
  exact lv_icmp_gt C.1 C.2.1 hd hg (fun q => (hk1 (Int32.lt_iff_toInt_lt.mp q)) p e s m args below meth c C ad0 n0 ad hA hN hB H locs ls lv _ ws hR hP hD hS hl hlo hst) (fun q => (hk2 (fun g => q (Int32.lt_iff_toInt_lt.mpr g))) p e s m args below meth c C ad0 n0 ad hA hN hB H locs ls lv _ ws hR hP hD hS hl hlo hst)
theorem ys_if_gt {off : Int} {t : Nat} {x : Int} (hd : decode (sC S mi) pc = .ok (.ifCond .gt off, 3)) (hg : (pc : Int) + off = (t : Int)) (hk1 : 0 < x → yW l S D cy Fk z d mi bc bs K nc ns t lo st h) (hk2 : ¬ (0 < x) → yW l S D cy Fk z d mi bc bs K nc ns (pc + 3) lo st h) : yW l S D cy Fk z d mi bc bs K nc ns pc lo (yi x :: st) h := by
  intro p e s m args below meth c C ad0 n0 ad hA hN hB H locs ls lv vs ws hR hP hD hS hl hlo hst
  obtain ⟨v, vt, rfl, ⟨a, rfl, rfl⟩, hst⟩ := hst
  exact lv_if_gt C.1 C.2.1 hd hg (fun q => (hk1 (Int32.lt_iff_toInt_lt.mp q)) p e s m args below meth c C ad0 n0 ad hA hN hB H locs ls lv _ ws hR hP hD hS hl hlo hst) (fun q => (hk2 (fun g => q (Int32.lt_iff_toInt_lt.mpr g))) p e s m args below meth c C ad0 n0 ad hA hN hB H locs ls lv _ ws hR hP hD hS hl hlo hst)
theorem ys_icmp_le {off : Int} {t : Nat} {x y : Int} (hd : decode (sC S mi) pc = .ok (.if_icmp .le off, 3)) (hg : (pc : Int) + off = (t : Int)) (hk1 : x ≤ y → yW l S D cy Fk z d mi bc bs K nc ns t lo st h) (hk2 : ¬ (x ≤ y) → yW l S D cy Fk z d mi bc bs K nc ns (pc + 3) lo st h) : yW l S D cy Fk z d mi bc bs K nc ns pc lo (yi y :: yi x :: st) h := by
  intro p e s m args below meth c C ad0 n0 ad hA hN hB H locs ls lv vs ws hR hP hD hS hl hlo hst
  obtain ⟨v, vt, rfl, ⟨b, rfl, rfl⟩, hst⟩ := hst
  obtain ⟨v, vt, rfl, ⟨a, rfl, rfl⟩, hst⟩ := hst
  exact lv_icmp_le C.1 C.2.1 hd hg (fun q => (hk1 (Int32.le_iff_toInt_le.mp q)) p e s m args below meth c C ad0 n0 ad hA hN hB H locs ls lv _ ws hR hP hD hS hl hlo hst) (fun q => (hk2 (fun g => q (Int32.le_iff_toInt_le.mpr g))) p e s m args below meth c C ad0 n0 ad hA hN hB H locs ls lv _ ws hR hP hD hS hl hlo hst)
theorem ys_if_le {off : Int} {t : Nat} {x : Int} (hd : decode (sC S mi) pc = .ok (.ifCond .le off, 3)) (hg : (pc : Int) + off = (t : Int)) (hk1 : x ≤ 0 → yW l S D cy Fk z d mi bc bs K nc ns t lo st h) (hk2 : ¬ (x ≤ 0) → yW l S D cy Fk z d mi bc bs K nc ns (pc + 3) lo st h) : yW l S D cy Fk z d mi bc bs K nc ns pc lo (yi x :: st) h := by
  intro p e s m args below meth c C ad0 n0 ad hA hN hB H locs ls lv vs ws hR hP hD hS hl hlo hst
  obtain ⟨v, vt, rfl, ⟨a, rfl, rfl⟩, hst⟩ := hst
  exact lv_if_le C.1 C.2.1 hd hg (fun q => (hk1 (Int32.le_iff_toInt_le.mp q)) p e s m args below meth c C ad0 n0 ad hA hN hB H locs ls lv _ ws hR hP hD hS hl hlo hst) (fun q => (hk2 (fun g => q (Int32.le_iff_toInt_le.mpr g))) p e s m args below meth c C ad0 n0 ad hA hN hB H locs ls lv _ ws hR hP hD hS hl hlo hst)
/-- where a switch goes -/
def ySw (low : Int) (tg : List Nat) (nx : Nat) (x : Int) : Nat := if low ≤ x then tg.getD (x - low).toNat nx else nx
theorem ys_tsw {dflt low hi : Int} {offs : Array Int} {len nx : Nat} {tg : List Nat} {x : Int} (hd : decode (sC S mi) pc = .ok (.tableswitch dflt low hi offs, len)) (h1 : low + tg.length = hi + 1) (h2 : (pc : Int) + dflt = (nx : Int)) (h3 : ∀ (j t : Nat), tg[j]? = some t → ∃ off : Int, offs[j]? = some off ∧ (pc : Int) + off = (t : Int)) (hk : yW l S D cy Fk z d mi bc bs K nc ns (ySw low tg nx x) lo st h) : yW l S D cy Fk z d mi bc bs K nc ns pc lo (yi x :: st) h := by
  intro p e s m args below meth c C ad0 n0 ad hA hN hB H locs ls lv vs ws hR hP hD hS hl hlo hst
  obtain ⟨v, vt, rfl, ⟨a, rfl, rfl⟩, hst⟩ := hst
  by_cases hin : low ≤ a.toInt ∧ a.toInt ≤ hi
  · have hj : (a.toInt - low).toNat < tg.length := by omega
    have hg : tg[(a.toInt - low).toNat]? = some tg[(a.toInt - low).toNat] := List.getElem?_eq_getElem hj
    obtain ⟨off, o1, o2⟩ := h3 _ _ hg
    have eS : ySw low tg nx a.toInt = tg[(a.toInt - low).toNat] := by
      unfold ySw; rw [if_pos hin.1]; simp [List.getD, hg]
    rw [eS] at hk
    exact lv_tableIn C.1 C.2.1 hd (by omega) (by omega) o1 o2 (hk p e s m args below meth c C ad0 n0 ad hA hN hB H locs ls lv _ ws hR hP hD hS hl hlo hst)
  · have eS : ySw low tg nx a.toInt = nx := by
      unfold ySw
      split
      · rw [List.getD, List.getElem?_eq_none (by omega)]; rfl
      · rfl
    rw [eS] at hk
    exact lv_tableOut C.1 C.2.1 hd (by omega) h2 (hk p e s m args below meth c C ad0 n0 ad hA hN hB H locs ls lv _ ws hR hP hD hS hl hlo hst)
end Sy
