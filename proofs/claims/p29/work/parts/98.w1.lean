/-! THE REFERENCE's CONTRACTS: the knot, 6: 315 STEPS are enough. -/
/-- so many STEPS from s to t -/
def mCh (J : Nat → Nat → Int) (W m : Nat) : Nat → Nat → Nat → Prop
  | 0, s, t => s = t
  | n + 1, s, t => ∃ s' mv, mSu J W m s s' mv ∧ mCh J W m n s' t
theorem mCh_tr {J : Nat → Nat → Int} {W m : Nat} : ∀ {a b s t u : Nat}, mCh J W m a s t → mCh J W m b t u → mCh J W m (a + b) s u := by
  intro a
  induction a with
  | zero => intro b s t u h1 h2; rw [Nat.zero_add]; rw [show s = t from h1]; exact h2
  | succ a ih =>
    intro b s t u h1 h2
    obtain ⟨s', mv, k1, k2⟩ := h1
    rw [show a + 1 + b = (a + b) + 1 by omega]
    exact ⟨s', mv, k1, ih k2 h2⟩
theorem mKn_cg {W s s' k : Nat} {c : Int} : ∀ n, (∀ u, u < n → u ≠ k → mDg s' u = mDg s u) → mKn W s' k c n = mKn W s k c n := by
  intro n
  induction n with
  | zero => intro _; rfl
  | succ n ih =>
    intro h
    show mKn W s' k c n + _ = mKn W s k c n + _
    rw [ih (fun u hu => h u (by omega))]
    by_cases e : n = k
    · subst e
      rw [if_neg (fun q => q.1 rfl), if_neg (fun q => q.1 rfl)]
    · rw [h n (by omega) e]
def kS (J : Nat → Nat → Int) (W p p' : Nat) : Prop := ∃ dir : Nat, dir < 4 ∧ mStep J (mCe W p) (dir : Int) = mCe W p'
/-- a knot and a row of places that it goes along with: who is gone here may still stand there -/
def kSim (J : Nat → Nat → Int) (W A m s : Nat) (P : knP) : Prop := kn_good P ∧ ∀ t, t < 3 → mDg s t = 36 ∨ (t < m ∧ mDg s t < A ∧ mCe W (mDg s t) ≠ J 104 (334 + (J 117 t).toNat) ∧ ∃ v, P t = some v ∧ v / 2 = mDg s t ∧ (v % 2 = 1 → J 104 (210 + (mCe W (v / 2)).toNat) = 1))
theorem kWalk {J : Nat → Nat → Int} {W H m t : Nat} (hI : mInv J) (hW : J 104 0 = (W : Int)) (hH : J 104 1 = (H : Int)) (hA : W * H ≤ 36) (hm3 : m ≤ 3) (ht : t < m) : ∀ (l : List Nat) (s p0 : Nat), mVs (W * H) m s → mDg s t = p0 → p0 < W * H → mCe W p0 ≠ J 104 (334 + (J 117 t).toNat) → kn_ch (kS J W) p0 l → (∀ p, p ∈ l → p < W * H ∧ (mKn W s t (mCe W p) m : Int) ≤ J 104 (210 + (mCe W p).toNat)) →
    ∃ n s', n ≤ l.length ∧ mCh J W m n s s' ∧ mVs (W * H) m s' ∧ (∀ u, u < 3 → u ≠ t → mDg s' u = mDg s u) ∧ (mDg s' t = 36 ∨ (mDg s' t = kn_last p0 l ∧ kn_last p0 l < W * H ∧ mCe W (kn_last p0 l) ≠ J 104 (334 + (J 117 t).toNat))) := by
  have hM := hI.1
  have hw10 : W ≤ 10 := by have := hM.2.1; omega
  intro l
  induction l with
  | nil =>
    intro s p0 hv hd hp hb _ _
    exact ⟨0, s, Nat.le_refl _, rfl, hv, fun _ _ _ => rfl, .inr ⟨hd, hp, hb⟩⟩
  | cons p1 l ih =>
    intro s p0 hv hd hp hb hc hr
    obtain ⟨⟨dir, hdir, hst⟩, hc2⟩ := hc
    obtain ⟨q1, q2⟩ := hr p1 List.mem_cons_self
    have c1 := mCe_cell hw10 q1 (by omega)
    have n1 : 0 ≤ mCe W p1 := c1.1
    have pc := mPc_Ce hw10 q1 (by omega)
    have mk : ∀ p' : Nat, p' = (if mCe W p1 = J 104 (334 + (J 117 t).toNat) then 36 else p1) → ∃ s', mSu J W m s s' (4 * t + dir) ∧ mDg s' t = p' ∧ ∀ u, u < 3 → u ≠ t → mDg s' u = mDg s u := by
      intro p' hp'
      obtain ⟨s', e2, l2, g1, g2⟩ := mDg_set (p := p') hv.1 (show t < 3 by omega) (by rw [hp']; split <;> omega)
      refine ⟨s', ⟨t, dir, ht, hdir, rfl, by omega, ?_, ?_, ?_⟩, g1, g2⟩
      · rw [hd, hst]; exact n1
      · rw [hd, hst]; exact q2
      · rw [hd, hst, pc, ← hp', ← hd]; exact e2
    by_cases hb1 : mCe W p1 = J 104 (334 + (J 117 t).toNat)
    · obtain ⟨s', u1, u2, u3⟩ := mk 36 (by rw [if_pos hb1])
      exact ⟨1, s', by simp, ⟨s', _, u1, rfl⟩, mSu_vs hM hW hH hA hm3 hv u1, u3, .inl u2⟩
    · obtain ⟨s1, u1, u2, u3⟩ := mk p1 (by rw [if_neg hb1])
      obtain ⟨n, s', x1, x2, x3, x4, x5⟩ := ih s1 p1 (mSu_vs hM hW hH hA hm3 hv u1) u2 q1 hb1 hc2 (fun p hpm => by
        obtain ⟨y1, y2⟩ := hr p (List.mem_cons_of_mem _ hpm)
        refine ⟨y1, ?_⟩
        rw [mKn_cg m (fun u hu hne => u3 u (by omega) hne)]; exact y2)
      exact ⟨n + 1, s', by simp; omega, ⟨s1, _, u1, x2⟩, x3, fun u hu hne => by rw [x4 u hu hne]; exact u3 u hu hne, x5⟩
theorem kn_last_map (f : Nat → Nat) : ∀ (l : List Nat) (x : Nat), kn_last (f x) (l.map f) = f (kn_last x l) := by
  intro l
  induction l with
  | nil => intro x; rfl
  | cons a t ih => intro x; exact ih a
theorem kn_ch_map {J : Nat → Nat → Int} {W A : Nat} : ∀ (l : List Nat) (x : Nat), kn_ch (kE J W A) x l → kn_ch (kS J W) (x / 2) (l.map (fun v => v / 2)) ∧ ∀ w, w ∈ l → w < 2 * A ∧ (w % 2 = 1 → J 104 (210 + (mCe W (w / 2)).toNat) = 1) := by
  intro l
  induction l with
  | nil => intro x _; exact ⟨trivial, fun w h => absurd h List.not_mem_nil⟩
  | cons a t ih =>
    intro x h
    obtain ⟨⟨e1, e2, e3⟩, h2⟩ := h
    obtain ⟨i1, i2⟩ := ih a h2
    refine ⟨⟨e3, i1⟩, fun w hw => ?_⟩
    rcases List.mem_cons.mp hw with e | e
    · subst e; exact ⟨e1, e2⟩
    · exact i2 w e
theorem kn_short {n : Nat} {l : List Nat} (h : l.Nodup) (hb : ∀ x, x ∈ l → x < n) : l.length ≤ n := by
  have := List.Nodup.length_le_of_subset h (l₂ := List.range n) (fun x hx => List.mem_range.mpr (hb x hx))
  rw [List.length_range] at this
  exact this
/-- a run is at most 35 STEPS -/
theorem kRun {J : Nat → Nat → Int} {W H m s t : Nat} {P Q : knP} (hI : mInv J) (hW : J 104 0 = (W : Int)) (hH : J 104 1 = (H : Int)) (hA : W * H ≤ 36) (hm3 : m ≤ 3) (hv : mVs (W * H) m s) (hs : kSim J W (W * H) m s P) (hr : kn_run (kE J W (W * H)) (kX J W) t P Q) : ∃ n s', n ≤ 35 ∧ mCh J W m n s s' ∧ mVs (W * H) m s' ∧ kSim J W (W * H) m s' Q := by
  have hM := hI.1
  have hw10 : W ≤ 10 := by have := hM.2.1; omega
  obtain ⟨x, l, hP, hch, hfr, hQ⟩ := hr
  have t3 : t < 3 := by
    apply Classical.byContradiction
    intro q
    rw [hs.1.1 t (by omega)] at hP; cases hP
  have gQ : kn_good Q := by
    rcases hQ with e | ⟨_, e⟩
    · subst e
      refine kn_good_upd hs.1 t3 (fun u hne hu => ?_)
      rcases kn_last_mem x l with g | g
      · rw [g] at hu; exact hne (hs.1.2 u t x hu hP)
      · exact hfr _ g u hne hu
    · subst e; exact kn_good_none hs.1
  have other : ∀ u, u ≠ t → Q u = P u := fun u hne => by
    rcases hQ with e | ⟨_, e⟩
    · subst e; exact kn_upd_ne _ _ hne
    · subst e; exact kn_upd_ne _ _ hne
  rcases hs.2 t t3 with h36 | ⟨htm, hdA, hnb, v, hv1, hv2, hv3⟩
  · refine ⟨0, s, Nat.zero_le _, rfl, hv, gQ, fun u hu => ?_⟩
    by_cases e : u = t
    · subst e; exact .inl h36
    · rw [other u e]; exact hs.2 u hu
  · have ex : v = x := by rw [hv1] at hP; cases hP; rfl
    subst ex
    obtain ⟨m1, m2⟩ := kn_ch_map l v hch
    obtain ⟨l', a1, a2, a3, a4⟩ := kn_simple _ (v / 2) _ (Nat.le_refl _) m1
    have mem' : ∀ p, p ∈ l' → ∃ w, w ∈ l ∧ w / 2 = p := fun p hp => List.mem_map.mp (a3 p hp)
    have len : l'.length ≤ 35 := by
      have := kn_short a4 (n := W * H) (fun y hy => by
        rcases List.mem_cons.mp hy with e | e
        · omega
        · obtain ⟨w, w1, w2⟩ := mem' y e
          have := (m2 w w1).1
          omega)
      simp at this
      omega
    have room : ∀ p, p ∈ l' → p < W * H ∧ (mKn W s t (mCe W p) m : Int) ≤ J 104 (210 + (mCe W p).toNat) := by
      intro p hp
      obtain ⟨w, w1, w2⟩ := mem' p hp
      obtain ⟨w3, w4⟩ := m2 w w1
      have pA : p < W * H := by omega
      have cc := mCe_cell hw10 pA (by omega)
      have c100 := mCell_100 (W := (W : Int)) (H := (H : Int)) (by have := hM.2.1; omega) (by have := hM.2.2.2.1; omega) cc
      have hrm := hI.2.2.1 (mCe W p).toNat (by omega)
      -- who is there stands on another place of the CELL
      have on : ∀ u, u < m → u ≠ t → mCe W (mDg s u) = mCe W p → ∃ y, P u = some y ∧ y / 2 = p ∧ y ≠ w ∧ (y % 2 = 1 → J 104 (210 + (mCe W p).toNat) = 1) := by
        intro u hu hne hc
        rcases hs.2 u (by omega) with h36 | ⟨_, hdu, _, y, y1, y2, y3⟩
        · exfalso
          rw [h36] at hc
          have : mCe W 36 = -1 := if_pos rfl
          omega
        · have e1 := mPc_Ce hw10 hdu (by omega)
          have e2 := mPc_Ce hw10 pA (by omega)
          have e3 : mDg s u = p := by rw [← e1, hc, e2]
          refine ⟨y, y1, by omega, fun e => ?_, fun h1 => ?_⟩
          · subst e; exact hfr _ w1 u hne y1
          · rw [← e3, ← y2]; exact y3 h1
      refine ⟨pA, ?_⟩
      by_cases hz : J 104 (210 + (mCe W p).toNat) = 0
      · rw [mKn_0 m (fun u hu hne hc => ?_), hz]
        · exact Int.le_refl _
        · obtain ⟨y, y1, y2, y3, y4⟩ := on u hu hne hc
          rw [w2] at w4
          have b1 : ¬ (w % 2 = 1) := fun q => by have := w4 q; omega
          have b2 : ¬ (y % 2 = 1) := fun q => by have := y4 q; omega
          omega
      · have g := mKn_le1 (W := W) (s := s) (k := t) (c := mCe W p) m (fun u1 u2 h1 h2 n1 n2 c1 c2 => by
          obtain ⟨y, y1, y2, y3, _⟩ := on u1 h1 n1 c1
          obtain ⟨y', z1, z2, z3, _⟩ := on u2 h2 n2 c2
          have : y = y' := by omega
          subst this
          exact hs.1.2 u1 u2 y y1 z1)
        omega
    obtain ⟨n, s', x1, x2, x3, x4, x5⟩ := kWalk hI hW hH hA hm3 htm l' s (v / 2) hv hv2.symm (by omega) (by rw [hv2]; exact hnb) a1 room
    have elast : kn_last (v / 2) l' = kn_last v l / 2 := by rw [a2]; exact kn_last_map (fun y => y / 2) l v
    refine ⟨n, s', by omega, x2, x3, gQ, fun u hu => ?_⟩
    by_cases e : u = t
    · subst e
      rcases x5 with g | ⟨g1, g2, g3⟩
      · exact .inl g
      · rw [elast] at g1 g2 g3
        rcases hQ with e | ⟨eX, e⟩
        · right
          refine ⟨htm, by omega, by rw [g1]; exact g3, kn_last v l, by subst e; exact kn_upd_same _ _ _, g1.symm, ?_⟩
          rcases kn_last_mem v l with c | c
          · rw [c]; exact hv3
          · exact (m2 _ c).2
        · exact absurd eX g3
    · rw [other u e, x4 u hu e]; exact hs.2 u hu
theorem mCh_short {J : Nat → Nat → Int} {W H m s r : Nat} {P : knP} (hI : mInv J) (hW : J 104 0 = (W : Int)) (hH : J 104 1 = (H : Int)) (hA : W * H ≤ 36) (hm3 : m ≤ 3) (hv : mVs (W * H) m s) (hP : kR J W (W * H) s P) (hnb : ∀ t, t < m → mDg s t ≠ 36 → mCe W (mDg s t) ≠ J 104 (334 + (J 117 t).toNat)) (h : mCh J W m r s 50652) : ∃ n, n ≤ 315 ∧ mCh J W m n s 50652 := by
  have sol : ∀ (r s : Nat) (P : knP), mVs (W * H) m s → kR J W (W * H) s P → mCh J W m r s 50652 → kn_sol (kE J W (W * H)) (kX J W) r P := by
    intro r
    induction r with
    | zero =>
      intro s P _ hP h
      have es : s = 50652 := h
      subst es
      refine ⟨0, Nat.le_refl _, ?_⟩
      show P = kn_none
      funext u
      by_cases e : u < 3
      · refine (hP.2 u e).1 ?_
        rcases (show u = 0 ∨ u = 1 ∨ u = 2 by omega) with rfl | rfl | rfl <;> rfl
      · exact hP.1.1 u (by omega)
    | succ r ih =>
      intro s P hv hP h
      obtain ⟨s', mv, h1, h2⟩ := h
      obtain ⟨t, Q, q1, q2⟩ := kR_step hI hW hH hA hm3 hv h1 hP
      obtain ⟨k, k1, k2⟩ := ih s' Q (mSu_vs hI.1 hW hH hA hm3 hv h1) q2 h2
      exact ⟨k + 1, by omega, t, Q, q1, k2⟩
  obtain ⟨k, k9, hk⟩ := kn_nine hP.1 (sol r s P hv hP h)
  have go : ∀ (k s : Nat) (P : knP), mVs (W * H) m s → kSim J W (W * H) m s P → kn_re (kE J W (W * H)) (kX J W) k P kn_none → ∃ n, n ≤ 35 * k ∧ mCh J W m n s 50652 := by
    intro k
    induction k with
    | zero =>
      intro s P hv hs hre
      have eP : P = kn_none := hre
      subst eP
      refine ⟨0, Nat.zero_le _, ?_⟩
      have d : ∀ t, t < 3 → mDg s t = 36 := fun t ht => by
        rcases hs.2 t ht with g | ⟨_, _, _, v, g, _⟩
        · exact g
        · cases g
      show s = 50652
      have g := mDg_sum s
      rw [d 0 (by omega), d 1 (by omega), d 2 (by omega)] at g
      rw [g]; rfl
    | succ k ih =>
      intro s P hv hs hre
      obtain ⟨t, R, r1, r2⟩ := hre
      obtain ⟨n, s', x1, x2, x3, x4⟩ := kRun hI hW hH hA hm3 hv hs r1
      obtain ⟨n2, y1, y2⟩ := ih s' R x3 x4 r2
      exact ⟨n + n2, by omega, mCh_tr x2 y2⟩
  have sim : kSim J W (W * H) m s P := by
    refine ⟨hP.1, fun t ht => ?_⟩
    by_cases e : mDg s t = 36
    · exact .inl e
    · have tm : t < m := by
        apply Classical.byContradiction
        intro q
        exact e ((hv.2 t ht).2 (by omega))
      obtain ⟨v, v1, v2, v3, v4⟩ := (hP.2 t ht).2 e
      have dA : mDg s t < W * H := by
        rcases (hv.2 t ht).1 tm with g | g
        · exact absurd g e
        · exact g
      exact .inr ⟨tm, dA, hnb t tm e, v, v1, v2, v4⟩
  obtain ⟨n, n1, n2⟩ := go k s P hv sim hk
  exact ⟨n, by omega, n2⟩
