/-! THE REFERENCE's CONTRACTS: the knot, 5: STEPS and runs. -/
theorem mKn_0 {W s k : Nat} {c : Int} : ∀ n, (∀ u, u < n → u ≠ k → mCe W (mDg s u) ≠ c) → mKn W s k c n = 0 := by
  intro n
  induction n with
  | zero => intro _; rfl
  | succ n ih =>
    intro h
    show mKn W s k c n + _ = 0
    rw [ih (fun u hu => h u (by omega)), if_neg (fun q => h n (by omega) q.1 q.2)]
theorem mKn_ge1 {W s k u : Nat} {c : Int} (h1 : u ≠ k) (h2 : mCe W (mDg s u) = c) : ∀ n, u < n → 1 ≤ mKn W s k c n := by
  intro n
  induction n with
  | zero => intro h; omega
  | succ n ih =>
    intro h
    show 1 ≤ mKn W s k c n + _
    by_cases e : u = n
    · subst e; rw [if_pos ⟨h1, h2⟩]; omega
    · have := ih (by omega); omega
theorem mKn_ge2 {W s k u v : Nat} {c : Int} (h1 : u ≠ k) (h2 : mCe W (mDg s u) = c) (h3 : v ≠ k) (h4 : mCe W (mDg s v) = c) (huv : u < v) : ∀ n, v < n → 2 ≤ mKn W s k c n := by
  intro n
  induction n with
  | zero => intro h; omega
  | succ n ih =>
    intro h
    show 2 ≤ mKn W s k c n + _
    by_cases e : v = n
    · subst e
      have := mKn_ge1 (k := k) h1 h2 v huv
      rw [if_pos ⟨h3, h4⟩]; omega
    · have := ih (by omega); omega
theorem mKn_le1 {W s k : Nat} {c : Int} : ∀ n, (∀ u v, u < n → v < n → u ≠ k → v ≠ k → mCe W (mDg s u) = c → mCe W (mDg s v) = c → u = v) → mKn W s k c n ≤ 1 := by
  intro n
  induction n with
  | zero => intro _; exact Nat.zero_le _
  | succ n ih =>
    intro h
    show mKn W s k c n + (if n ≠ k ∧ mCe W (mDg s n) = c then 1 else 0) ≤ 1
    by_cases e : n ≠ k ∧ mCe W (mDg s n) = c
    · rw [if_pos e, mKn_0 n (fun u hu hk hc => by have := h u n (by omega) (by omega) hk e.1 hc e.2; omega)]
      omega
    · rw [if_neg e]
      exact ih (fun u v hu hv => h u v (by omega) (by omega))
theorem mPc_Ce {W H p : Nat} (hW : W ≤ 10) (hp : p < W * H) (h36 : p ≠ 36) : mPc W (mCe W p) = p := by
  have hW0 : 0 < W := by
    rcases Nat.eq_zero_or_pos W with e | e
    · rw [e, Nat.zero_mul] at hp; omega
    · exact e
  have h2 : p % W < W := Nat.mod_lt _ hW0
  have h3 := Nat.div_add_mod p W
  unfold mPc mCe
  rw [if_neg h36, if_pos (by omega), show (((p / W * 10 + p % W : Nat) : Int)).toNat = p / W * 10 + p % W by omega]
  rw [Nat.mul_comm] at h3
  generalize hq : p / W = a at *
  generalize p % W = b at *
  rw [show (a * 10 + b) / 10 = a by omega, show (a * 10 + b) % 10 = b by omega]
  exact h3
theorem mCe_Pc {W H : Nat} {c : Int} (hW : W ≤ 10) (hc : mCell (W : Int) (H : Int) c) (hA : W * H ≤ 36) : mCe W (mPc W c) = c := by
  have hp := (mPc_lt hc hA).2
  unfold mCell at hc
  obtain ⟨q, rfl⟩ : ∃ q : Nat, c = (q : Int) := ⟨c.toNat, by omega⟩
  unfold mCe
  rw [if_neg (by omega)]
  unfold mPc
  rw [if_pos (by omega), show ((q : Int)).toNat = q by omega]
  have h2 : q % 10 < W := by omega
  have d1 : (q / 10 * W + q % 10) / W = q / 10 := by
    rw [Nat.mul_comm, Nat.mul_add_div (by omega), Nat.div_eq_of_lt h2]; rfl
  have d2 : (q / 10 * W + q % 10) % W = q % 10 := by
    rw [Nat.mul_comm, Nat.mul_add_mod, Nat.mod_eq_of_lt h2]
  rw [d1, d2]
  omega
/-- STEPS between places (twice a CELL's number, and 1 more: its second ROOM) -/
def kE (J : Nat → Nat → Int) (W A v w : Nat) : Prop := w < 2 * A ∧ (w % 2 = 1 → J 104 (210 + (mCe W (w / 2)).toNat) = 1) ∧ ∃ dir : Nat, dir < 4 ∧ mStep J (mCe W (v / 2)) (dir : Int) = mCe W (w / 2)
def kX (J : Nat → Nat → Int) (W t v : Nat) : Prop := mCe W (v / 2) = J 104 (334 + (J 117 t).toNat)
/-- a knot and a row of places for it -/
def kR (J : Nat → Nat → Int) (W A s : Nat) (P : knP) : Prop := kn_good P ∧ ∀ t, t < 3 → (mDg s t = 36 → P t = none) ∧ (mDg s t ≠ 36 → ∃ v, P t = some v ∧ v / 2 = mDg s t ∧ v < 2 * A ∧ (v % 2 = 1 → J 104 (210 + (mCe W (v / 2)).toNat) = 1))
theorem kn_good_upd {P : knP} {t w : Nat} (h : kn_good P) (ht : t < 3) (hf : ∀ u, u ≠ t → P u ≠ some w) : kn_good (kn_upd P t (some w)) := by
  refine ⟨fun u hu => by rw [kn_upd_ne _ _ (by omega)]; exact h.1 u hu, fun a b v ha hb => ?_⟩
  by_cases e1 : a = t
  · subst e1
    rw [kn_upd_same] at ha
    cases ha
    by_cases e2 : b = a
    · exact e2.symm
    · rw [kn_upd_ne _ _ e2] at hb; exact absurd hb (hf b e2)
  · rw [kn_upd_ne _ _ e1] at ha
    by_cases e2 : b = t
    · subst e2
      rw [kn_upd_same] at hb
      cases hb
      exact absurd ha (hf a e1)
    · rw [kn_upd_ne _ _ e2] at hb; exact h.2 a b v ha hb
theorem kn_good_none {P : knP} {t : Nat} (h : kn_good P) : kn_good (kn_upd P t none) := by
  refine ⟨fun u hu => ?_, fun a b v ha hb => ?_⟩
  · by_cases e : u = t
    · subst e; exact kn_upd_same _ _ _
    · rw [kn_upd_ne _ _ e]; exact h.1 u hu
  · by_cases e1 : a = t
    · subst e1; rw [kn_upd_same] at ha; cases ha
    · by_cases e2 : b = t
      · subst e2; rw [kn_upd_same] at hb; cases hb
      · rw [kn_upd_ne _ _ e1] at ha
        rw [kn_upd_ne _ _ e2] at hb
        exact h.2 a b v ha hb
/-- a STEP is a run -/
theorem kR_step {J : Nat → Nat → Int} {W H m s s' mv : Nat} {P : knP} (hI : mInv J) (hW : J 104 0 = (W : Int)) (hH : J 104 1 = (H : Int)) (hA : W * H ≤ 36) (hm3 : m ≤ 3) (hv : mVs (W * H) m s) (hu : mSu J W m s s' mv) (hr : kR J W (W * H) s P) : ∃ t Q, kn_run (kE J W (W * H)) (kX J W) t P Q ∧ kR J W (W * H) s' Q := by
  have hM := hI.1
  have hw10 : W ≤ 10 := by have := hM.2.1; omega
  obtain ⟨k, dir, hk, hd, _, h36, hto, hroom, he⟩ := hu
  have hst := @mStep_rng J hM (mCe W (mDg s k)) (dir : Int)
  generalize hto' : mStep J (mCe W (mDg s k)) (dir : Int) = to at *
  have hc : mCell (W : Int) (H : Int) to := by
    rcases hst with e | e
    · omega
    · rw [hW, hH] at e; exact e.1
  have hp := mPc_lt hc hA
  have hcp := mCe_Pc hw10 hc hA
  have hrm := hI.2.2.1 to.toNat (by unfold mCell at hc; have := hM.2.2.2.1; omega)
  generalize hpp : mPc W to = p at *
  obtain ⟨v, v1, v2, v3, v4⟩ := (hr.2 k (by omega)).2 h36
  -- who is on that CELL is counted
  have on : ∀ u w, u ≠ k → P u = some w → w / 2 = p → u < m ∧ mCe W (mDg s u) = to := by
    intro u w hne hP hw
    have u3 : u < 3 := by
      apply Classical.byContradiction
      intro q
      rw [hr.1.1 u (by omega)] at hP; cases hP
    have d36 : mDg s u ≠ 36 := fun q => by rw [(hr.2 u u3).1 q] at hP; cases hP
    obtain ⟨w', a, b, _⟩ := (hr.2 u u3).2 d36
    have ew : w' = w := by rw [a] at hP; cases hP; rfl
    subst ew
    refine ⟨?_, by rw [← b, hw]; exact hcp⟩
    apply Classical.byContradiction
    intro q
    exact d36 ((hv.2 u u3).2 (by omega))
  obtain ⟨w, w1, w2, w3⟩ : ∃ w, w / 2 = p ∧ (w % 2 = 1 → J 104 (210 + (mCe W (w / 2)).toNat) = 1) ∧ ∀ u, u ≠ k → P u ≠ some w := by
    by_cases h0 : ∃ u, u ≠ k ∧ P u = some (2 * p)
    · obtain ⟨u1, n1, q1⟩ := h0
      obtain ⟨x1, x2⟩ := on u1 (2 * p) n1 q1 (by omega)
      have g1 := mKn_ge1 (k := k) n1 x2 m x1
      refine ⟨2 * p + 1, by omega, fun _ => by rw [show (2 * p + 1) / 2 = p by omega, hcp]; omega, fun u2 n2 q2 => ?_⟩
      obtain ⟨y1, y2⟩ := on u2 (2 * p + 1) n2 q2 (by omega)
      rcases Nat.lt_trichotomy u1 u2 with c | c | c
      · have g := mKn_ge2 (k := k) n1 x2 n2 y2 c m y1; omega
      · subst c; rw [q1] at q2; have := Option.some.inj q2; omega
      · have g := mKn_ge2 (k := k) n2 y2 n1 x2 c m x1; omega
    · exact ⟨2 * p, by omega, fun q => by omega, fun u hne hP => h0 ⟨u, hne, hP⟩⟩
  have hE : kE J W (W * H) v w := ⟨by omega, w2, dir, hd, by rw [v2, w1, hcp]; exact hto'⟩
  have hch : kn_ch (kE J W (W * H)) v [w] := ⟨hE, trivial⟩
  have hfr : kn_free P k [w] := fun x hx u hne => by
    rw [List.mem_singleton.mp hx]; exact w3 u hne
  by_cases hb : to = J 104 (334 + (J 117 k).toNat)
  · rw [if_pos hb] at he
    obtain ⟨s2, e2, l2, g1, g2⟩ := mDg_set (p := 36) hv.1 (show k < 3 by omega) (by omega)
    have es : s2 = s' := by omega
    subst es
    refine ⟨k, kn_upd P k none, ⟨v, [w], v1, hch, hfr, .inr ⟨?_, rfl⟩⟩, kn_good_none hr.1, fun t ht => ?_⟩
    · show mCe W (w / 2) = _
      rw [w1, hcp]; exact hb
    · by_cases e : t = k
      · subst e; exact ⟨fun _ => kn_upd_same _ _ _, fun q => absurd g1 q⟩
      · rw [kn_upd_ne _ _ e, g2 t ht e]; exact hr.2 t ht
  · rw [if_neg hb] at he
    obtain ⟨s2, e2, l2, g1, g2⟩ := mDg_set (p := p) hv.1 (show k < 3 by omega) (by omega)
    have es : s2 = s' := by omega
    subst es
    refine ⟨k, kn_upd P k (some w), ⟨v, [w], v1, hch, hfr, .inl rfl⟩, kn_good_upd hr.1 (by omega) w3, fun t ht => ?_⟩
    by_cases e : t = k
    · subst e
      refine ⟨fun q => by rw [g1] at q; omega, fun _ => ⟨w, kn_upd_same _ _ _, by rw [g1]; exact w1, by omega, w2⟩⟩
    · rw [kn_upd_ne _ _ e, g2 t ht e]; exact hr.2 t ht
