/-! THE CLASS's KNOTS, 2: a search in the order in which knots are come to, without a heap. -/
/-- Q: the row; Sn: the marks; q: how many; pf, mf: from which of the row and by which STEP each was come to; (h, v): up to where it went on -/
def cBf (Mv : Nat → Nat → Nat → Prop) (M : Nat) (Q Sn : Nat → Int) (q : Nat) (pf mf : Nat → Nat) (h v : Nat) : Prop :=
  1 ≤ q ∧ (∀ i, i < q → ∃ x : Nat, x < M ∧ Q i = (x : Int)) ∧ (∀ i j, i < q → j < q → Q i = Q j → i = j) ∧
  (∀ x : Nat, x < M → Sn x ≠ 0 → ∃ i, i < q ∧ Q i = (x : Int)) ∧ (∀ i (x : Nat), i < q → Q i = (x : Int) → Sn x ≠ 0) ∧
  (∀ i, 0 < i → i < q → pf i < i ∧ (pf i < h ∨ (pf i = h ∧ mf i < v)) ∧ mf i < 12 ∧ ∀ x y : Nat, Q (pf i) = (x : Int) → Q i = (y : Int) → Mv x (mf i) y ∧ Sn y = (mf i : Int) + 1) ∧
  (∀ i j, 0 < i → i < j → j < q → pf i < pf j ∨ (pf i = pf j ∧ mf i < mf j)) ∧
  (∀ i u, i < q → u < 12 → (i < h ∨ (i = h ∧ u < v)) → ∀ x y : Nat, Q i = (x : Int) → Mv x u y → ∃ j, j < q ∧ Q j = (y : Int) ∧ (j = 0 ∨ pf j < i ∨ (pf j = i ∧ mf j ≤ u)))
def cUp (f : Nat → Nat) (i v : Nat) : Nat → Nat := fun j => if j = i then v else f j
theorem cUp_same (f : Nat → Nat) (i v : Nat) : cUp f i v i = v := if_pos rfl
theorem cUp_ne (f : Nat → Nat) {i j : Nat} (v : Nat) (h : j ≠ i) : cUp f i v j = f j := if_neg h
section Cb
variable {Mv : Nat → Nat → Nat → Prop} {M : Nat} {Q Sn Q' Sn' : Nat → Int} {q : Nat} {pf mf : Nat → Nat} {h v : Nat}
/-- there are no more than knots -/
theorem cBf_le (b : cBf Mv M Q Sn q pf mf h v) : q ≤ M := by
  obtain ⟨b1, b2, b3, -⟩ := b
  have nd : ((List.range q).map (fun i => (Q i).toNat)).Nodup := by
    show List.Pairwise (fun a b => a ≠ b) _
    refine List.pairwise_map.mpr ?_
    refine List.Pairwise.imp_of_mem ?_ (List.nodup_range : (List.range q).Nodup)
    intro i j hi hj hne e
    obtain ⟨x, x1, x2⟩ := b2 i (List.mem_range.mp hi)
    obtain ⟨y, y1, y2⟩ := b2 j (List.mem_range.mp hj)
    exact hne (b3 i j (List.mem_range.mp hi) (List.mem_range.mp hj) (by omega))
  have := gk_short nd (n := M) (fun x hx => by
    obtain ⟨i, hi, rfl⟩ := List.mem_map.mp hx
    obtain ⟨x, x1, x2⟩ := b2 i (List.mem_range.mp hi)
    omega)
  rw [List.length_map, List.length_range] at this
  exact this
theorem cBf_cg (b : cBf Mv M Q Sn q pf mf h v) (eQ : ∀ i, i < q → Q' i = Q i) (eS : ∀ x, x < M → Sn' x = Sn x) : cBf Mv M Q' Sn' q pf mf h v := by
  obtain ⟨b1, b2, b3, b4, b5, b6, b7, b8⟩ := b
  refine ⟨b1, fun i hi => by rw [eQ i hi]; exact b2 i hi, fun i j hi hj => by rw [eQ i hi, eQ j hj]; exact b3 i j hi hj, fun x hx hs => ?_, fun i x hi hx => ?_, fun i h0 hi => ?_, b7, fun i u hi hu hl x y hx hm => ?_⟩
  · rw [eS x hx] at hs
    obtain ⟨i, i1, i2⟩ := b4 x hx hs
    exact ⟨i, i1, by rw [eQ i i1]; exact i2⟩
  · rw [eQ i hi] at hx
    obtain ⟨x', x1, x2⟩ := b2 i hi
    have : x' = x := by omega
    subst this
    rw [eS x' x1]; exact b5 i x' hi hx
  · obtain ⟨c1, c2, c3, c4⟩ := b6 i h0 hi
    refine ⟨c1, c2, c3, fun x y hx hy => ?_⟩
    rw [eQ _ (by omega)] at hx
    rw [eQ _ hi] at hy
    obtain ⟨y', y1, y2⟩ := b2 i hi
    have : y' = y := by omega
    subst this
    rw [eS y' y1]
    exact c4 x y' hx hy
  · rw [eQ i hi] at hx
    obtain ⟨j, j1, j2, j3⟩ := b8 i u hi hu hl x y hx hm
    exact ⟨j, j1, by rw [eQ j j1]; exact j2, j3⟩
/-- no such STEP, or to where it was: on -/
theorem cBf_old (b : cBf Mv M Q Sn q pf mf h v) {x : Nat} (hx : Q h = (x : Int)) (ho : ∀ y, Mv x v y → y < M ∧ Sn y ≠ 0) : cBf Mv M Q Sn q pf mf h (v + 1) := by
  obtain ⟨b1, b2, b3, b4, b5, b6, b7, b8⟩ := b
  refine ⟨b1, b2, b3, b4, b5, fun i h0 hi => ?_, b7, fun i u hi hu hl x' y hx' hm => ?_⟩
  · obtain ⟨c1, c2, c3, c4⟩ := b6 i h0 hi
    exact ⟨c1, by omega, c3, c4⟩
  · by_cases e : i = h ∧ u = v
    · obtain ⟨rfl, rfl⟩ := e
      have : x' = x := by omega
      subst this
      obtain ⟨o1, o2⟩ := ho y hm
      obtain ⟨j, j1, j2⟩ := b4 y o1 o2
      refine ⟨j, j1, j2, ?_⟩
      rcases Nat.eq_zero_or_pos j with g | g
      · exact .inl g
      · obtain ⟨_, c2, -⟩ := b6 j g j1
        right
        omega
    · exact b8 i u hi hu (by omega) x' y hx' hm
/-- a new knot -/
theorem cBf_new (b : cBf Mv M Q Sn q pf mf h v) (hh : h < q) (hv : v < 12) {x y : Nat} (hx : Q h = (x : Int)) (hf : ∀ y', Mv x v y' → y' = y) (hm : Mv x v y) (hy : y < M) (h0 : Sn y = 0)
    (eQ : ∀ i, i < q → Q' i = Q i) (eq : Q' q = (y : Int)) (eS : ∀ x, x < M → x ≠ y → Sn' x = Sn x) (es : Sn' y = (v : Int) + 1) : cBf Mv M Q' Sn' (q + 1) (cUp pf q h) (cUp mf q v) h (v + 1) := by
  obtain ⟨b1, b2, b3, b4, b5, b6, b7, b8⟩ := b
  have fresh : ∀ i, i < q → Q i ≠ (y : Int) := fun i hi e => b5 i y hi e h0
  refine ⟨by omega, fun i hi => ?_, fun i j hi hj he => ?_, fun x' hx' hs => ?_, fun i x' hi he => ?_, fun i g0 hi => ?_, fun i j g0 hij hj => ?_, fun i u hi hu hl x' y' hx' hm' => ?_⟩
  · by_cases e : i = q
    · subst e; exact ⟨y, hy, eq⟩
    · rw [eQ i (by omega)]; exact b2 i (by omega)
  · by_cases e : i = q
    · by_cases e2 : j = q
      · omega
      · subst e
        rw [eq, eQ j (by omega)] at he
        exact absurd he.symm (fresh j (by omega))
    · by_cases e2 : j = q
      · subst e2
        rw [eq, eQ i (by omega)] at he
        exact absurd he (fresh i (by omega))
      · rw [eQ i (by omega), eQ j (by omega)] at he
        exact b3 i j (by omega) (by omega) he
  · by_cases e : x' = y
    · subst e; exact ⟨q, by omega, eq⟩
    · rw [eS x' hx' e] at hs
      obtain ⟨i, i1, i2⟩ := b4 x' hx' hs
      exact ⟨i, by omega, by rw [eQ i i1]; exact i2⟩
  · by_cases e : i = q
    · subst e
      rw [eq] at he
      have : x' = y := by omega
      subst this
      rw [es]; omega
    · rw [eQ i (by omega)] at he
      obtain ⟨x2, g1, g2⟩ := b2 i (by omega)
      have ex : x2 = x' := by omega
      subst ex
      rw [eS x2 g1 (fun e2 => by subst e2; exact fresh i (by omega) he)]
      exact b5 i x2 (by omega) he
  · by_cases e : i = q
    · subst e
      rw [cUp_same, cUp_same]
      refine ⟨hh, .inr ⟨rfl, by omega⟩, hv, fun x' y' hx' hy' => ?_⟩
      rw [eQ h hh] at hx'
      rw [eq] at hy'
      have e1 : x' = x := by omega
      have e2 : y' = y := by omega
      subst e1 e2
      exact ⟨hm, es⟩
    · rw [cUp_ne _ _ e, cUp_ne _ _ e]
      obtain ⟨c1, c2, c3, c4⟩ := b6 i g0 (by omega)
      refine ⟨c1, by omega, c3, fun x' y' hx' hy' => ?_⟩
      rw [eQ _ (by omega)] at hx' hy'
      obtain ⟨m1, m2⟩ := c4 x' y' hx' hy'
      obtain ⟨x2, g1, g2⟩ := b2 i (by omega)
      have ex : x2 = y' := by omega
      subst ex
      refine ⟨m1, ?_⟩
      rw [eS x2 g1 (fun e2 => by subst e2; exact fresh i (by omega) hy')]
      exact m2
  · by_cases e2 : j = q
    · subst e2
      rw [cUp_same, cUp_same, cUp_ne _ _ (by omega), cUp_ne _ _ (by omega)]
      obtain ⟨_, c2, -⟩ := b6 i g0 (by omega)
      exact c2
    · have ci : ∀ (f : Nat → Nat) v, cUp f q v i = f i := fun f v => cUp_ne f v (by omega)
      have cj : ∀ (f : Nat → Nat) v, cUp f q v j = f j := fun f v => cUp_ne f v e2
      rw [ci, cj, ci, cj]
      exact b7 i j g0 hij (by omega)
  · have hi2 : i < q := by omega
    rw [eQ i hi2] at hx'
    by_cases e : i = h ∧ u = v
    · obtain ⟨rfl, rfl⟩ := e
      have e1 : x' = x := by omega
      subst e1
      have e2 := hf y' hm'
      subst e2
      exact ⟨q, by omega, eq, .inr (.inr ⟨cUp_same _ _ _, by rw [cUp_same]; omega⟩)⟩
    · obtain ⟨j, j1, j2, j3⟩ := b8 i u hi2 hu (by omega) x' y' hx' hm'
      exact ⟨j, by omega, by rw [eQ j j1]; exact j2, by rw [cUp_ne _ _ (by omega), cUp_ne _ _ (by omega)]; exact j3⟩
theorem cBf_next (b : cBf Mv M Q Sn q pf mf h 12) : cBf Mv M Q Sn q pf mf (h + 1) 0 := by
  obtain ⟨b1, b2, b3, b4, b5, b6, b7, b8⟩ := b
  refine ⟨b1, b2, b3, b4, b5, fun i h0 hi => ?_, b7, fun i u hi hu hl x' y hx' hm => b8 i u hi hu (by omega) x' y hx' hm⟩
  obtain ⟨c1, c2, c3, c4⟩ := b6 i h0 hi
  exact ⟨c1, by omega, c3, c4⟩
/-- how many STEPS each is away from the first -/
def cDe (pf : Nat → Nat) : Nat → Nat → Nat
  | 0, _ => 0
  | n + 1, i => if i = 0 then 0 else cDe pf n (pf i) + 1
theorem cDe_fuel {pf : Nat → Nat} {q : Nat} (hp : ∀ i, 0 < i → i < q → pf i < i) : ∀ i n, i ≤ n → i < q → cDe pf n i = cDe pf i i := by
  intro i
  induction i using Nat.strongRecOn with
  | _ i ih =>
    intro n hn hq
    by_cases e : i = 0
    · subst e
      cases n with
      | zero => rfl
      | succ n => exact if_pos rfl
    · have hpi := hp i (by omega) hq
      obtain ⟨n', rfl⟩ : ∃ n', n = n' + 1 := ⟨n - 1, by omega⟩
      obtain ⟨i', hi'⟩ : ∃ i', i = i' + 1 := ⟨i - 1, by omega⟩
      have g1 : cDe pf (n' + 1) i = cDe pf n' (pf i) + 1 := if_neg e
      have g2 : cDe pf i i = cDe pf i' (pf i) + 1 := by
        have : cDe pf (i' + 1) i = cDe pf i' (pf i) + 1 := if_neg e
        rw [← hi'] at this; exact this
      rw [g1, g2, ih _ hpi n' (by omega) (by omega), ih _ hpi i' (by omega) (by omega)]
theorem cDe_step {pf : Nat → Nat} {q i : Nat} (hp : ∀ i, 0 < i → i < q → pf i < i) (h0 : 0 < i) (hq : i < q) : cDe pf i i = cDe pf (pf i) (pf i) + 1 := by
  have hpi := hp i h0 hq
  obtain ⟨i', hi'⟩ : ∃ i', i = i' + 1 := ⟨i - 1, by omega⟩
  have g2 : cDe pf i i = cDe pf i' (pf i) + 1 := by
    have : cDe pf (i' + 1) i = cDe pf i' (pf i) + 1 := if_neg (by omega)
    rw [← hi'] at this; exact this
  rw [g2, cDe_fuel hp _ i' (by omega) (by omega)]
theorem cDe_mono {pf : Nat → Nat} {q : Nat} (hp : ∀ i, 0 < i → i < q → pf i < i) (hm : ∀ i j, 0 < i → i < j → j < q → pf i ≤ pf j) : ∀ j' j, j ≤ j' → j' < q → cDe pf j j ≤ cDe pf j' j' := by
  intro j'
  induction j' using Nat.strongRecOn with
  | _ j' ih =>
    intro j hj hq
    rcases Nat.eq_zero_or_pos j with e | e
    · subst e; exact Nat.zero_le _
    · rw [cDe_step hp e (by omega), cDe_step hp (show 0 < j' by omega) hq]
      have p2 := hp j' (by omega) hq
      have p12 : pf j ≤ pf j' := by
        by_cases e2 : j = j'
        · subst e2; exact Nat.le_refl _
        · exact hm j j' e (by omega) hq
      have := ih (pf j') p2 (pf j) p12 (by omega)
      omega
/-- the search's way is a shortest one -/
theorem cBf_depth {A : Nat} {Ed : Nat → Nat → Prop} {rm bd : Nat → Nat} (b : cBf Mv M Q Sn q pf mf h 0) (hh : h < q) {st : Nat → gSt}
    (hs : ∀ x g, x < M → gM A Ed rm bd (st x) g → ∃ y u, y < M ∧ u < 12 ∧ Mv x u y ∧ st y = g)
    (hinj : ∀ x y, x < M → y < M → st x = st y → x = y) {e : Nat} (he : Q h = (e : Int)) :
    ∀ (n j x : Nat), j < q → Q j = (x : Int) → gC A Ed rm bd n (st x) (st e) → cDe pf h h ≤ cDe pf j j + n := by
  obtain ⟨b1, b2, b3, b4, b5, b6, b7, b8⟩ := b
  have hp : ∀ i, 0 < i → i < q → pf i < i := fun i h0 hi => (b6 i h0 hi).1
  have mono := cDe_mono hp (fun i j h0 hij hj => by have := b7 i j h0 hij hj; omega)
  intro n
  induction n with
  | zero =>
    intro j x hj hx hc
    have ee : st x = st e := hc
    obtain ⟨x', x1, x2⟩ := b2 j hj
    obtain ⟨e', e1, e2⟩ := b2 h hh
    have exx : x' = x := by omega
    have eee : e' = e := by omega
    subst exx eee
    have := hinj x' e' x1 e1 ee
    subst this
    have := b3 j h hj hh (by rw [hx, he])
    subst this
    omega
  | succ n ih =>
    intro j x hj hx hc
    by_cases hjh : h ≤ j
    · have := mono j h hjh hj
      omega
    · obtain ⟨g, g1, g2⟩ := hc
      obtain ⟨x', x1, x2⟩ := b2 j hj
      have exx : x' = x := by omega
      subst exx
      obtain ⟨y, u, y1, u1, m1, sg⟩ := hs x' g x1 g1
      obtain ⟨j', k1, k2, k3⟩ := b8 j u hj u1 (.inl (by omega)) x' y hx m1
      rw [← sg] at g2
      have g := ih j' y k1 k2 g2
      have : cDe pf j' j' ≤ cDe pf j j + 1 := by
        rcases Nat.eq_zero_or_pos j' with e0 | e0
        · subst e0; exact Nat.zero_le _
        · rw [cDe_step hp e0 k1]
          have := mono j (pf j') (by omega) hj
          omega
      omega
end Cb
