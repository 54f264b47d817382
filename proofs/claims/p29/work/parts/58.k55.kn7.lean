/-! KNOTS, 6: rows of runs along known paths; the check is sound. -/
/-- runs since P0: k, the last one by token m, perhaps not at its end -/
def knIP (E X : Nat → Nat → Prop) (out : Nat) (P0 Q : knP) (τ : Nat → Nat) (m k : Nat) : Prop :=
  (m = 3 ∧ k = 0 ∧ Q = P0) ∨ (m < out ∧ 1 ≤ k ∧ ∃ R x l, kn_re E X (k - 1) P0 R ∧ R (τ m) = some x ∧ kn_ch E x l ∧ kn_free R (τ m) l ∧ (Q = kn_upd R (τ m) (some (kn_last x l)) ∨ (X (τ m) (kn_last x l) ∧ Q = kn_upd R (τ m) none)))
theorem knIP_re {E X : Nat → Nat → Prop} {out : Nat} {P0 Q : knP} {τ : Nat → Nat} {m k : Nat} (h : knIP E X out P0 Q τ m k) : kn_re E X k P0 Q := by
  rcases h with ⟨_, hk, e⟩ | ⟨_, hk, R, x, l, h1, h2, h3, h4, h5⟩
  · subst hk; exact e.symm
  · have := kn_re_app (k - 1) 1 P0 R Q h1 ⟨τ m, Q, ⟨x, l, h2, h3, h4, h5⟩, rfl⟩
    rw [show k - 1 + 1 = k by omega] at this
    exact this
theorem knIP_go {E X : Nat → Nat → Prop} {out : Nat} {P0 Q : knP} {τ : Nat → Nat} {m k : Nat} (h : knIP E X out P0 Q τ m k) {m' x : Nat} {l : List Nat} (hm : m' < out) (hx : Q (τ m') = some x) (hc : kn_ch E x l) (hf : kn_free Q (τ m') l) {Q' : knP}
    (hq : Q' = kn_upd Q (τ m') (some (kn_last x l)) ∨ (X (τ m') (kn_last x l) ∧ Q' = kn_upd Q (τ m') none)) (ho : out ≤ 3) : knIP E X out P0 Q' τ m' (@Bool.rec (fun _ => Nat) (k + 1) k (Nat.beq m' m)) := by
  by_cases e : m' = m
  · have : Nat.beq m' m = true := by rw [e]; exact Nat.beq_refl m
    rw [this]
    subst e
    rcases h with ⟨h, _⟩ | ⟨h0, hk, R, y, l1, h1, h2, h3, h4, h5⟩
    · omega
    · rcases h5 with e | ⟨_, e⟩
      · have hxl : kn_last y l1 = x := by rw [e, kn_upd_same] at hx; cases hx; rfl
        refine .inr ⟨hm, hk, R, y, l1 ++ l, h1, h2, (kn_ch_append _ _ _).mpr ⟨h3, hxl ▸ hc⟩, kn_free_append h4 ?_, ?_⟩
        · rw [e] at hf; exact (kn_free_upd _).mp hf
        · rw [kn_last_append, hxl]
          rcases hq with g | ⟨gX, g⟩
          · left; rw [g, e, kn_upd_upd]
          · right; exact ⟨gX, by rw [g, e, kn_upd_upd]⟩
      · rw [e, kn_upd_same] at hx; cases hx
  · rw [kn_nb e]
    exact .inr ⟨hm, Nat.succ_le_succ (Nat.zero_le _), Q, x, l, knIP_re h, hx, hc, hf, hq⟩
theorem knTk_eq {S S' : knP} {out n : Nat} {φ τ T T' : Nat → Nat} (h : knTk S out n φ τ T) (h' : knTk S' out n φ τ T') (hn : n ≤ 12) (he : ∀ a, a < out → T a = T' a) : S = S' := by
  funext t
  rcases Classical.em (∃ a, a < out ∧ t = τ a) with ⟨a, ha, e⟩ | hc
  · subst e
    have e := he a ha
    rcases h.1 a ha with ⟨h1, h2⟩ | ⟨h1, h2⟩
    · rcases h'.1 a ha with ⟨h3, h4⟩ | ⟨h3, h4⟩
      · rw [h2, h4, e]
      · omega
    · rcases h'.1 a ha with ⟨h3, h4⟩ | ⟨h3, h4⟩
      · omega
      · rw [h2, h4]
  · rw [h.2.2 t (fun a ha e => hc ⟨a, ha, e⟩), h'.2.2 t (fun a ha e => hc ⟨a, ha, e⟩)]
theorem kn_p2 {a b : Nat} (h : 2 ^ a = 2 ^ b) : a = b := by
  rcases Nat.lt_trichotomy a b with g | g | g
  · have := Nat.pow_lt_pow_right (a := 2) (by omega) g; omega
  · exact g
  · have := Nat.pow_lt_pow_right (a := 2) (by omega) g; omega
/-- a path more, by token m -/
theorem knMv_ok {E X : Nat → Nat → Prop} {n out : Nat} {P0 Q : knP} {φ τ D : Nat → Nat} {m m' k ed q q' : Nat} (hn : n ≤ 12) (ho : out ≤ 3) (hτ : knInj τ out) (hT : knTk Q out n φ τ D) (hI : knIP E X out P0 Q τ m k) (hm : m' < 3)
    (hed : ed ≠ 0 → knEd E X n out φ τ ed) (h1 : Nat.beq (ed % 65536) (2 ^ D m') = true) (h2 : Nat.beq (Nat.land (ed / 4294967296) (Nat.lor (Nat.lor q q') (2 ^ (12 + m')))) 0 = true)
    (hq : ∀ a, a < 3 → a ≠ m' → 2 ^ D a = q ∨ 2 ^ D a = q') :
    ∃ Q' D', knTk Q' out n φ τ D' ∧ knIP E X out P0 Q' τ m' (@Bool.rec (fun _ => Nat) (k + 1) k (Nat.beq m' m)) ∧ 2 ^ D' m' = ed / 65536 % 65536 ∧ ∀ a, a ≠ m' → D' a = D a := by
  have e1 := kn_beq h1
  have hne : ed ≠ 0 := by
    intro e; rw [e] at e1
    have := Nat.two_pow_pos (D m'); omega
  obtain ⟨h0, a, ha, hx, hb, hpath⟩ := hed hne
  have hDa : D m' = a := kn_p2 (e1.symm.trans hx)
  have hmo : m' < out := by
    rcases Nat.lt_or_ge m' out with h | h
    · exact h
    · have := hT.2.1 m' h hm; omega
  have hQm : Q (τ m') = some (φ a) := by
    rcases hT.1 m' hmo with ⟨_, h⟩ | ⟨h, _⟩
    · rw [hDa] at h; exact h
    · omega
  have hbits : ∀ c, (Nat.lor (Nat.lor q q') (2 ^ (12 + m'))).testBit c = true → (ed / 4294967296).testBit c = false := by
    intro c hc
    have e : (ed / 4294967296) &&& (Nat.lor (Nat.lor q q') (2 ^ (12 + m'))) = 0 := kn_beq h2
    have := Nat.testBit_and (ed / 4294967296) (Nat.lor (Nat.lor q q') (2 ^ (12 + m'))) c
    rw [e, hc, Nat.zero_testBit, Bool.and_true] at this
    exact this.symm
  have hor : ∀ c, (Nat.lor (Nat.lor q q') (2 ^ (12 + m'))).testBit c = (q.testBit c || q'.testBit c || (2 ^ (12 + m')).testBit c) := by
    intro c
    have : (q ||| q' ||| 2 ^ (12 + m')).testBit c = (q.testBit c || q'.testBit c || (2 ^ (12 + m')).testBit c) := by rw [Nat.testBit_or, Nat.testBit_or]
    exact this
  have hblk : ∀ b, b < out → b ≠ m' → D b < n → (ed / 4294967296).testBit (D b) = false := by
    intro b hb hbm hDn
    apply hbits
    rw [hor]
    rcases hq b (by omega) hbm with e | e
    · rw [← e, Nat.testBit_two_pow_self]; rfl
    · rw [← e, Nat.testBit_two_pow_self, Bool.or_true]; rfl
  have hfree : ∀ pl : List Nat, (∀ c, c < n → (ed / 4294967296).testBit c = false → φ c ∉ pl) → kn_free Q (τ m') pl := by
    intro pl hav v hv u hu e
    rcases Classical.em (∃ b, b < out ∧ u = τ b) with ⟨b, hb, eb⟩ | hcon
    · subst eb
      have hbm : b ≠ m' := fun e => hu (by rw [e])
      rcases hT.1 b hb with ⟨g1, g2⟩ | ⟨_, g2⟩
      · rw [g2] at e; cases e
        exact hav (D b) g1 (hblk b hb hbm g1) hv
      · rw [g2] at e; cases e
    · rw [hT.2.2 u (fun b hb e => hcon ⟨b, hb, e⟩)] at e; cases e
  have hTnew : ∀ (v : Option Nat) (d : Nat), ((d < n ∧ v = some (φ d)) ∨ (d = 15 ∧ v = none)) → knTk (kn_upd Q (τ m') v) out n φ τ (fun b => if b = m' then d else D b) := by
    intro v d hv
    refine ⟨fun b hb => ?_, fun b g1 g2 => ?_, fun t ht => ?_⟩
    · by_cases e : b = m'
      · subst e; simp only [if_pos, kn_upd_same]; exact hv
      · have : τ b ≠ τ m' := fun g => e (hτ b m' hb hmo g)
        simp only [if_neg e, kn_upd_ne _ _ this]; exact hT.1 b hb
    · have : b ≠ m' := by omega
      simp only [if_neg this]; exact hT.2.1 b g1 g2
    · rw [kn_upd_ne _ _ (ht m' hmo)]; exact hT.2.2 t ht
  rcases hpath with ⟨b, hbn, hy, l, c1, c2, c3⟩ | ⟨hy, u, hu, hw, l, c1, c2, c3, c4⟩
  · refine ⟨kn_upd Q (τ m') (some (φ b)), fun c => if c = m' then b else D c, hTnew _ _ (.inl ⟨hbn, rfl⟩), knIP_go hI hmo hQm c1 (hfree _ c3) ?_ ho, by simp [hy], fun a ha => by simp [ha]⟩
    left; rw [kn_last_snoc]
  · have hmu : m' = u := by
      rcases Nat.decEq m' u with h | h
      · exfalso
        have g := hw m' hm h
        have g2 := hbits (12 + m') (by rw [hor, Nat.testBit_two_pow_self, Bool.or_true])
        rw [g] at g2; cases g2
      · exact h
    refine ⟨kn_upd Q (τ m') none, fun c => if c = m' then 15 else D c, hTnew _ _ (.inr ⟨rfl, rfl⟩), knIP_go hI hmo hQm c1 (hfree _ c4) ?_ ho, by simp [hy], fun a ha => by simp [ha]⟩
    right; rw [hmu]; exact ⟨c2, rfl⟩
/-- what the check holds while it goes along a row of runs -/
def knLf (E X : Nat → Nat → Prop) (r : Nat) (S : Nat → knP) (mv : Nat → Nat) (m k t0 t1 t2 Ec : Nat) (nd : knN) : Prop :=
  ∀ φ τ, knD E X r S mv nd.1 nd.2.1 nd.2.2.1 nd.2.2.2.1 nd.2.2.2.2.1 nd.2.2.2.2.2.1 nd.2.2.2.2.2.2.1 nd.2.2.2.2.2.2.2.1 nd.2.2.2.2.2.2.2.2 φ τ → Ec = nd.2.2.2.2.2.2.2.1 → ∀ Q D, knTk Q nd.2.2.1 nd.2.1 φ τ D → t0 = 2 ^ D 0 → t1 = 2 ^ D 1 → t2 = 2 ^ D 2 → ¬ knIP E X nd.2.2.1 (S nd.1) Q τ m k
theorem knEqL_ok : ∀ (a b : List Nat), knEqL a b = true → a = b := by
  intro a
  induction a with
  | nil => intro b h; cases b with
    | nil => rfl
    | cons x t => exact absurd h (fun h => by cases h)
  | cons x t ih => intro b h; cases b with
    | nil => exact absurd h (fun h => by cases h)
    | cons y u =>
      have h : cond (Nat.beq x y) (knEqL t u) false = true := h
      obtain ⟨h1, h2⟩ := kn_cnda h
      rw [kn_beq h1, ih u h2]
theorem knEq_ok {a b : knN} (h : knEq a b = true) : a = b := by
  obtain ⟨j, n, out, last, lk, T, H, E, c⟩ := a
  obtain ⟨j', n', out', last', lk', T', H', E', c'⟩ := b
  simp only [knEq] at h
  obtain ⟨h1, h⟩ := kn_cnda h
  obtain ⟨h2, h⟩ := kn_cnda h
  obtain ⟨h3, h⟩ := kn_cnda h
  obtain ⟨h4, h⟩ := kn_cnda h
  obtain ⟨h5, h⟩ := kn_cnda h
  obtain ⟨h6, h⟩ := kn_cnda h
  obtain ⟨h7, h⟩ := kn_cnda h
  obtain ⟨h8, h⟩ := kn_cnda h
  rw [kn_beq h1, kn_beq h2, kn_beq h3, kn_beq h4, kn_beq h5, kn_beq h6, kn_beq h7, kn_beq h8, knEqL_ok _ _ h]
theorem knNth_ok : ∀ (l : List Nat) (i : Nat), knNth l i = l.getD i 0 := by
  intro l
  induction l with
  | nil => intro i; simp [knNth]
  | cons a t ih => intro i; cases i with
    | zero => rfl
    | succ i => rw [List.getD_cons_succ, ← ih i]; rfl
