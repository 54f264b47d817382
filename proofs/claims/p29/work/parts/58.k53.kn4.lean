/-! KNOTS, 4: what a node of the check tells of a row of runs, and that the nodes ahead of it are all there can be. -/
/-- a known path -/
def knEd (E X : Nat → Nat → Prop) (n out : Nat) (φ τ : Nat → Nat) (ed : Nat) : Prop :=
  ed < 281474976710656 ∧ ∃ a, a < n ∧ ed % 65536 = 2 ^ a ∧ (∀ c, n ≤ c → c < 12 → (ed / 4294967296).testBit c = true) ∧
   ((∃ b, b < n ∧ ed / 65536 % 65536 = 2 ^ b ∧ ∃ l, kn_ch E (φ a) (l ++ [φ b]) ∧ (φ a :: (l ++ [φ b])).Nodup ∧ ∀ c, c < n → (ed / 4294967296).testBit c = false → φ c ∉ l ++ [φ b]) ∨
    (ed / 65536 % 65536 = 32768 ∧ ∃ u, u < out ∧ (∀ m, m < 3 → m ≠ u → (ed / 4294967296).testBit (12 + m) = true) ∧ ∃ l, kn_ch E (φ a) l ∧ X (τ u) (kn_last (φ a) l) ∧ (φ a :: l).Nodup ∧ ∀ c, c < n → (ed / 4294967296).testBit c = false → φ c ∉ l))
/-- the tokens' places, by their digits -/
def knTk (S : knP) (out n : Nat) (φ τ T : Nat → Nat) : Prop :=
  (∀ a, a < out → (T a < n ∧ S (τ a) = some (φ (T a))) ∨ (T a = 15 ∧ S (τ a) = none)) ∧ (∀ a, out ≤ a → a < 3 → T a = 15) ∧ (∀ t, (∀ a, a < out → t ≠ τ a) → S t = none)
def knInj (f : Nat → Nat) (n : Nat) : Prop := ∀ a b, a < n → b < n → f a = f b → a = b
def knD (E X : Nat → Nat → Prop) (r : Nat) (S : Nat → knP) (mv : Nat → Nat) (j n out last lk T : Nat) (H : List Nat) (Ec c : Nat) (φ τ : Nat → Nat) : Prop :=
  j ≤ r ∧ n ≤ 12 ∧ out ≤ 3 ∧ knInj φ n ∧ knInj τ out ∧ (∀ a, a < out → τ a < 3) ∧ (∀ a, a < out → knDg T a < n) ∧ knTk (S j) out n φ τ (knDg T) ∧ T < 4096 ∧
  (last < 3 → 0 < j ∧ last < out ∧ mv (j - 1) = τ last) ∧ (lk = 1 → kn_lock E X (S j)) ∧ H.length = j ∧ (∀ i, i < j → knTk (S i) out n φ τ (knDg (H.getD (j - 1 - i) 0))) ∧
  (∃ l, l.length = c ∧ Ec = knEnc l ∧ ∀ ed, ed ∈ l → knEd E X n out φ τ ed)
def knR (E X : Nat → Nat → Prop) (r : Nat) (S : Nat → knP) (mv : Nat → Nat) (nd : knN) : Prop :=
  ∀ φ τ, ¬ knD E X r S mv nd.1 nd.2.1 nd.2.2.1 nd.2.2.2.1 nd.2.2.2.2.1 nd.2.2.2.2.2.1 nd.2.2.2.2.2.2.1 nd.2.2.2.2.2.2.2.1 nd.2.2.2.2.2.2.2.2 φ τ

theorem kn_chain_re {E X : Nat → Nat → Prop} {r : Nat} {S : Nat → knP} {mv : Nat → Nat} (hc : kn_chain E X r S mv) : ∀ i, i ≤ r → kn_re E X i (S i) kn_none := by
  intro i
  induction i with
  | zero => intro _; exact hc.1
  | succ i ih => intro h; exact ⟨mv i, S i, (hc.2 i (by omega)).1, ih (by omega)⟩
theorem kn_chain_sol {E X : Nat → Nat → Prop} {r : Nat} {S : Nat → knP} {mv : Nat → Nat} (hc : kn_chain E X r S mv) (i : Nat) (h : i ≤ r) : kn_sol E X i (S i) := ⟨i, Nat.le_refl i, kn_chain_re hc i h⟩
/-- a place gets a name, if it has none -/
theorem kn_name {φ : Nat → Nat} {n : Nat} (hi : knInj φ n) (x : Nat) : ∃ p φ', p ≤ n ∧ φ' p = x ∧ (∀ c, c < n → φ' c = φ c) ∧ knInj φ' (knMx n (p + 1)) ∧ n ≤ knMx n (p + 1) ∧ p < knMx n (p + 1) ∧ knMx n (p + 1) ≤ n + 1 := by
  rcases Classical.em (∃ p, p < n ∧ φ p = x) with ⟨p, hp, e⟩ | h
  · have em : knMx n (p + 1) = n := by
      unfold knMx
      rcases Nat.lt_or_ge (p + 1) n with h | h
      · have : Nat.ble n (p + 1) = false := by
          cases e : Nat.ble n (p + 1)
          · rfl
          · have := Nat.le_of_ble_eq_true e; omega
        rw [this]; rfl
      · have : n = p + 1 := by omega
        subst this
        cases Nat.ble (p + 1) (p + 1) <;> rfl
    exact ⟨p, φ, by omega, e, fun _ _ => rfl, by rw [em]; exact hi, by rw [em]; exact Nat.le_refl n, by rw [em]; exact hp, by rw [em]; omega⟩
  · have em : knMx n (n + 1) = n + 1 := by
      unfold knMx
      rw [Nat.ble_eq_true_of_le (by omega)]; rfl
    refine ⟨n, fun c => if c = n then x else φ c, Nat.le_refl n, by simp, fun c hc => by simp [Nat.ne_of_lt hc], ?_, by omega, by omega, by omega⟩
    rw [em]
    intro a b ha hb e
    by_cases h1 : a = n
    · by_cases h2 : b = n
      · omega
      · simp only [if_pos h1, if_neg h2] at e; exact absurd ⟨b, by omega, e.symm⟩ h
    · by_cases h2 : b = n
      · simp only [if_neg h1, if_pos h2] at e; exact absurd ⟨a, by omega, e⟩ h
      · simp only [if_neg h1, if_neg h2] at e; exact hi a b (by omega) (by omega) e
theorem knTk_lift {S : knP} {out n n' : Nat} {φ φ' τ T : Nat → Nat} (h : knTk S out n φ τ T) (hn : n ≤ n') (hf : ∀ c, c < n → φ' c = φ c) : knTk S out n' φ' τ T :=
  ⟨fun a ha => by
    rcases h.1 a ha with ⟨h1, h2⟩ | h1
    · exact .inl ⟨by omega, by rw [hf _ h1]; exact h2⟩
    · exact .inr h1, h.2.1, h.2.2⟩
/-- a token more is told of, which is gone -/
theorem knTk_out {S : knP} {out n m : Nat} {φ τ τ' T : Nat → Nat} (h : knTk S out n φ τ T) (ho : out < 3) (ht : ∀ a, a < out → τ' a = τ a) (hm : τ' out = m) (hs : S m = none) : knTk S (out + 1) n φ τ' T := by
  refine ⟨fun a ha => ?_, fun a h1 h2 => h.2.1 a (by omega) h2, fun t h1 => h.2.2 t (fun a ha => by rw [← ht a ha]; exact h1 a (by omega))⟩
  rcases Nat.lt_or_ge a out with h1 | h1
  · rw [ht a h1]; exact h.1 a h1
  · have : a = out := by omega
    subst this
    rw [hm]
    exact .inr ⟨h.2.1 a (Nat.le_refl a) ho, hs⟩
theorem knEd_lift {E X : Nat → Nat → Prop} {n n' out out' : Nat} {φ φ' τ τ' : Nat → Nat} {ed : Nat} (h : knEd E X n out φ τ ed) (hn : n ≤ n') (hf : ∀ c, c < n → φ' c = φ c) (hn' : n' ≤ 12) (ho : out ≤ out') (ht : ∀ a, a < out → τ' a = τ a) : knEd E X n' out' φ' τ' ed := by
  obtain ⟨h0, a, ha, hx, hb, h⟩ := h
  have key : ∀ c, c < n' → (ed / 4294967296).testBit c = false → c < n := by
    intro c hc hf'
    rcases Nat.lt_or_ge c n with h1 | h1
    · exact h1
    · rw [hb c h1 (by omega)] at hf'; cases hf'
  refine ⟨h0, a, by omega, hx, fun c h1 h2 => hb c (by omega) h2, ?_⟩
  rw [hf a ha]
  rcases h with ⟨b, hbn, hy, l, h1, h2, h3⟩ | ⟨hy, u, hu, hw, l, h1, h2, h3, h4⟩
  · left
    refine ⟨b, by omega, hy, l, ?_⟩
    rw [hf b hbn]
    refine ⟨h1, h2, fun c hc hcb => ?_⟩
    rw [hf c (key c hc hcb)]
    exact h3 c (key c hc hcb) hcb
  · right
    refine ⟨hy, u, by omega, hw, l, h1, by rw [ht u hu]; exact h2, h3, fun c hc hcb => ?_⟩
    rw [hf c (key c hc hcb)]
    exact h4 c (key c hc hcb) hcb
theorem kn_three {out : Nat} {τ : Nat → Nat} (hi : knInj τ out) (ht : ∀ a, a < out → τ a < 3) (ho : out ≤ 3) {m : Nat} (hm : m < 3) (hn : ∀ a, a < out → m ≠ τ a) : out < 3 := by
  rcases Nat.lt_or_ge out 3 with h | h
  · exact h
  · have e : out = 3 := by omega
    subst e
    have h0 := ht 0 (by omega); have h1 := ht 1 (by omega); have h2 := ht 2 (by omega)
    have n0 := hn 0 (by omega); have n1 := hn 1 (by omega); have n2 := hn 2 (by omega)
    have i01 : τ 0 ≠ τ 1 := fun e => absurd (hi 0 1 (by omega) (by omega) e) (by omega)
    have i02 : τ 0 ≠ τ 2 := fun e => absurd (hi 0 2 (by omega) (by omega) e) (by omega)
    have i12 : τ 1 ≠ τ 2 := fun e => absurd (hi 1 2 (by omega) (by omega) e) (by omega)
    omega
theorem knKs_mem (nd : knN) (a o lk y w T : Nat) : ∀ (m p : Nat), p < m → knFr T p = true → knKid nd a p o lk y w ∈ knKs nd a o lk y w T m := by
  intro m
  induction m with
  | zero => intro p h; omega
  | succ m ih =>
    intro p h hf
    have e : knKs nd a o lk y w T (m + 1) = cond (knFr T m) (knKid nd a m o lk y w :: knKs nd a o lk y w T m) (knKs nd a o lk y w T m) := rfl
    rw [e]
    by_cases h1 : p = m
    · subst h1; rw [hf]; exact List.mem_cons_self
    · have := ih p (by omega) hf
      cases knFr T m
      · exact this
      · exact List.mem_cons_of_mem _ this
theorem knMs_mem (nd : knN) (last out T n : Nat) : ∀ (m a : Nat), a < m → last ≠ a → ∀ x, x ∈ knKs nd a out 1 (2 ^ knDg T a) 0 T (n + 1) → x ∈ knMs nd last out T n m := by
  intro m
  induction m with
  | zero => intro a h; omega
  | succ m ih =>
    intro a h hl x hx
    have e : knMs nd last out T n (m + 1) = cond (Nat.beq last m) (knMs nd last out T n m) (knKs nd m out 1 (2 ^ knDg T m) 0 T (n + 1) ++ knMs nd last out T n m) := rfl
    rw [e]
    by_cases h1 : a = m
    · subst h1; rw [kn_nb hl]; exact List.mem_append_left _ hx
    · have := ih a (by omega) hl x hx
      cases Nat.beq last m
      · exact List.mem_append_right _ this
      · exact this
/-- the word of a new path -/
theorem kn_word {p y v : Nat} (hp : p < 12) (hy : y < 65536) (hv : v < 32768) : (2 ^ p + 65536 * y + 4294967296 * v) < 281474976710656 ∧ (2 ^ p + 65536 * y + 4294967296 * v) % 65536 = 2 ^ p ∧ (2 ^ p + 65536 * y + 4294967296 * v) / 65536 % 65536 = y ∧ (2 ^ p + 65536 * y + 4294967296 * v) / 4294967296 = v := by
  have h : 2 ^ p < 65536 := Nat.lt_of_lt_of_le (Nat.pow_lt_pow_right (by omega) hp) (by decide)
  generalize 2 ^ p = q at *
  refine ⟨by omega, by omega, by omega, by omega⟩
/-- the bits of a new path's word -/
theorem kn_wbit {v w c : Nat} (hv : v < 4096) (hc : c < 12) : (v + 4096 * w).testBit c = v.testBit c := by
  have := Nat.testBit_two_pow_mul_add w (i := 12) (b := v) hv c
  rw [show v + 4096 * w = 2 ^ 12 * w + v by omega, this, if_pos hc]
theorem kn_wbit2 {v w m : Nat} (hv : v < 4096) : (v + 4096 * w).testBit (12 + m) = w.testBit m := by
  have := Nat.testBit_two_pow_mul_add w (i := 12) (b := v) hv (12 + m)
  rw [show v + 4096 * w = 2 ^ 12 * w + v by omega, this, if_neg (by omega)]
  congr 1; omega
theorem kn_snoc (x : Nat) (l : List Nat) (h : kn_last x l ≠ x) : ∃ l0, l = l0 ++ [kn_last x l] := by
  induction l generalizing x with
  | nil => exact absurd rfl h
  | cons a t ih =>
    cases t with
    | nil => exact ⟨[], rfl⟩
    | cons b u =>
      by_cases h1 : kn_last a (b :: u) = a
      · obtain ⟨l0, e⟩ : ∃ l0, b :: u = l0 ++ [kn_last a (b :: u)] := by
          have : ∀ (y : Nat) (m : List Nat), m ≠ [] → ∃ l0, m = l0 ++ [kn_last y m] := by
            intro y m
            induction m generalizing y with
            | nil => intro h; exact absurd rfl h
            | cons c s ih2 =>
              intro _
              cases s with
              | nil => exact ⟨[], rfl⟩
              | cons d s2 =>
                obtain ⟨l0, e⟩ := ih2 c (by simp)
                exact ⟨c :: l0, by show c :: d :: s2 = c :: (l0 ++ [kn_last c (d :: s2)]); rw [← e]⟩
          exact this a (b :: u) (by simp)
        exact ⟨a :: l0, by show a :: b :: u = a :: (l0 ++ [kn_last a (b :: u)]); rw [← e]⟩
      · obtain ⟨l0, e⟩ := ih a h1
        exact ⟨a :: l0, by show a :: b :: u = a :: (l0 ++ [kn_last a (b :: u)]); rw [← e]⟩
