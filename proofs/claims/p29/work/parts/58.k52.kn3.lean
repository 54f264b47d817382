/-! KNOTS, 3: what the check answers is so: words and rows of bits. -/
def knEnc : List Nat → Nat
  | [] => 0
  | a :: l => a + 281474976710656 * knEnc l
theorem kn_pow48 (e : Nat) : 2 ^ (48 * (e + 1)) = 281474976710656 * 2 ^ (48 * e) := by
  rw [Nat.mul_add, Nat.pow_add, Nat.mul_one, Nat.mul_comm]
theorem knEnc_at : ∀ (e : Nat) (l : List Nat), (∀ a, a ∈ l → a < 281474976710656) → knAt (knEnc l) e = l.getD e 0 := by
  intro e
  induction e with
  | zero =>
    intro l h
    cases l with
    | nil => simp [knAt, knEnc]
    | cons a t =>
      have := h a List.mem_cons_self
      simp only [knAt, knEnc, Nat.mul_zero, Nat.pow_zero, Nat.div_one, List.getD_cons_zero]
      omega
  | succ e ih =>
    intro l h
    cases l with
    | nil => simp [knAt, knEnc]
    | cons a t =>
      have ha := h a List.mem_cons_self
      have := ih t (fun b hb => h b (List.mem_cons_of_mem _ hb))
      rw [List.getD_cons_succ, ← this]
      simp only [knAt, knEnc]
      rw [kn_pow48, ← Nat.div_div_eq_div_mul]
      have e1 : (a + 281474976710656 * knEnc t) / 281474976710656 = knEnc t := by omega
      rw [e1]
theorem knEnc_set : ∀ (l : List Nat) (e v : Nat), e < l.length → knEnc (l.set e v) = knEnc (l.set e 0) + v * 2 ^ (48 * e) := by
  intro l
  induction l with
  | nil => intro e v h; exact absurd h (by simp)
  | cons a t ih =>
    intro e v h
    cases e with
    | zero => simp only [List.set_cons_zero, knEnc, Nat.mul_zero, Nat.pow_zero]; omega
    | succ e =>
      simp only [List.set_cons_succ, knEnc]
      rw [ih e v (by simpa using h), kn_pow48, Nat.mul_add, Nat.add_assoc]
      congr 1
      congr 1
      rw [← Nat.mul_assoc, ← Nat.mul_assoc, Nat.mul_comm v]
theorem knEnc_snoc : ∀ (l : List Nat) (v : Nat), knEnc (l ++ [v]) = knEnc l + v * 2 ^ (48 * l.length) := by
  intro l
  induction l with
  | nil => intro v; simp [knEnc]
  | cons a t ih =>
    intro v
    simp only [List.cons_append, knEnc, List.length_cons]
    rw [ih v, kn_pow48, Nat.mul_add, Nat.add_assoc]
    congr 1
    congr 1
    rw [← Nat.mul_assoc, ← Nat.mul_assoc, Nat.mul_comm v]
theorem knEnc_sub (l : List Nat) (e : Nat) (h : e < l.length) : knEnc l - l.getD e 0 * 2 ^ (48 * e) = knEnc (l.set e 0) := by
  have h1 := knEnc_set l e (l.getD e 0) h
  have h2 : l.set e (l.getD e 0) = l := by
    apply List.ext_getElem?
    intro i
    rw [List.getElem?_set]
    by_cases hi : e = i
    · subst hi; simp [List.getD, h]
    · simp [hi]
  rw [h2] at h1
  rw [h1, Nat.add_sub_cancel]
theorem knF_eq (n : Nat) (K : Nat → Bool) : knF n K = K n := by cases n <;> rfl
theorem kn_if {f t b : Bool} (h : @Bool.rec (fun _ => Bool) f t b = true) : (b = true ∧ t = true) ∨ (b = false ∧ f = true) := by
  cases b
  · exact .inr ⟨rfl, h⟩
  · exact .inl ⟨rfl, h⟩
theorem kn_and {t b : Bool} (h : @Bool.rec (fun _ => Bool) false t b = true) : b = true ∧ t = true := by
  cases b
  · exact absurd h (fun h => by cases h)
  · exact ⟨rfl, h⟩
theorem kn_cnd {f t b : Bool} (h : cond b t f = true) : (b = true ∧ t = true) ∨ (b = false ∧ f = true) := by
  cases b
  · exact .inr ⟨rfl, h⟩
  · exact .inl ⟨rfl, h⟩
theorem kn_cnda {t b : Bool} (h : cond b t false = true) : b = true ∧ t = true := by
  cases b
  · exact absurd h (fun h => by cases h)
  · exact ⟨rfl, h⟩
theorem kn_beq {a b : Nat} (h : Nat.beq a b = true) : a = b := Nat.eq_of_beq_eq_true h
theorem kn_bne {a b : Nat} (h : Nat.beq a b = false) : a ≠ b := Nat.ne_of_beq_eq_false h
theorem kn_nb {a b : Nat} (h : a ≠ b) : Nat.beq a b = false := by
  cases e : Nat.beq a b
  · rfl
  · exact absurd (Nat.eq_of_beq_eq_true e) h
theorem kn_blt {a b : Nat} (h : Nat.blt a b = true) : a < b := Nat.le_of_ble_eq_true h
theorem knDg0 (T : Nat) : knDg T 0 = T % 16 := by simp [knDg]
theorem knDg1 (T : Nat) : knDg T 1 = T / 16 % 16 := by simp [knDg]
theorem knDg2 (T : Nat) : knDg T 2 = T / 256 % 16 := by simp [knDg]
theorem knDg_lt (T a : Nat) : knDg T a < 16 := Nat.mod_lt _ (by omega)
/-- a digit changed -/
theorem knDg_new (T a p : Nat) (ha : a < 3) (hp : p < 16) (hT : T < 4096) : T + p * 16 ^ a - knDg T a * 16 ^ a < 4096 ∧ knDg (T + p * 16 ^ a - knDg T a * 16 ^ a) a = p ∧ ∀ b, b < 3 → b ≠ a → knDg (T + p * 16 ^ a - knDg T a * 16 ^ a) b = knDg T b := by
  have h : a = 0 ∨ a = 1 ∨ a = 2 := by omega
  rcases h with rfl | rfl | rfl
  · rw [knDg0, knDg0]
    refine ⟨by omega, by omega, fun b hb hn => ?_⟩
    have h : b = 1 ∨ b = 2 := by omega
    rcases h with rfl | rfl
    · rw [knDg1, knDg1]; omega
    · rw [knDg2, knDg2]; omega
  · rw [knDg1, knDg1]
    refine ⟨by omega, by omega, fun b hb hn => ?_⟩
    have h : b = 0 ∨ b = 2 := by omega
    rcases h with rfl | rfl
    · rw [knDg0, knDg0]; omega
    · rw [knDg2, knDg2]; omega
  · rw [knDg2, knDg2]
    refine ⟨by omega, by omega, fun b hb hn => ?_⟩
    have h : b = 0 ∨ b = 1 := by omega
    rcases h with rfl | rfl
    · rw [knDg0, knDg0]; omega
    · rw [knDg1, knDg1]; omega
theorem knFr_of {T p : Nat} (h : ∀ a, a < 3 → knDg T a ≠ p) : knFr T p = true := by
  have h0 := h 0 (by omega); have h1 := h 1 (by omega); have h2 := h 2 (by omega)
  rw [knDg0] at h0; rw [knDg1] at h1; rw [knDg2] at h2
  simp only [knFr, kn_nb h0, kn_nb h1, kn_nb h2, cond_false]
theorem knNav_lt (T p : Nat) : knNav T p < 4096 := by
  have : (4095 : Nat) ^^^ ((2 ^ (T % 16) ||| (2 ^ (T / 16 % 16) ||| (2 ^ (T / 256 % 16) ||| 2 ^ p))) % 4096) < 2 ^ 12 := Nat.xor_lt_two_pow (by decide) (Nat.mod_lt _ (by decide))
  exact this
theorem knNav_bit (T p c : Nat) (hc : c < 12) : (knNav T p).testBit c = false ↔ (c = T % 16 ∨ c = T / 16 % 16 ∨ c = T / 256 % 16 ∨ c = p) := by
  have e : knNav T p = (4095 : Nat) ^^^ ((2 ^ (T % 16) ||| (2 ^ (T / 16 % 16) ||| (2 ^ (T / 256 % 16) ||| 2 ^ p))) % 2 ^ 12) := rfl
  have e2 : (4095 : Nat).testBit c = true := by
    have := Nat.testBit_two_pow_sub_one 12 c
    rw [show (4095 : Nat) = 2 ^ 12 - 1 from rfl, this]; simp [hc]
  rw [e, Nat.testBit_xor, e2, Nat.testBit_mod_two_pow, Nat.testBit_or, Nat.testBit_or, Nat.testBit_or, Nat.testBit_two_pow, Nat.testBit_two_pow, Nat.testBit_two_pow, Nat.testBit_two_pow]
  simp [hc]
  omega
