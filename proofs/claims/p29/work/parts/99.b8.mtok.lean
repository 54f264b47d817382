/-! THE REFERENCE reads a TOKEN, to the letter -/
/-- a byte, without its sign -/
def mU (x : Int) : Int := if 0 ≤ x then x else x + 256
set_option maxRecDepth 100000 in
theorem yand_255k : ∀ k : Nat, k < 256 → yand ((k : Int) - 128) 255 = mU ((k : Int) - 128) := by decide +kernel
theorem yand_255e {x : Int} (h : -128 ≤ x ∧ x < 128) : yand x 255 = mU x := by
  have g := yand_255k (x + 128).toNat (by omega)
  rwa [show (((x + 128).toNat : Nat) : Int) - 128 = x by omega] at g
/-- a word, and one more byte -/
theorem yl_or8 {w r : Int} (hw : 0 ≤ w ∧ w < 281474976710656) (hr : 0 ≤ r ∧ r < 256) : ylor (ylshl w 8) (yi2l r) = 256 * w + r := by
  obtain ⟨a, rfl⟩ := Int.eq_ofNat_of_zero_le hw.1
  obtain ⟨b, rfl⟩ := Int.eq_ofNat_of_zero_le hr.1
  have ha : a < 281474976710656 := by omega
  have hb : b < 256 := by omega
  rw [yi2l_eq (by omega) (by omega)]
  have e1 : ylshl (a : Int) 8 = ((a * 256 : Nat) : Int) := by
    have e : (y64 (a : Int) <<< ((y32 8).toInt64 &&& 63)).toBitVec.toNat = a * 256 := by
      have s : ((y32 8).toInt64 &&& 63 : Int64) = 8 := by decide
      rw [s]
      have h2 : (y64 (a : Int) <<< (8 : Int64)).toBitVec = (y64 (a : Int)).toBitVec <<< 8 := rfl
      have h3 : (y64 (a : Int)).toBitVec.toNat = a := by
        show (BitVec.ofInt 64 (a : Int)).toNat = a
        rw [BitVec.toNat_ofInt]
        omega
      rw [h2, BitVec.toNat_shiftLeft, h3, Nat.shiftLeft_eq]
      omega
    unfold ylshl
    have t : ∀ x : Int64, x.toBitVec.toNat < 9223372036854775808 → x.toInt = ((x.toBitVec.toNat : Nat) : Int) := fun x hx => by
      show x.toBitVec.toInt = _
      rw [BitVec.toInt_eq_toNat_cond, if_pos (by omega)]
    rw [t _ (by rw [e]; omega), e]
  rw [e1]
  have e : (y64 ((a * 256 : Nat) : Int) ||| y64 (b : Int)).toBitVec.toNat = a * 256 + b := by
    have h2 : (y64 ((a * 256 : Nat) : Int) ||| y64 (b : Int)).toBitVec = (y64 ((a * 256 : Nat) : Int)).toBitVec ||| (y64 (b : Int)).toBitVec := rfl
    have h3 : ∀ c : Nat, c < 9223372036854775808 → (y64 (c : Int)).toBitVec.toNat = c := fun c hc => by
      show (BitVec.ofInt 64 (c : Int)).toNat = c
      rw [BitVec.toNat_ofInt]
      omega
    rw [h2, BitVec.toNat_or, h3 _ (by omega), h3 _ (by omega)]
    have g := Nat.shiftLeft_add_eq_or_of_lt (show b < 2 ^ 8 from hb) a
    rw [Nat.shiftLeft_eq] at g
    exact g.symm
  unfold ylor
  have t : ∀ x : Int64, x.toBitVec.toNat < 9223372036854775808 → x.toInt = ((x.toBitVec.toNat : Nat) : Int) := fun x hx => by
    show x.toBitVec.toInt = _
    rw [BitVec.toInt_eq_toNat_cond, if_pos (by omega)]
  rw [t _ (by rw [e]; omega), e]
  omega
/-- a number that grows, k signs read -/
def mNu (k : Nat) (v : Int) : Prop := 0 ≤ v ∧ v ≤ 8214 ∧ (k = 0 → v = 0) ∧ (k = 1 → v ≤ 74) ∧ (k = 2 → v ≤ 814)
/-- what the reference holds of the TOKEN that is next from p on -/
def mTk (I : Nat → Nat → Int) (t : Nat → Int) (n lim p : Nat) : Prop :=
  ∃ x : Tk, kTok t n lim p x ∧ I 102 11 = (x.1 : Int) ∧ I 102 12 = (x.2.1 : Int) ∧ I 102 4 = (x.2.2.2 : Int) ∧ (x.1 = 1 → I 102 17 = x.2.2.1 ∧ isW x.2.2.1) ∧ (x.1 = 2 → I 102 14 = x.2.2.1 ∧ 0 ≤ x.2.2.1 ∧ x.2.2.1 < 1000) ∧ (x.1 = 3 → I 102 14 = x.2.2.1) ∧ x.1 < 5 ∧ x.2.2.2 ≤ n ∧ (0 ≤ I 102 14 ∧ I 102 14 ≤ 10000)
theorem tKd_w {t : Nat → Int} {q k : Nat} (h : tN t q k = k) (h7 : k ≤ 7) : tKd t q k = 2 := by unfold tKd; rw [if_pos ⟨h, h7⟩]
theorem tKd_n {t : Nat → Int} {q k : Nat} (h0 : 0 < k) (h : tN t q k = 0) (h3 : k ≤ 3) : tKd t q k = 3 := by unfold tKd; rw [if_neg (by omega), if_pos ⟨h, h3⟩]
theorem tKd_o {t : Nat → Int} {q k : Nat} (h : ¬ (tN t q k = k ∧ k ≤ 7)) (h2 : ¬ (tN t q k = 0 ∧ k ≤ 3)) : tKd t q k = 1 := by unfold tKd; rw [if_neg h, if_neg h2]
section Xm
variable {l : Launch} {D : va_G} {cy : Nat → ClassId} {z d bc bs N : Nat} {T : Nat → Nat × Nat} {R : Nat → Nat → Option Nat} {I : Nat → Nat → Int} {K : yKo}
set_option maxHeartbeats 1000000 in
/-- go -/
theorem x_182 (hT : yLT T) (hR : yLR R) {n lim p : Nat} (h3 : I 102 3 = (n : Int)) (hn : n ≤ 940) (h5 : I 102 5 = (lim : Int)) (h4 : I 102 4 = (p : Int)) (hp : p ≤ n) (hb : ∀ j, j < n → -128 ≤ I 103 j ∧ I 103 j < 128) (h14 : 0 ≤ I 102 14 ∧ I 102 14 ≤ 10000)
    (hk : ∀ I', (∀ a b, ¬ (a = 102 ∧ (b = 4 ∨ (11 ≤ b ∧ b ≤ 14) ∨ b = 17)) → I' a b = I a b) → mTk I' (I 103) n lim p → K none (N, T, R, I')) :
    yW l zSS D cy zFk z (d + 1) 182 bc bs K 0 0 0 [(0, yr (some 102))] [] (N, T, R, I) := by
  generalize ht : I 103 = t at hk hb
  have pk : ∀ (X : Nat → Nat → Int) (q : Nat), (∀ a b, ¬ (a = 102 ∧ (b = 4 ∨ (11 ≤ b ∧ b ≤ 14) ∨ b = 17)) → X a b = I a b) → X 102 4 = (q : Int) → (n ≤ q → mPk X = -1) ∧ (q < n → mPk X = mU (t q)) := fun X q fX x4 => by
    have x3 : X 102 3 = (n : Int) := by rw [fX 102 3 (by omega)]; exact h3
    unfold mPk
    rw [x3, x4]
    refine ⟨fun g => if_pos (by omega), fun g => ?_⟩
    rw [if_neg (by omega), show ((q : Int)).toNat = q by omega, fX 103 q (by omega), ht]
    exact yand_255e (hb q g)
  have ok : ∀ (X : Nat → Nat → Int) (q : Nat), (∀ a b, ¬ (a = 102 ∧ (b = 4 ∨ (11 ≤ b ∧ b ≤ 14) ∨ b = 17)) → X a b = I a b) → X 102 4 = (q : Int) → q ≤ n → 0 ≤ X 102 3 ∧ X 102 3 ≤ 940 ∧ 0 ≤ X 102 4 ∧ X 102 4 ≤ 940 := fun X q fX x4 g => by
    rw [fX 102 3 (by omega), h3, x4]; omega
  have mu : ∀ q, q < n → (tL (t q) ↔ 97 ≤ mU (t q) ∧ mU (t q) ≤ 122) ∧ (tD (t q) ↔ 48 ≤ mU (t q) ∧ mU (t q) ≤ 57) ∧ (0 ≤ t q → mU (t q) = t q) ∧ (t q < 0 → 128 ≤ mU (t q)) ∧ 0 ≤ mU (t q) ∧ mU (t q) < 256 := fun q g => by
    have := hb q g
    unfold mU
    split <;> omega
  -- the run
  have run : ∀ (q : Nat), tSk t n p q → q < min n lim → (tL (t q) ∨ tD (t q)) → ∀ (m k : Nat) (X : Nat → Nat → Int) (sm al : Int), q + k + m = n → (∀ j, j < k → tL (t (q + j)) ∨ tD (t (q + j))) → (∀ a b, ¬ (a = 102 ∧ (b = 4 ∨ (11 ≤ b ∧ b ≤ 14) ∨ b = 17)) → X a b = I a b) → X 102 4 = ((q + k : Nat) : Int) → X 102 13 = (k : Int) → X 102 12 = (q : Int) → ((sm = 1 ∧ tL (t q)) ∨ (sm = 0 ∧ tD (t q))) → ((al = 1 ∧ (sm = 1 → tN t q k = k) ∧ (sm = 0 → tN t q k = 0)) ∨ (al = 0 ∧ tN t q k ≠ k ∧ tN t q k ≠ 0)) → (al = 1 → sm = 1 → k ≤ 7 → X 102 17 = tF 256 t q k) → (al = 1 → sm = 0 → k ≤ 3 → X 102 14 = tF 10 (fun j => t j - 48) q k) → mNu k (X 102 14) → yW l zSS D cy zFk z (d + 1) 182 bc bs K 0 0 181 [(0, yr (some 102)), (2, yi sm), (3, yi al)] [] (N, T, R, X) := by
    intro q hq hlt an m
    -- its end
    have fin : ∀ (k : Nat) (X : Nat → Nat → Int) (sm al : Int), 0 < k → tRun t n q k → (∀ a b, ¬ (a = 102 ∧ (b = 4 ∨ (11 ≤ b ∧ b ≤ 14) ∨ b = 17)) → X a b = I a b) → X 102 4 = ((q + k : Nat) : Int) → X 102 13 = (k : Int) → X 102 12 = (q : Int) → ((sm = 1 ∧ tL (t q)) ∨ (sm = 0 ∧ tD (t q))) → ((al = 1 ∧ (sm = 1 → tN t q k = k) ∧ (sm = 0 → tN t q k = 0)) ∨ (al = 0 ∧ tN t q k ≠ k ∧ tN t q k ≠ 0)) → (al = 1 → sm = 1 → k ≤ 7 → X 102 17 = tF 256 t q k) → (al = 1 → sm = 0 → k ≤ 3 → X 102 14 = tF 10 (fun j => t j - 48) q k) → mNu k (X 102 14) →
        (al = 0 → ∀ I12, I12 = yU X 102 11 4 → K none (N, T, R, I12)) ∧ (¬ (al = 0) → (sm = 0 → ((X 102 13) ≤ 3 → (sm = 0 → ∀ I16, I16 = yU X 102 11 2 → K none (N, T, R, I16)) ∧ (¬ (sm = 0) → ∀ I17, I17 = yU X 102 11 1 → K none (N, T, R, I17))) ∧ (¬ ((X 102 13) ≤ 3) → ∀ I18, I18 = yU X 102 11 4 → K none (N, T, R, I18))) ∧ (¬ (sm = 0) → ((X 102 13) ≤ 7 → (sm = 0 → ∀ I21, I21 = yU X 102 11 2 → K none (N, T, R, I21)) ∧ (¬ (sm = 0) → ∀ I22, I22 = yU X 102 11 1 → K none (N, T, R, I22))) ∧ (¬ ((X 102 13) ≤ 7) → ∀ I23, I23 = yU X 102 11 4 → K none (N, T, R, I23)))) := by
      intro k X sm al k0 hr fX x4 x13 x12 hs ha xw xn xb
      have xb2 : 0 ≤ X 102 14 ∧ X 102 14 ≤ 10000 := ⟨xb.1, Int.le_trans xb.2.1 (by decide)⟩
      have none4 : tKd t q k = 1 → ∀ J, J = yU X 102 11 4 → K none (N, T, R, J) := fun kd J e => by
        refine hk J (fun a b g => by rw [e, yU_ne _ _ (by omega)]; exact fX a b g) ⟨(4, q, 0, q + k), ⟨q, hq, .inr ⟨hlt, k, hr, .inr ⟨k0, by rw [kd]; rfl⟩⟩⟩, by rw [e, yU_eq]; rfl, by rw [e, yU_ne _ _ (by omega)]; exact x12, by rw [e, yU_ne _ _ (by omega)]; exact x4, fun g => absurd g (by decide : ¬ ((4 : Nat) = 1)), fun g => absurd g (by decide : ¬ ((4 : Nat) = 2)), fun g => absurd g (by decide : ¬ ((4 : Nat) = 3)), (by decide : (4 : Nat) < 5), hr.1, by rw [e, yU_ne _ _ (by omega)]; exact xb2⟩
      have two : sm = 0 → al ≠ 0 → k ≤ 3 → ∀ J, J = yU X 102 11 2 → K none (N, T, R, J) := fun s0 a0 k3 J e => by
        have al1 : al = 1 ∧ tN t q k = 0 := by
          rcases ha with ⟨a, _, b⟩ | ⟨a, _⟩
          · exact ⟨a, b s0⟩
          · exact absurd a a0
        have kd := tKd_n k0 al1.2 k3
        have ad : ∀ i, i < k → tD (t (q + i)) := fun i hi => (hr.2.1 i hi).resolve_left (tN_none k al1.2 i hi)
        have l1 := tF_nn (b := 10) (by omega) (g := fun j => t j - 48) (q := q) k (fun i hi => by have := ad i hi; show 0 ≤ t (q + i) - 48; omega)
        have l2 := tF_lt (b := 10) (by omega) (g := fun j => t j - 48) (q := q) k (fun i hi => by have := ad i hi; show 0 ≤ t (q + i) - 48 ∧ t (q + i) - 48 < 10; omega)
        have l3 : (10 : Int) ^ k ≤ 1000 := by
          rcases (show k = 0 ∨ k = 1 ∨ k = 2 ∨ k = 3 by omega) with rfl | rfl | rfl | rfl <;> decide
        refine hk J (fun a b g => by rw [e, yU_ne _ _ (by omega)]; exact fX a b g) ⟨(2, q, tF 10 (fun j => t j - 48) q k, q + k), ⟨q, hq, .inr ⟨hlt, k, hr, .inr ⟨k0, by rw [kd]; rfl⟩⟩⟩, by rw [e, yU_eq]; rfl, by rw [e, yU_ne _ _ (by omega)]; exact x12, by rw [e, yU_ne _ _ (by omega)]; exact x4, fun g => absurd g (by decide : ¬ ((2 : Nat) = 1)), fun _ => ⟨by rw [e, yU_ne _ _ (by omega)]; exact xn al1.1 s0 k3, l1, Int.lt_of_lt_of_le l2 l3⟩, fun g => absurd g (by decide : ¬ ((2 : Nat) = 3)), (by decide : (2 : Nat) < 5), hr.1, by rw [e, yU_ne _ _ (by omega)]; exact xb2⟩
      have one : ¬ sm = 0 → al ≠ 0 → k ≤ 7 → ∀ J, J = yU X 102 11 1 → K none (N, T, R, J) := fun s0 a0 k7 J e => by
        have s1 : sm = 1 := by omega
        have al1 : al = 1 ∧ tN t q k = k := by
          rcases ha with ⟨a, b, _⟩ | ⟨a, _⟩
          · exact ⟨a, b s1⟩
          · exact absurd a a0
        have kd := tKd_w al1.2 k7
        refine hk J (fun a b g => by rw [e, yU_ne _ _ (by omega)]; exact fX a b g) ⟨(1, q, tF 256 t q k, q + k), ⟨q, hq, .inr ⟨hlt, k, hr, .inr ⟨k0, by rw [kd]; rfl⟩⟩⟩, by rw [e, yU_eq]; rfl, by rw [e, yU_ne _ _ (by omega)]; exact x12, by rw [e, yU_ne _ _ (by omega)]; exact x4, fun _ => ⟨by rw [e, yU_ne _ _ (by omega)]; exact xw al1.1 s1 k7, t, q, k, k0, k7, tN_all k al1.2, rfl⟩, fun g => absurd g (by decide : ¬ ((1 : Nat) = 2)), fun g => absurd g (by decide : ¬ ((1 : Nat) = 3)), (by decide : (1 : Nat) < 5), hr.1, by rw [e, yU_ne _ _ (by omega)]; exact xb2⟩
      have mixed : al = 0 → tKd t q k = 1 := fun a0 => by
        rcases ha with ⟨a, _⟩ | ⟨_, a, b⟩
        · omega
        · exact tKd_o (fun g => a g.1) (fun g => b g.1)
      refine ⟨fun a0 => none4 (mixed a0), fun a0 => ⟨fun s0 => ⟨fun k3 => ⟨fun _ => two s0 a0 (by omega), fun g => absurd s0 g⟩, fun k3 => none4 ?_⟩, fun s0 => ⟨fun k7 => ⟨fun g => absurd g s0, fun _ => one s0 a0 (by omega)⟩, fun k7 => none4 ?_⟩⟩⟩
      · rcases ha with ⟨_, _, b⟩ | ⟨a, _⟩
        · exact tKd_o (fun g => by have := b s0; omega) (fun g => by omega)
        · exact absurd a a0
      · rcases ha with ⟨_, b, _⟩ | ⟨a, _⟩
        · exact tKd_o (fun g => by omega) (fun g => by have := b (by omega); omega)
        · exact absurd a a0
    induction m with
    | zero =>
      intro k X sm al hm ad fX x4 x13 x12 hs ha xw xn xb
      have k0 : 0 < k := by omega
      have kp := (pk X (q + k) fX x4).1 (by omega)
      refine B_182_181 hT hR (w_225 hT hR (ok X (q + k) fX x4 (by omega)) (fun r hr => ⟨_, _, rfl, rfl, w_197 hT hR (fun r4 h4 => ⟨_, _, rfl, rfl, fun c => ?_, fun c => w_225 hT hR (ok X (q + k) fX x4 (by omega)) (fun r7 h7 => ⟨_, _, rfl, rfl, w_189 hT hR (fun r9 h9 => ⟨_, _, rfl, rfl, fun _ => ?_, fun c2 => ?_⟩)⟩)⟩)⟩))
      · rw [kp] at hr; omega
      · exact fin k X sm al k0 ⟨by omega, ad, .inl (by omega)⟩ fX x4 x13 x12 hs ha xw xn xb
      · rw [kp] at h7; omega
    | succ m ih =>
      intro k X sm al hm ad fX x4 x13 x12 hs ha xw xn xb
      have kn : q + k < n := by omega
      have kp := (pk X (q + k) fX x4).2 kn
      have mk := mu (q + k) kn
      have nk := tN_le t q k
      -- one more of the run
      have more : (tL (t (q + k)) ∨ tD (t (q + k))) → yW l zSS D cy zFk z (d + 1) 182 bc bs K 0 0 201 [(0, yr (some 102)), (2, yi sm), (3, yi al)] [] (N, T, R, X) := by
        intro ak
        have en : tN t q (k + 1) = tN t q k + (if tL (t (q + k)) then 1 else 0) := rfl
        -- behind what is done to the word
        have s248 : ∀ (al' : Int) (J : Nat → Nat → Int), (∀ a b, ¬ (a = 102 ∧ b = 17) → J a b = X a b) → ((al' = 1 ∧ (sm = 1 → tN t q (k + 1) = k + 1) ∧ (sm = 0 → tN t q (k + 1) = 0)) ∨ (al' = 0 ∧ tN t q (k + 1) ≠ k + 1 ∧ tN t q (k + 1) ≠ 0)) → (al' = 1 → al = 1) → (al' = 1 → sm = 1 → k + 1 ≤ 7 → J 102 17 = tF 256 t q (k + 1)) → yW l zSS D cy zFk z (d + 1) 182 bc bs K 0 0 248 [(0, yr (some 102)), (2, yi sm), (3, yi al')] [] (N, T, R, J) := by
          intro al' J fJ ha' hal xw'
          have fJI : ∀ a b, ¬ (a = 102 ∧ (b = 4 ∨ (11 ≤ b ∧ b ≤ 14) ∨ b = 17)) → J a b = I a b := fun a b g => by rw [fJ a b (by omega)]; exact fX a b g
          have j4 : J 102 4 = ((q + k : Nat) : Int) := by rw [fJ 102 4 (by omega)]; exact x4
          have j13 : J 102 13 = (k : Int) := by rw [fJ 102 13 (by omega)]; exact x13
          have kj := (pk J (q + k) fJI j4).2 kn
          have s275 : ∀ (L : Nat → Nat → Int), (∀ a b, ¬ (a = 102 ∧ b = 14) → L a b = J a b) → (al' = 1 → sm = 0 → k + 1 ≤ 3 → L 102 14 = tF 10 (fun j => t j - 48) q (k + 1)) → mNu (k + 1) (L 102 14) → yW l zSS D cy zFk z (d + 1) 182 bc bs K 0 0 275 [(0, yr (some 102)), (2, yi sm), (3, yi al')] [] (N, T, R, L) := by
            intro L fL xn' lb
            refine B_182_275 hT hR (fun I1 e1 I2 e2 => ih (k + 1) I2 sm al' (by omega) (fun j hj => ?_) (fun a b g => by rw [e2, yU_ne _ _ (by omega), e1, yU_ne _ _ (by omega), fL a b (by omega)]; exact fJI a b g) ?_ ?_ ?_ hs ha' (fun a b c => by rw [e2, yU_ne _ _ (by omega), e1, yU_ne _ _ (by omega), fL 102 17 (by omega)]; exact xw' a b c) (fun a b c => by rw [e2, yU_ne _ _ (by omega), e1, yU_ne _ _ (by omega)]; exact xn' a b c) (by rw [e2, yU_ne _ _ (by omega), e1, yU_ne _ _ (by omega)]; exact lb))
            · by_cases g : j = k
              · subst g; exact ak
              · exact ad j (by omega)
            · rw [e2, yU_eq, e1, yU_ne _ _ (by omega), fL 102 4 (by omega), j4, yadd_eq (by omega) (by omega)]; rfl
            · rw [e2, yU_ne _ _ (by omega), e1, yU_eq, fL 102 13 (by omega), j13, yadd_eq (by omega) (by omega)]; rfl
            · rw [e2, yU_ne _ _ (by omega), e1, yU_ne _ _ (by omega), fL 102 12 (by omega), fJ 102 12 (by omega)]; exact x12
          refine B_182_248 hT hR ⟨fun c => s275 J (fun _ _ _ => rfl) (fun _ _ c2 => by rw [j13] at c; omega) (by
            rw [j13] at c
            rw [fJ 102 14 (by omega)]
            exact ⟨xb.1, xb.2.1, fun g => by omega, fun g => by omega, fun g => by omega⟩), fun c => w_225 hT hR (ok J (q + k) fJI j4 (by omega)) (fun r hr => ⟨_, _, rfl, rfl, fun I4 e4 => s275 I4 (fun a b g => by rw [e4, yU_ne _ _ g]) (fun a1 s0 c2 => ?_) ?_⟩)⟩
          rotate_left
          · rw [j13] at c
            have r48 : 48 ≤ r ∧ r ≤ 122 := by
              rw [hr.1, kj]
              rcases ak with g | g
              · have := mk.1.mp g; omega
              · have := mk.2.1.mp g; omega
            obtain ⟨b0, b1, b2, b3, b4⟩ := xb
            have v : I4 102 14 = 10 * X 102 14 + (r - 48) := by
              rw [e4, yU_eq, fJ 102 14 (by omega), ymul_eq (by omega) (by omega), yadd_eq (by omega) (by omega), ysub_eq (by omega) (by omega)]
              omega
            rw [v]
            exact ⟨by omega, by omega, fun g => by omega, fun g => by have := b2 (by omega); omega, fun g => by have := b3 (by omega); omega⟩
          rw [j13] at c
          have n0 : tN t q (k + 1) = 0 := by
            rcases ha' with ⟨_, _, b⟩ | ⟨a, _⟩
            · exact b s0
            · omega
          have nl : ¬ tL (t (q + k)) := fun g => by rw [en, if_pos g] at n0; omega
          have nk0 : tN t q k = 0 := by omega
          have dg : tD (t (q + k)) := ak.resolve_left nl
          have ad2 : ∀ i, i < k → tD (t (q + i)) := fun i hi => (ad i hi).resolve_left (tN_none k nk0 i hi)
          have l1 := tF_nn (b := 10) (by omega) (g := fun j => t j - 48) (q := q) k (fun i hi => by have := ad2 i hi; show 0 ≤ t (q + i) - 48; omega)
          have l2 := tF_lt (b := 10) (by omega) (g := fun j => t j - 48) (q := q) k (fun i hi => by have := ad2 i hi; show 0 ≤ t (q + i) - 48 ∧ t (q + i) - 48 < 10; omega)
          have l3 : (10 : Int) ^ k ≤ 100 := by
            rcases (show k = 0 ∨ k = 1 ∨ k = 2 by omega) with rfl | rfl | rfl <;> decide
          have r0 : r = t (q + k) := by rw [hr.1, kj]; exact mk.2.2.1 (by omega)
          rw [e4, yU_eq, fJ 102 14 (by omega), xn (hal a1) s0 (by omega), r0]
          show ysub (yadd (ymul 10 (tF 10 (fun j => t j - 48) q k)) (t (q + k))) 48 = 10 * tF 10 (fun j => t j - 48) q k + (t (q + k) - 48)
          rw [ymul_eq (by omega) (by omega), yadd_eq (by omega) (by omega), ysub_eq (by omega) (by omega)]
          omega
        have s220 : ((tN t q (k + 1) ≠ k + 1 ∧ tN t q (k + 1) ≠ 0)) → yW l zSS D cy zFk z (d + 1) 182 bc bs K 0 0 220 [(0, yr (some 102)), (2, yi sm)] [] (N, T, R, X) := fun g =>
          B_182_220 hT hR ⟨fun _ => s248 0 X (fun _ _ _ => rfl) (.inr ⟨rfl, g⟩) (fun a => absurd a (by decide)) (fun a => absurd a (by decide)), fun _ => w_225 hT hR (ok X (q + k) fX x4 (by omega)) (fun r hr => ⟨_, _, rfl, rfl, fun I4 e4 => s248 0 I4 (fun a b g => by rw [e4, yU_ne _ _ g]) (.inr ⟨rfl, g⟩) (fun a => absurd a (by decide)) (fun a => absurd a (by decide))⟩)⟩
        refine B_182_201 hT hR ⟨fun c => e_lo [0, 2] rfl (s220 ?_), fun c => w_225 hT hR (ok X (q + k) fX x4 (by omega)) (fun r hr => ⟨_, _, rfl, rfl, w_197 hT hR (fun r5 h5 => ⟨_, _, rfl, rfl, fun c2 => e_lo [0, 2] rfl (s220 ?_), fun c2 => ⟨fun c3 => ?_, fun c3 => w_225 hT hR (ok X (q + k) fX x4 (by omega)) (fun r9 h9 => ⟨_, _, rfl, rfl, fun I10 e10 => ?_⟩)⟩⟩)⟩)⟩
        · rcases ha with ⟨a, _⟩ | ⟨_, a, b⟩
          · omega
          · rw [en]; split <;> omega
        · have a1 : al = 1 ∧ (sm = 1 → tN t q k = k) ∧ (sm = 0 → tN t q k = 0) := ha.resolve_right (fun g => c g.1)
          have rr : r = mU (t (q + k)) := by rw [hr.1, kp]
          have k0 : 0 < k := by
            apply Nat.pos_of_ne_zero
            intro g
            subst g
            rcases hs with ⟨s1, s2⟩ | ⟨s1, s2⟩
            · have := mk.1.mp s2; omega
            · have := mk.2.1.mp s2; omega
          rw [en]
          rcases hs with ⟨s1, s2⟩ | ⟨s1, s2⟩
          · have nl : ¬ tL (t (q + k)) := fun g => by have := mk.1.mp g; omega
            rw [if_neg nl, a1.2.1 s1]; omega
          · have lt : tL (t (q + k)) := mk.1.mpr (by omega)
            rw [if_pos lt, a1.2.2 s1]; omega
        · have a1 : al = 1 ∧ (sm = 1 → tN t q k = k) ∧ (sm = 0 → tN t q k = 0) := ha.resolve_right (fun g => c g.1)
          have rr : r = mU (t (q + k)) := by rw [hr.1, kp]
          refine s248 1 X (fun _ _ _ => rfl) (.inl ⟨rfl, fun s1 => ?_, fun s0 => ?_⟩) (fun _ => a1.1) (fun _ _ g => by rw [x13] at c3; omega)
          · rw [en, if_pos (mk.1.mpr (by omega)), a1.2.1 s1]
          · rw [en, if_neg (fun g => by have := mk.1.mp g; omega), a1.2.2 s0]
        · have a1 : al = 1 ∧ (sm = 1 → tN t q k = k) ∧ (sm = 0 → tN t q k = 0) := ha.resolve_right (fun g => c g.1)
          have rr : r = mU (t (q + k)) := by rw [hr.1, kp]
          refine s248 1 I10 (fun a b g => by rw [e10, yU_ne _ _ g]) (.inl ⟨rfl, fun s1 => ?_, fun s0 => ?_⟩) (fun _ => a1.1) (fun _ s1 g => ?_)
          · rw [en, if_pos (mk.1.mpr (by omega)), a1.2.1 s1]
          · rw [en, if_neg (fun g => by have := mk.1.mp g; omega), a1.2.2 s0]
          · have lt : tL (t (q + k)) := mk.1.mpr (by omega)
            have al2 := tN_all k (a1.2.1 s1)
            have l1 := tF_nn (b := 256) (by omega) (g := t) (q := q) k (fun i hi => by have := al2 i hi; omega)
            have l2 := tF_lt (b := 256) (by omega) (g := t) (q := q) k (fun i hi => by have := al2 i hi; omega)
            have l3 : (256 : Int) ^ k ≤ 281474976710656 := by
              rcases (show k = 0 ∨ k = 1 ∨ k = 2 ∨ k = 3 ∨ k = 4 ∨ k = 5 ∨ k = 6 by omega) with rfl | rfl | rfl | rfl | rfl | rfl | rfl <;> decide
            have r9e : r9 = t (q + k) := by rw [h9.1, kp]; exact mk.2.2.1 (by omega)
            rw [e10, yU_eq, xw a1.1 s1 (by omega), r9e, yl_or8 ⟨l1, Int.lt_of_lt_of_le l2 l3⟩ (by omega)]
            rfl
      by_cases ak : tL (t (q + k)) ∨ tD (t (q + k))
      · refine B_182_181 hT hR (w_225 hT hR (ok X (q + k) fX x4 (by omega)) (fun r hr => ⟨_, _, rfl, rfl, w_197 hT hR (fun r4 h4 => ⟨_, _, rfl, rfl, fun c => more ak, fun c => w_225 hT hR (ok X (q + k) fX x4 (by omega)) (fun r7 h7 => ⟨_, _, rfl, rfl, w_189 hT hR (fun r9 h9 => ⟨_, _, rfl, rfl, fun c2 => ?_, fun c2 => more ak⟩)⟩)⟩)⟩))
        rw [kp] at hr h7
        rcases ak with g | g
        · have := mk.1.mp g; omega
        · have := mk.2.1.mp g; omega
      · have k0 : 0 < k := by
          apply Nat.pos_of_ne_zero
          intro g
          subst g
          exact ak an
        refine B_182_181 hT hR (w_225 hT hR (ok X (q + k) fX x4 (by omega)) (fun r hr => ⟨_, _, rfl, rfl, w_197 hT hR (fun r4 h4 => ⟨_, _, rfl, rfl, fun c => ?_, fun c => w_225 hT hR (ok X (q + k) fX x4 (by omega)) (fun r7 h7 => ⟨_, _, rfl, rfl, w_189 hT hR (fun r9 h9 => ⟨_, _, rfl, rfl, fun _ => ?_, fun c2 => ?_⟩)⟩)⟩)⟩))
        · rw [kp] at hr
          exact absurd (.inl (mk.1.mpr (by omega))) ak
        · exact fin k X sm al k0 ⟨by omega, ad, .inr ak⟩ fX x4 x13 x12 hs ha xw xn xb
        · rw [kp] at h7
          exact absurd (.inr (mk.2.1.mpr (by omega))) ak
  -- what isn't white
  have s80 : ∀ (q : Nat) (X : Nat → Nat → Int), tSk t n p q → (∀ a b, ¬ (a = 102 ∧ (b = 4 ∨ (11 ≤ b ∧ b ≤ 14) ∨ b = 17)) → X a b = I a b) → X 102 4 = (q : Int) → X 102 12 = (q : Int) → X 102 13 = 0 → (n ≤ lim ∨ q < lim) → (0 ≤ X 102 14 ∧ X 102 14 ≤ 10000) → yW l zSS D cy zFk z (d + 1) 182 bc bs K 0 0 80 [(0, yr (some 102))] [] (N, T, R, X) := by
    intro q X hq fX x4 x12 x13 hl x14
    have qn := hq.2.1
    by_cases c0 : q < n
    · have kp := (pk X q fX x4).2 c0
      have mk := mu q c0
      have hlt : q < min n lim := by omega
      have s164 : (tL (t q) ∨ tD (t q)) → yW l zSS D cy zFk z (d + 1) 182 bc bs K 0 0 164 [(0, yr (some 102)), (1, yi (mU (t q)))] [] (N, T, R, X) := fun an =>
        B_182_164 hT hR (w_197 hT hR (fun r2 h2 => ⟨_, _, rfl, rfl, fun I3 e3 I4 e4 => by
          refine run q hq hlt an (n - q) 0 I4 r2 1 (by omega) (fun j hj => absurd hj (Nat.not_lt_zero _)) (fun a b g => by rw [e4, yU_ne _ _ (by omega), e3, yU_ne _ _ (by omega)]; exact fX a b g) (by rw [e4, yU_ne _ _ (by omega), e3, yU_ne _ _ (by omega)]; exact x4) (by rw [e4, yU_ne _ _ (by omega), e3, yU_ne _ _ (by omega)]; exact x13) (by rw [e4, yU_ne _ _ (by omega), e3, yU_ne _ _ (by omega)]; exact x12) ?_ (.inl ⟨rfl, fun _ => rfl, fun _ => rfl⟩) (fun _ _ _ => by rw [e4, yU_ne _ _ (by omega), e3, yU_eq]; rfl) (fun _ _ _ => by rw [e4, yU_eq]; rfl) (by rw [e4, yU_eq]; exact ⟨Int.le_refl _, by decide, fun _ => rfl, fun _ => by decide, fun _ => by decide⟩)
          rcases h2 with ⟨a, b⟩ | ⟨a, b⟩
          · exact .inl ⟨a, mk.1.mpr b⟩
          · exact .inr ⟨a, an.resolve_left (fun g => b (mk.1.mp g))⟩⟩))
      have nx : ¬ (tL (t q) ∨ tD (t q)) → tRun t n q 0 := fun g => ⟨by omega, fun j hj => absurd hj (Nat.not_lt_zero _), .inr g⟩
      have leaf3 : ¬ (tL (t q) ∨ tD (t q)) → tS (t q) → 0 ≤ t q → ∀ A B C, A = yU X 102 11 3 → B = yU A 102 14 (mU (t q)) → C = yU B 102 4 (yadd (B 102 4) 1) → K none (N, T, R, C) := fun na g g0 A B C e1 e2 e3 => by
        refine hk C (fun a b g => by rw [e3, yU_ne _ _ (by omega), e2, yU_ne _ _ (by omega), e1, yU_ne _ _ (by omega)]; exact fX a b g) ⟨(3, q, t q, q + 1), ⟨q, hq, .inr ⟨hlt, 0, nx na, .inl ⟨rfl, by rw [if_pos g, if_pos g]⟩⟩⟩, by rw [e3, yU_ne _ _ (by omega), e2, yU_ne _ _ (by omega), e1, yU_eq]; rfl, by rw [e3, yU_ne _ _ (by omega), e2, yU_ne _ _ (by omega), e1, yU_ne _ _ (by omega)]; exact x12, ?_, fun g => absurd g (by decide : ¬ ((3 : Nat) = 1)), fun g => absurd g (by decide : ¬ ((3 : Nat) = 2)), fun _ => by rw [e3, yU_ne _ _ (by omega), e2, yU_eq]; exact mk.2.2.1 g0, (by decide : (3 : Nat) < 5), (show q + 1 ≤ n by omega), by rw [e3, yU_ne _ _ (by omega), e2, yU_eq]; exact ⟨mk.2.2.2.2.1, by have := mk.2.2.2.2.2; omega⟩⟩
        rw [e3, yU_eq, e2, yU_ne _ _ (by omega), e1, yU_ne _ _ (by omega), x4, yadd_eq (by omega) (by omega)]; rfl
      have leaf4 : ¬ (tL (t q) ∨ tD (t q)) → ¬ tS (t q) → ∀ A B C, A = yU X 102 11 4 → B = yU A 102 14 (mU (t q)) → C = yU B 102 4 (yadd (B 102 4) 1) → K none (N, T, R, C) := fun na g A B C e1 e2 e3 => by
        refine hk C (fun a b g => by rw [e3, yU_ne _ _ (by omega), e2, yU_ne _ _ (by omega), e1, yU_ne _ _ (by omega)]; exact fX a b g) ⟨(4, q, 0, q + 1), ⟨q, hq, .inr ⟨hlt, 0, nx na, .inl ⟨rfl, by rw [if_neg g, if_neg g]⟩⟩⟩, by rw [e3, yU_ne _ _ (by omega), e2, yU_ne _ _ (by omega), e1, yU_eq]; rfl, by rw [e3, yU_ne _ _ (by omega), e2, yU_ne _ _ (by omega), e1, yU_ne _ _ (by omega)]; exact x12, ?_, fun g => absurd g (by decide : ¬ ((4 : Nat) = 1)), fun g => absurd g (by decide : ¬ ((4 : Nat) = 2)), fun g => absurd g (by decide : ¬ ((4 : Nat) = 3)), (by decide : (4 : Nat) < 5), (show q + 1 ≤ n by omega), by rw [e3, yU_ne _ _ (by omega), e2, yU_eq]; exact ⟨mk.2.2.2.2.1, by have := mk.2.2.2.2.2; omega⟩⟩
        rw [e3, yU_eq, e2, yU_ne _ _ (by omega), e1, yU_ne _ _ (by omega), x4, yadd_eq (by omega) (by omega)]; rfl
      refine B_182_80 hT hR (w_225 hT hR (ok X q fX x4 qn) (fun r hr => ⟨_, _, rfl, rfl, ?_⟩))
      have re : r = mU (t q) := by rw [hr.1, kp]
      subst re
      refine ⟨fun _ => w_197 hT hR (fun r5 h5 => ⟨_, _, rfl, rfl, fun c2 => s164 (.inl (mk.1.mpr (by omega))), fun c2 => w_189 hT hR (fun r8 h8 => ⟨_, _, rfl, rfl, fun c3 => s164 (.inr (mk.2.1.mpr (by omega))), fun c3 => ?_⟩)⟩), fun c => absurd mk.2.2.2.2.1 c⟩
      have na : ¬ (tL (t q) ∨ tD (t q)) := fun g => by
        rcases g with g | g
        · have := mk.1.mp g; omega
        · have := mk.2.1.mp g; omega
      have um : (0 ≤ t q ∧ mU (t q) = t q) ∨ (t q < 0 ∧ 128 ≤ mU (t q)) := by
        by_cases g : 0 ≤ t q
        · exact .inl ⟨g, mk.2.2.1 g⟩
        · exact .inr ⟨by omega, mk.2.2.2.1 (by omega)⟩
      refine ⟨fun c4 A e1 B e2 C e3 => leaf3 na (by omega) (by omega) A B C e1 e2 e3, fun c4 => ⟨fun c5 A e1 B e2 C e3 => leaf3 na (by omega) (by omega) A B C e1 e2 e3, fun c5 => ⟨fun c6 A e1 B e2 C e3 => leaf3 na (by omega) (by omega) A B C e1 e2 e3, fun c6 => ⟨fun c7 A e1 B e2 C e3 => leaf4 na (by omega) A B C e1 e2 e3, fun c7 => ⟨fun c8 A e1 B e2 C e3 => leaf4 na (by omega) A B C e1 e2 e3, fun c8 A e1 B e2 C e3 => leaf3 na (by omega) (by omega) A B C e1 e2 e3⟩⟩⟩⟩⟩
    · have kp := (pk X q fX x4).1 (by omega)
      refine B_182_80 hT hR (w_225 hT hR (ok X q fX x4 qn) (fun r hr => ⟨_, _, rfl, rfl, fun c => by rw [hr.1, kp] at c; omega, fun c J e => ?_⟩))
      have nl : n ≤ lim := by omega
      exact hk J (fun a b g => by rw [e, yU_ne _ _ (by omega)]; exact fX a b g) ⟨(0, min n lim, 0, q), ⟨q, hq, .inl ⟨by omega, by rw [if_pos nl]⟩⟩, by rw [e, yU_eq]; rfl, by rw [e, yU_ne _ _ (by omega), x12]; show _ = ((min n lim : Nat) : Int); omega, by rw [e, yU_ne _ _ (by omega)]; exact x4, fun g => absurd g (by decide : ¬ ((0 : Nat) = 1)), fun g => absurd g (by decide : ¬ ((0 : Nat) = 2)), fun g => absurd g (by decide : ¬ ((0 : Nat) = 3)), (by decide : (0 : Nat) < 5), qn, by rw [e, yU_ne _ _ (by omega)]; exact x14⟩
  -- the white
  have loop : ∀ (m q : Nat) (X : Nat → Nat → Int), q + m = n → p ≤ q → (∀ j, p ≤ j → j < q → t j = 32 ∨ t j = 10) → (∀ a b, ¬ (a = 102 ∧ (b = 4 ∨ (11 ≤ b ∧ b ≤ 14) ∨ b = 17)) → X a b = I a b) → X 102 4 = (q : Int) → (0 ≤ X 102 14 ∧ X 102 14 ≤ 10000) → yW l zSS D cy zFk z (d + 1) 182 bc bs K 0 0 0 [(0, yr (some 102))] [] (N, T, R, X) := by
    intro m
    induction m with
    | zero =>
      intro q X hm hpq al fX x4 x14
      have kp := (pk X q fX x4).1 (by omega)
      refine B_182_0 hT hR (w_225 hT hR (ok X q fX x4 (by omega)) (fun r hr => ⟨_, _, rfl, rfl, fun c => by rw [hr.1, kp] at c; omega, fun c => w_225 hT hR (ok X q fX x4 (by omega)) (fun r2 hr2 => ⟨_, _, rfl, rfl, fun c2 I7 e7 I8 e8 => ?_, fun c2 => by rw [hr2.1, kp] at c2; omega⟩)⟩))
      have f8 : ∀ a b, ¬ (a = 102 ∧ (b = 12 ∨ b = 13)) → I8 a b = X a b := fun a b g => by rw [e8, yU_ne _ _ (by omega), e7, yU_ne _ _ (by omega)]
      have y3 : I8 102 3 = (n : Int) := by rw [f8 102 3 (by omega), fX 102 3 (by omega)]; exact h3
      have y4 : I8 102 4 = (q : Int) := by rw [f8 102 4 (by omega)]; exact x4
      have y5 : I8 102 5 = (lim : Int) := by rw [f8 102 5 (by omega), fX 102 5 (by omega)]; exact h5
      have y14 : 0 ≤ I8 102 14 ∧ I8 102 14 ≤ 10000 := by rw [f8 102 14 (by omega)]; exact x14
      have y12 : I8 102 12 = (q : Int) := by rw [e8, yU_ne _ _ (by omega), e7, yU_eq]; exact x4
      have sk : tSk t n p q := ⟨hpq, by omega, al, .inl (by omega)⟩
      have fI8 : ∀ a b, ¬ (a = 102 ∧ (b = 4 ∨ (11 ≤ b ∧ b ≤ 14) ∨ b = 17)) → I8 a b = I a b := fun a b g => by rw [f8 a b (by omega)]; exact fX a b g
      refine ⟨fun c3 => s80 q I8 sk fI8 y4 y12 (by rw [e8, yU_eq]) (.inl (by omega)) y14, fun c3 => ⟨fun c4 => s80 q I8 sk fI8 y4 y12 (by rw [e8, yU_eq]) (.inr (by omega)) y14, fun c4 I11 e11 I12 e12 => ?_⟩⟩
      exact hk I12 (fun a b g => by rw [e12, yU_ne _ _ (by omega), e11, yU_ne _ _ (by omega)]; exact fI8 a b g) ⟨(4, min n lim, 0, q), ⟨q, sk, .inl ⟨by omega, by rw [if_neg (by omega)]⟩⟩, by rw [e12, yU_eq]; rfl, by rw [e12, yU_ne _ _ (by omega), e11, yU_eq, y5]; show _ = ((min n lim : Nat) : Int); omega, by rw [e12, yU_ne _ _ (by omega), e11, yU_ne _ _ (by omega)]; exact y4, fun g => absurd g (by decide : ¬ ((4 : Nat) = 1)), fun g => absurd g (by decide : ¬ ((4 : Nat) = 2)), fun g => absurd g (by decide : ¬ ((4 : Nat) = 3)), (by decide : (4 : Nat) < 5), (show q ≤ n by omega), by rw [e12, yU_ne _ _ (by omega), e11, yU_ne _ _ (by omega)]; exact y14⟩
    | succ m ih =>
      intro q X hm hpq al fX x4 x14
      have qn : q < n := by omega
      have kp := (pk X q fX x4).2 qn
      have mk := mu q qn
      have go : (t q = 32 ∨ t q = 10) → yW l zSS D cy zFk z (d + 1) 182 bc bs K 0 0 18 [(0, yr (some 102))] [] (N, T, R, X) := fun g =>
        B_182_18 hT hR (fun I1 e1 => ih (q + 1) I1 (by omega) (by omega) (fun j h1 h2 => by
          by_cases e : j = q
          · subst e; exact g
          · exact al j h1 (by omega)) (fun a b g => by rw [e1, yU_ne _ _ (by omega)]; exact fX a b g) (by rw [e1, yU_eq, x4, yadd_eq (by omega) (by omega)]; rfl) (by rw [e1, yU_ne _ _ (by omega)]; exact x14))
      have um : (0 ≤ t q ∧ mU (t q) = t q) ∨ (t q < 0 ∧ 128 ≤ mU (t q)) := by
        by_cases g : 0 ≤ t q
        · exact .inl ⟨g, mk.2.2.1 g⟩
        · exact .inr ⟨by omega, mk.2.2.2.1 (by omega)⟩
      refine B_182_0 hT hR (w_225 hT hR (ok X q fX x4 (by omega)) (fun r hr => ⟨_, _, rfl, rfl, fun c => go (by rw [hr.1, kp] at c; omega), fun c => w_225 hT hR (ok X q fX x4 (by omega)) (fun r2 hr2 => ⟨_, _, rfl, rfl, fun c2 I7 e7 I8 e8 => ?_, fun c2 => go (by rw [hr2.1, kp] at c2; omega)⟩)⟩))
      have f8 : ∀ a b, ¬ (a = 102 ∧ (b = 12 ∨ b = 13)) → I8 a b = X a b := fun a b g => by rw [e8, yU_ne _ _ (by omega), e7, yU_ne _ _ (by omega)]
      have y3 : I8 102 3 = (n : Int) := by rw [f8 102 3 (by omega), fX 102 3 (by omega)]; exact h3
      have y4 : I8 102 4 = (q : Int) := by rw [f8 102 4 (by omega)]; exact x4
      have y5 : I8 102 5 = (lim : Int) := by rw [f8 102 5 (by omega), fX 102 5 (by omega)]; exact h5
      have y14 : 0 ≤ I8 102 14 ∧ I8 102 14 ≤ 10000 := by rw [f8 102 14 (by omega)]; exact x14
      have y12 : I8 102 12 = (q : Int) := by rw [e8, yU_ne _ _ (by omega), e7, yU_eq]; exact x4
      have nw : ¬ (t q = 32 ∨ t q = 10) := fun g => by rw [hr.1, kp] at c; rw [hr2.1, kp] at c2; omega
      have sk : tSk t n p q := ⟨hpq, by omega, al, .inr nw⟩
      have fI8 : ∀ a b, ¬ (a = 102 ∧ (b = 4 ∨ (11 ≤ b ∧ b ≤ 14) ∨ b = 17)) → I8 a b = I a b := fun a b g => by rw [f8 a b (by omega)]; exact fX a b g
      refine ⟨fun c3 => s80 q I8 sk fI8 y4 y12 (by rw [e8, yU_eq]) (.inl (by omega)) y14, fun c3 => ⟨fun c4 => s80 q I8 sk fI8 y4 y12 (by rw [e8, yU_eq]) (.inr (by omega)) y14, fun c4 I11 e11 I12 e12 => ?_⟩⟩
      exact hk I12 (fun a b g => by rw [e12, yU_ne _ _ (by omega), e11, yU_ne _ _ (by omega)]; exact fI8 a b g) ⟨(4, min n lim, 0, q), ⟨q, sk, .inl ⟨by omega, by rw [if_neg (by omega)]⟩⟩, by rw [e12, yU_eq]; rfl, by rw [e12, yU_ne _ _ (by omega), e11, yU_eq, y5]; show _ = ((min n lim : Nat) : Int); omega, by rw [e12, yU_ne _ _ (by omega), e11, yU_ne _ _ (by omega)]; exact y4, fun g => absurd g (by decide : ¬ ((4 : Nat) = 1)), fun g => absurd g (by decide : ¬ ((4 : Nat) = 2)), fun g => absurd g (by decide : ¬ ((4 : Nat) = 3)), (by decide : (4 : Nat) < 5), (show q ≤ n by omega), by rw [e12, yU_ne _ _ (by omega), e11, yU_ne _ _ (by omega)]; exact y14⟩
  exact loop (n - p) p I (by omega) (Nat.le_refl _) (fun j h1 h2 => absurd h1 (by omega)) (fun _ _ _ => rfl) h4 h14
end Xm
