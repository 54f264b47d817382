/-! THE REFERENCE's CONTRACTS, 2: all WAYs, PRECEDENCE. -/
section Sm
variable {l : Launch} {D : va_G} {cy : Nat → ClassId} {z d bc bs N : Nat} {T : Nat → Nat × Nat} {R : Nat → Nat → Option Nat} {I : Nat → Nat → Int} {K : yKo}
/-- the rows of ways have changed alone -/
def mWy (I I' : Nat → Nat → Int) : Prop := ∀ k j, k ≠ 109 → k ≠ 110 → I' k j = I k j
theorem mWy_dim {I I' : Nat → Nat → Int} (h : mWy I I') (hM : mDim I) : mDim I' := by
  unfold mDim; rw [h 104 0 (by decide) (by decide), h 104 1 (by decide) (by decide), h 104 2 (by decide) (by decide)]; exact hM
theorem r_ways (hT : yLT T) (hR : yLR R) (hM : mDim I) (hk : ∀ I', mWy I I' → K none (N, T, R, I')) : yW l zSS D cy zFk z (d + 4) 255 bc bs K 0 0 0 [(0, yr (some 102))] [] (N, T, R, I) := by
  have loop : ∀ (m : Nat) (I' : Nat → Nat → Int) (k : Nat), k + m = 9 → mWy I I' → (k : Int) ≤ I 104 2 → yW l zSS D cy zFk z (d + 4) 255 bc bs K 0 0 2 [(0, yr (some 102)), (1, yi (k : Int))] [] (N, T, R, I') := by
    intro m
    induction m with
    | zero => intro I' k hk2 hw hle; have := hM.2.2.2.2.2; omega
    | succ m ih =>
      intro I' k hk2 hw hle
      have h8 := hM.2.2.2.2.2
      have e2 : I' 104 2 = I 104 2 := hw 104 2 (by decide) (by decide)
      refine B_255_2 hT hR ⟨fun _ => hk I' hw, fun c => ?_⟩
      rw [yadd_eq (x := 334) (by omega) (by omega), yadd_eq (x := (k : Int)) (by omega) (by omega), ymul_eq (by omega) (by omega)]
      refine ⟨by omega, by omega, ?_⟩
      have eb : (100 * (k : Int)) = ((100 * k : Nat) : Int) := by omega
      rw [eb]
      refine r_spreads (d := d) hT hR (mWy_dim hw hM) (by omega) (fun I2 h2 => ⟨_, rfl, rfl, ?_⟩)
      exact ih I2 (k + 1) (by omega) (fun a b ha hb => by rw [h2 a b (.inl ha) hb]; exact hw a b ha hb) (by omega)
  exact B_255_0 hT hR (loop 9 I 0 rfl (fun _ _ _ _ => rfl) (by have := hM.2.2.2.2.1; omega))
/-- the numbers that a WAY of the law compares -/
def mLw (w : Int) : Nat := if w = 0 then 310 else if w = 1 then 318 else 478
/-- by the law's last n WAYS, then by number -/
def mAhL (I : Nat → Nat → Int) (a b : Nat) : Nat → Prop
  | 0 => a < b
  | n + 1 => if I 104 (mLw (I 104 (7 + ((I 104 6).toNat - (n + 1)))) + a) = I 104 (mLw (I 104 (7 + ((I 104 6).toNat - (n + 1)))) + b) then mAhL I a b n else I 104 (mLw (I 104 (7 + ((I 104 6).toNat - (n + 1)))) + b) < I 104 (mLw (I 104 (7 + ((I 104 6).toNat - (n + 1)))) + a)
/-- CHAIR a is ahead of CHAIR b -/
def mAhd (I : Nat → Nat → Int) (a b : Nat) : Prop := if I 104 (342 + a) = I 104 (342 + b) then mAhL I a b (I 104 6).toNat else I 104 (342 + a) = 1
theorem r_isAhead (hT : yLT T) (hR : yLR R) {a b : Nat} (ha : a < 8) (hb : b < 8) (hL : 0 ≤ I 104 6 ∧ I 104 6 ≤ 3) (hk : ∀ r, (r = 1 ∧ mAhd I a b) ∨ (r = 0 ∧ ¬ mAhd I a b) → K (some (yi r)) (N, T, R, I)) : yW l zSS D cy zFk z d 186 bc bs K 0 0 0 [(0, yr (some 102)), (1, yi (a : Int)), (2, yi (b : Int))] [] (N, T, R, I) := by
  have loop : ∀ (n i : Nat), i + n = (I 104 6).toNat → (∀ r, (r = 1 ∧ mAhL I a b n) ∨ (r = 0 ∧ ¬ mAhL I a b n) → K (some (yi r)) (N, T, R, I)) → yW l zSS D cy zFk z d 186 bc bs K 0 0 45 [(0, yr (some 102)), (1, yi (a : Int)), (2, yi (b : Int)), (3, yi (i : Int))] [] (N, T, R, I) := by
    intro n
    induction n with
    | zero =>
      intro i hi hk
      refine B_186_45 hT hR ⟨fun _ => ⟨fun c => B_186_162 hT hR ⟨.inl rfl, hk 0 (.inr ⟨rfl, fun g => ?_⟩)⟩, fun c => B_186_162 hT hR ⟨.inr rfl, hk 1 (.inl ⟨rfl, ?_⟩)⟩⟩, fun c => absurd c (by omega)⟩
      · have g : a < b := g; omega
      · show a < b; omega
    | succ n ih =>
      intro i hi hk
      have ei : 7 + ((I 104 6).toNat - (n + 1)) = 7 + i := by omega
      unfold mAhL at hk
      rw [ei] at hk
      have step : ∀ f : Nat, f = mLw (I 104 (7 + i)) → f ≤ 478 → yW l zSS D cy zFk z d 186 bc bs K 0 0 96 [(0, yr (some 102)), (1, yi (a : Int)), (2, yi (b : Int)), (3, yi (i : Int))] [yi (f : Int)] (N, T, R, I) := by
        intro f hf hf2
        rw [← hf] at hk
        refine B_186_96 hT hR ?_
        rw [yadd_eq (x := (f : Int)) (y := (a : Int)) (by omega) (by omega), yadd_eq (x := (f : Int)) (y := (b : Int)) (by omega) (by omega), yadd_eq (x := (i : Int)) (by omega) (by omega)]
        have ea : ((f : Int) + (a : Int)).toNat = f + a := by omega
        have eb : ((f : Int) + (b : Int)).toNat = f + b := by omega
        rw [ea, eb]
        refine ⟨by omega, by omega, by omega, by omega, fun c => ?_, fun c => ⟨by omega, by omega, by omega, by omega, fun c2 => ?_, fun c2 => ?_⟩⟩
        · rw [if_pos c] at hk
          exact ih (i + 1) (by omega) hk
        · rw [if_neg c] at hk
          exact B_186_145 hT hR ⟨.inl rfl, hk 0 (.inr ⟨rfl, by omega⟩)⟩
        · rw [if_neg c] at hk
          exact B_186_145 hT hR ⟨.inr rfl, hk 1 (.inl ⟨rfl, by omega⟩)⟩
      refine B_186_45 hT hR ⟨fun c => absurd c (by omega), fun _ => ?_⟩
      rw [yadd_eq (x := 7) (by omega) (by omega)]
      have e7 : ((7 : Int) + (i : Int)).toNat = 7 + i := by omega
      rw [e7]
      refine ⟨by omega, by omega, fun c => ⟨by omega, by omega, fun c2 => ?_, fun c2 => ?_⟩, fun c => ?_⟩
      · exact step 478 (by unfold mLw; rw [if_neg c, if_neg c2]) (by omega)
      · exact step 318 (by unfold mLw; rw [if_neg c, if_pos (by omega)]) (by omega)
      · exact step 310 (by unfold mLw; rw [if_pos (by omega)]) (by omega)
  unfold mAhd at hk
  refine B_186_0 hT hR ?_
  rw [yadd_eq (x := 342) (y := (a : Int)) (by omega) (by omega), yadd_eq (x := 342) (y := (b : Int)) (by omega) (by omega)]
  have ea : ((342 : Int) + (a : Int)).toNat = 342 + a := by omega
  have eb : ((342 : Int) + (b : Int)).toNat = 342 + b := by omega
  rw [ea, eb]
  refine ⟨by omega, by omega, by omega, by omega, fun c => ?_, fun c => ⟨by omega, by omega, fun c2 => ?_, fun c2 => ?_⟩⟩
  · rw [if_pos c] at hk
    exact loop _ 0 (Nat.zero_add _) hk
  · rw [if_neg c] at hk
    exact B_186_42 hT hR ⟨.inl rfl, hk 0 (.inr ⟨rfl, c2⟩)⟩
  · rw [if_neg c] at hk
    exact B_186_42 hT hR ⟨.inr rfl, hk 1 (.inl ⟨rfl, by omega⟩)⟩
/-- the rows of the order hold CHAIRS' numbers -/
def mOr (I : Nat → Nat → Int) : Prop := ∀ i, i < 8 → 0 ≤ I 111 i ∧ I 111 i < 8 ∧ 0 ≤ I 112 i ∧ I 112 i < 8
def mFo (I I' : Nat → Nat → Int) : Prop := ∀ k j, k ≠ 111 → k ≠ 112 → I' k j = I k j
theorem r_orders (hT : yLT T) (hR : yLR R) (hC : 0 ≤ I 104 2 ∧ I 104 2 ≤ 8) (hL : 0 ≤ I 104 6 ∧ I 104 6 ≤ 3) (hO : mOr I) (hk : ∀ I', mFo I I' → mOr I' → K none (N, T, R, I')) : yW l zSS D cy zFk z (d + 1) 224 bc bs K 0 0 0 [(0, yr (some 102))] [] (N, T, R, I) := by
  have outer : ∀ (m : Nat) (I' : Nat → Nat → Int) (k : Nat), k + m = 9 → mFo I I' → mOr I' → (k : Int) ≤ I 104 2 → yW l zSS D cy zFk z (d + 1) 224 bc bs K 0 0 2 [(0, yr (some 102)), (1, yi (k : Int))] [] (N, T, R, I') := by
    intro m
    induction m with
    | zero => intro I' k hk2 hf ho hle; omega
    | succ m ih =>
      intro I' k hk2 hf ho hle
      have e2 : I' 104 2 = I 104 2 := hf 104 2 (by decide) (by decide)
      have e6 : I' 104 6 = I 104 6 := hf 104 6 (by decide) (by decide)
      refine B_224_2 hT hR ⟨fun _ => hk I' hf ho, fun c => ?_⟩
      have inner : ∀ (n q pos : Nat), q + n = (I 104 2).toNat → pos + (if k < q then 1 else 0) ≤ q → yW l zSS D cy zFk z (d + 1) 224 bc bs K 0 0 16 [(0, yr (some 102)), (1, yi (k : Int)), (2, yi (pos : Int)), (3, yi (q : Int))] [] (N, T, R, I') := by
        intro n
        induction n with
        | zero =>
          intro q pos hq hp
          rw [if_pos (by omega)] at hp
          refine B_224_16 hT hR ⟨fun _ => ⟨by omega, by omega, ?_⟩, fun g => absurd g (by omega)⟩
          intro I4 e4
          refine ⟨by omega, by omega, ?_⟩
          intro I7 e7
          rw [ynar1_eq (by omega) (by omega)] at e4 e7
          have en1 : ((pos : Int)).toNat = pos := by omega
          have en2 : ((k : Int)).toNat = k := by omega
          rw [en1] at e4
          rw [en2] at e7
          rw [yadd_eq (x := (k : Int)) (by omega) (by omega)]
          refine ih I7 (k + 1) (by omega) (fun a b ha hb => ?_) (fun i hi => ?_) (by omega)
          · rw [e7, yU_ne _ _ (by omega), e4, yU_ne _ _ (by omega)]; exact hf a b ha hb
          · obtain ⟨o1, o2, o3, o4⟩ := ho i hi
            have v1 : I7 111 i = if i = pos then (k : Int) else I' 111 i := by
              rw [e7, yU_ne _ _ (by omega), e4]
              by_cases e : i = pos
              · rw [if_pos e, e, yU_eq]
              · rw [if_neg e, yU_ne _ _ (by omega)]
            have v2 : I7 112 i = if i = k then (pos : Int) else I' 112 i := by
              rw [e7]
              by_cases e : i = k
              · rw [if_pos e, e, yU_eq]
              · rw [if_neg e, yU_ne _ _ (by omega), e4, yU_ne _ _ (by omega)]
            rw [v1, v2]
            refine ⟨?_, ?_, ?_, ?_⟩ <;> split <;> omega
        | succ n ihn =>
          intro q pos hq hp
          refine B_224_16 hT hR ⟨fun g => absurd g (by omega), fun _ => ?_⟩
          rw [yadd_eq (x := (pos : Int)) (y := 0) (by split at hp <;> omega) (by split at hp <;> omega), yadd_eq (x := (q : Int)) (by omega) (by omega), yadd_eq (x := (pos : Int)) (y := 1) (by split at hp <;> omega) (by split at hp <;> omega)]
          have go0 : (pos + (if k < q + 1 then 1 else 0) ≤ q + 1) → yW l zSS D cy zFk z (d + 1) 224 bc bs K 0 0 16 [(0, yr (some 102)), (1, yi (k : Int)), (2, yi ((pos : Int) + 0)), (3, yi ((q : Int) + 1))] [] (N, T, R, I') := fun g => by
            have := ihn (q + 1) pos (by omega) g
            rw [Int.add_zero]; exact this
          refine ⟨fun c1 => go0 ?_, fun c1 => ?_⟩
          · split <;> split at hp <;> omega
          · refine r_isAhead hT hR (a := q) (b := k) (by omega) (by omega) (by rw [e6]; exact hL) (fun r _ => ⟨_, _, rfl, rfl, fun _ => go0 ?_, fun _ => ?_⟩)
            · split <;> split at hp <;> omega
            · exact ihn (q + 1) (pos + 1) (by omega) (by split <;> split at hp <;> omega)
      exact inner _ 0 0 (Nat.zero_add _) (by split <;> omega)
  exact B_224_0 hT hR (outer 9 I 0 rfl (fun _ _ _ _ => rfl) hO (by omega))
end Sm
