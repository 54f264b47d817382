/-! CONTRACTS of the class: the UNTIER, 5: the land read, the movers listed; all of it. -/
/-- where the CELL r lies, seen from at -/
def cBes (W H at_ dir : Nat) (r : Int) : Prop := 0 ≤ r ∧ r < 100 ∧ r % 10 < (W : Int) ∧ r / 10 < (H : Int) ∧ ((dir = 0 ∧ r % 10 = (at_ : Int) % 10 ∧ r / 10 + 1 = (at_ : Int) / 10) ∨ (dir = 1 ∧ r % 10 = (at_ : Int) % 10 + 1 ∧ r / 10 = (at_ : Int) / 10) ∨ (dir = 2 ∧ r % 10 = (at_ : Int) % 10 ∧ r / 10 = (at_ : Int) / 10 + 1) ∨ (dir = 3 ∧ r % 10 + 1 = (at_ : Int) % 10 ∧ r / 10 = (at_ : Int) / 10))
/-- how many of the first n CHAIRS are out -/
def cOt (I : Nat → Nat → Int) : Nat → Nat
  | 0 => 0
  | n + 1 => cOt I n + if I 20 n = -1 then 0 else 1
theorem cOt_le (I : Nat → Nat → Int) : ∀ n, cOt I n ≤ n := by
  intro n
  induction n with
  | zero => exact Nat.le_refl _
  | succ n ih => show cOt I n + (if I 20 n = -1 then 0 else 1) ≤ n + 1; split <;> omega
theorem cOt_mono (I : Nat → Nat → Int) : ∀ n k, cOt I k ≤ cOt I (k + n) := by
  intro n
  induction n with
  | zero => intro k; exact Nat.le_refl _
  | succ n ih => intro k; have := ih k; show cOt I k ≤ cOt I (k + n) + (if I 20 (k + n) = -1 then 0 else 1); omega
theorem cOt_cg {I X : Nat → Nat → Int} (h : ∀ j, X 20 j = I 20 j) : ∀ n, cOt X n = cOt I n := by
  intro n
  induction n with
  | zero => rfl
  | succ n ih => show cOt X n + (if X 20 n = -1 then 0 else 1) = cOt I n + (if I 20 n = -1 then 0 else 1); rw [ih, h]
/-- how many CHAIRS there are, at most eight -/
def cNc (I : Nat → Nat → Int) : Nat := if 8 ≤ I 4 5 then 8 else (I 4 5).toNat
theorem cNc_le (I : Nat → Nat → Int) : cNc I ≤ 8 := by unfold cNc; split <;> omega
theorem cM_succ {B m : Nat} (h : m < 3) : cM B m * B = cM B (m + 1) ∧ cM B m = cUn B m := by
  rcases (show m = 0 ∨ m = 1 ∨ m = 2 by omega) with rfl | rfl | rfl
  · exact ⟨Nat.one_mul B, rfl⟩
  · exact ⟨rfl, rfl⟩
  · exact ⟨Nat.mul_assoc B B B, rfl⟩
section Cu
variable {l : Launch} {D : va_G} {cy : Nat → ClassId} {z d bc bs N : Nat} {T : Nat → Nat × Nat} {R : Nat → Nat → Option Nat} {I : Nat → Nat → Int} {K : yKo} {vs ns vq nq vt nt : Nat}
theorem w_5x (hT : yLT T) (hR : yLR R) {W H a dir : Nat} (hW : I 4 0 = (W : Int)) (hH : I 4 1 = (H : Int)) (hW10 : W ≤ 10) (hH10 : H ≤ 10) (ha : a < 100) (hd : dir < 4) (hk : ∀ r, (r = -1 ∨ cBes W H a dir r) → K (some (yi r)) (N, T, R, I)) : yW l zSS D cy zFk z d 5 bc bs K 0 0 0 [(0, yr (some 4)), (1, yi (a : Int)), (2, yi (dir : Int))] [] (N, T, R, I) := by
  have hp := a_Land4 hT hR
  have no : yW l zSS D cy zFk z d 5 bc bs K 0 0 96 [] [] (N, T, R, I) := B_5_96 hT hR hp (hk _ (.inl rfl))
  have e1 : yrem (a : Int) 10 = (a : Int) % 10 := yrem_eq (by omega) (by omega) (by omega) (by omega)
  have e2 : ydiv (a : Int) 10 = (a : Int) / 10 := ydiv_eq (by omega) (by omega) (by omega) (by omega)
  have fin : ∀ x3 x4 : Int, -1 ≤ x3 → x3 ≤ 10 → -1 ≤ x4 → x4 ≤ 10 → (0 ≤ x3 → 0 ≤ x4 → x3 < (W : Int) → x4 < (H : Int) → cBes W H a dir (10 * x4 + x3)) → yW l zSS D cy zFk z d 5 bc bs K 0 0 70 [(0, yr (some 4)), (3, yi x3), (4, yi x4)] [] (N, T, R, I) := by
    intro x3 x4 a1 a2 a3 a4 hb
    refine B_5_70 hT hR hp ⟨fun _ => no, fun c1 => ⟨fun _ => no, fun c2 => ⟨fun _ => no, fun c3 => ⟨fun c4 => ?_, fun _ => no⟩⟩⟩⟩
    rw [ymul_eq (by omega) (by omega), yadd_eq (by omega) (by omega)]
    rw [hW] at c3
    rw [hH] at c4
    exact hk _ (.inr (hb (by omega) (by omega) (by omega) c4))
  refine B_5_0 hT hR hp ?_
  rw [e1, e2, yadd_eq (by omega) (by omega), yadd_eq (by omega) (by omega), yadd_eq (by omega) (by omega), yadd_eq (by omega) (by omega)]
  refine ⟨fun c => fin _ _ (by omega) (by omega) (by omega) (by omega) (fun b1 b2 b3 b4 => ?_), fun c0 => ⟨fun c => fin _ _ (by omega) (by omega) (by omega) (by omega) (fun b1 b2 b3 b4 => ?_), fun c1 => ⟨fun c => fin _ _ (by omega) (by omega) (by omega) (by omega) (fun b1 b2 b3 b4 => ?_), fun c2 => ⟨fun c => fin _ _ (by omega) (by omega) (by omega) (by omega) (fun b1 b2 b3 b4 => ?_), fun c => by omega⟩⟩⟩⟩
  · exact ⟨by omega, by omega, by omega, by omega, .inl ⟨by omega, by omega, by omega⟩⟩
  · exact ⟨by omega, by omega, by omega, by omega, .inr (.inl ⟨by omega, by omega, by omega⟩)⟩
  · exact ⟨by omega, by omega, by omega, by omega, .inr (.inr (.inl ⟨by omega, by omega, by omega⟩))⟩
  · exact ⟨by omega, by omega, by omega, by omega, .inr (.inr (.inr ⟨by omega, by omega, by omega⟩))⟩
theorem w_25x (hT : yLT T) (hR : yLR R) {W H a dir : Nat} (hW : I 4 0 = (W : Int)) (hH : I 4 1 = (H : Int)) (hW10 : W ≤ 10) (hH10 : H ≤ 10) (ha : a < 100) (hd : dir < 4) (hk : ∀ r, (r = -1 ∨ cBes W H a dir r) → K (some (yi r)) (N, T, R, I)) : yW l zSS D cy zFk z (d + 1) 25 bc bs K 0 0 0 [(0, yr (some 4)), (1, yr (some 17)), (2, yi (a : Int)), (3, yi (dir : Int))] [] (N, T, R, I) := by
  have hp := a_Land4 hT hR
  refine B_25_0 hT hR hp (hT 17 rfl) (w_10 hT hR hp (fun r2 _ => ⟨_, _, rfl, rfl, fun _ => hk _ (.inl rfl), fun _ => ⟨fun _ => ⟨by omega, by omega, fun _ => ?_, fun _ => ⟨by omega, by omega, fun _ => ?_, fun _ => hk _ (.inl rfl)⟩⟩, fun _ => hk _ (.inl rfl)⟩⟩))
  · exact w_5x hT hR hW hH hW10 hH10 ha hd (fun r hr => ⟨_, _, rfl, rfl, w_12 hT hR hp (fun r2 _ => ⟨_, _, rfl, rfl, fun _ => hk _ hr, fun _ => hk _ (.inl rfl)⟩)⟩)
  · exact w_5x hT hR hW hH hW10 hH10 ha hd (fun r hr => ⟨_, _, rfl, rfl, w_12 hT hR hp (fun r2 _ => ⟨_, _, rfl, rfl, fun _ => hk _ hr, fun _ => hk _ (.inl rfl)⟩)⟩)
/-- what readLand leaves of the spot p -/
def cGd (X : Nat → Nat → Int) (W A p : Nat) : Prop := (X 97 p = 1 ∨ X 97 p = 2) ∧ ∀ dir, dir < 4 → X 96 (4 * p + dir) = -1 ∨ ∃ q, q < A ∧ X 96 (4 * p + dir) = (q : Int) ∧ cGeo W p dir q
theorem c_spot {W H a : Nat} (h1 : a % 10 < W) (h2 : a / 10 < H) : a / 10 * W + a % 10 < W * H ∧ (a / 10 * W + a % 10) / W = a / 10 ∧ (a / 10 * W + a % 10) % W = a % 10 := by
  refine ⟨?_, ?_, ?_⟩
  · have : (a / 10 + 1) * W ≤ H * W := Nat.mul_le_mul_right W h2
    rw [Nat.succ_mul] at this
    rw [Nat.mul_comm W H]; omega
  · rw [Nat.mul_comm, Nat.mul_add_div (by omega), Nat.div_eq_of_lt h1]; rfl
  · rw [Nat.mul_comm, Nat.mul_add_mod, Nat.mod_eq_of_lt h1]
theorem c_unspot {W H p : Nat} (hW : W ≤ 10) (hp : p < W * H) : (p / W * 10 + p % W) % 10 = p % W ∧ (p / W * 10 + p % W) / 10 = p / W ∧ p % W < W ∧ p / W < H ∧ p / W * W + p % W = p := by
  have h0 : 0 < W := by
    rcases Nat.eq_zero_or_pos W with e | e
    · rw [e, Nat.zero_mul] at hp; omega
    · exact e
  have h1 := Nat.mod_lt p h0
  have h2 : p / W < H := Nat.div_lt_of_lt_mul hp
  have h3 := Nat.div_add_mod p W
  rw [Nat.mul_comm] at h3
  omega
theorem w_75 (hT : yLT T) (hR : yLR R) (hU : cU T R vs ns vq nq vt nt) {W H : Nat} (hW : I 4 0 = (W : Int)) (hH : I 4 1 = (H : Int)) (hW10 : W ≤ 10) (hH10 : H ≤ 10) (h36 : W * H ≤ 36) (h0 : I 91 0 = (W : Int))
    (hk : ∀ X : Nat → Nat → Int, (∀ k j, ¬ (k = 96 ∨ k = 97) → X k j = I k j) → (∀ p, p < W * H → cGd X W (W * H) p) → K none (N, T, R, X)) :
    yW l zSS D cy zFk z (d + 2) 75 bc bs K 0 0 0 [(0, yr (some 91)), (1, yr (some 4)), (2, yr (some 16))] [] (N, T, R, I) := by
  have hU0 := hU
  obtain ⟨u1, u2, u3, u4, u5, u6, u7, u8, u9⟩ := hU
  have hp := a_Land4 hT hR
  have outer : ∀ (n a : Nat) (X : Nat → Nat → Int), n + a = 100 → (∀ k j, ¬ (k = 96 ∨ k = 97) → X k j = I k j) → (∀ p, p < W * H → p / W * 10 + p % W < a → cGd X W (W * H) p) → yW l zSS D cy zFk z (d + 2) 75 bc bs K 0 0 2 [(0, yr (some 91)), (1, yr (some 4)), (2, yr (some 16)), (3, yi (a : Int))] [] (N, T, R, X) := by
    intro n
    induction n with
    | zero =>
      intro a X ha fX hX
      refine B_75_2 hT hR u1 u2 u3 u4 u5 u6 u7 u8 u9 ⟨fun _ => hk X fX (fun p hp => hX p hp ?_), fun c => by omega⟩
      obtain ⟨g1, g2, g3, g4, g5⟩ := c_unspot hW10 hp
      omega
    | succ n ih =>
      intro a X ha fX hX
      have eW : X 4 0 = (W : Int) := by rw [fX _ _ (by omega)]; exact hW
      have eH : X 4 1 = (H : Int) := by rw [fX _ _ (by omega)]; exact hH
      have e0 : X 91 0 = (W : Int) := by rw [fX _ _ (by omega)]; exact h0
      have next : ∀ Y : Nat → Nat → Int, (∀ k j, ¬ (k = 96 ∨ k = 97) → Y k j = I k j) → (∀ p, p < W * H → p / W * 10 + p % W < a + 1 → cGd Y W (W * H) p) → yW l zSS D cy zFk z (d + 2) 75 bc bs K 0 0 2 [(0, yr (some 91)), (1, yr (some 4)), (2, yr (some 16)), (3, yi (yadd (a : Int) 1))] [] (N, T, R, Y) := by
        intro Y fY hY
        rw [yadd_eq (by omega) (by omega), show (a : Int) + 1 = ((a + 1 : Nat) : Int) by omega]
        exact ih (a + 1) Y (by omega) fY hY
      refine B_75_2 hT hR u1 u2 u3 u4 u5 u6 u7 u8 u9 ⟨fun c => by omega, fun _ => w_80 hT hR hU0 e0 hW10 (fun r3 h3 => ⟨_, _, rfl, rfl, w_10 hT hR hp (fun r5 h5 => ⟨_, _, rfl, rfl, fun c => next X fX (fun p hp2 hlt => ?_), fun c => ?_⟩)⟩)⟩
      · refine hX p hp2 ?_
        obtain ⟨g1, g2, g3, g4, g5⟩ := c_unspot hW10 hp2
        rw [eW, eH] at h5
        apply Classical.byContradiction
        intro hn
        have : p / W * 10 + p % W = a := by omega
        omega
      · rw [eW, eH] at h5
        have h3 := h3 a (by omega) rfl
        have aw : a % 10 < W := by omega
        have ah : a / 10 < H := by omega
        obtain ⟨s1, s2, s3⟩ := c_spot aw ah
        generalize hi : a / 10 * W + a % 10 = i at *
        have tr : r3.toNat = i := by omega
        have inner : ∀ (n dir : Nat) (Y : Nat → Nat → Int), n + dir = 4 → (∀ k j, ¬ (k = 96 ∨ k = 97) → Y k j = I k j) → (∀ p, p < W * H → p / W * 10 + p % W < a → cGd Y W (W * H) p) → (Y 97 i = 1 ∨ Y 97 i = 2) → (∀ e, e < dir → Y 96 (4 * i + e) = -1 ∨ ∃ q, q < W * H ∧ Y 96 (4 * i + e) = (q : Int) ∧ cGeo W i e q) → yW l zSS D cy zFk z (d + 2) 75 bc bs K 0 0 57 [(0, yr (some 91)), (1, yr (some 4)), (2, yr (some 16)), (3, yi (a : Int)), (4, yi r3), (5, yi (dir : Int))] [] (N, T, R, Y) := by
          intro n
          induction n with
          | zero =>
            intro dir Y hd fY hY h97 h96
            have : dir = 4 := by omega
            subst this
            refine B_75_57 hT hR u1 u2 u3 u4 u5 u6 u7 u8 u9 ⟨fun _ => next Y fY (fun p hp2 hlt => ?_), fun c => by omega⟩
            by_cases e : p / W * 10 + p % W < a
            · exact hY p hp2 e
            · obtain ⟨g1, g2, g3, g4, g5⟩ := c_unspot hW10 hp2
              have ea : p / W * 10 + p % W = a := by omega
              have ep : p = i := by
                rw [← hi, ← ea, g1, g2]; exact g5.symm
              subst ep
              exact ⟨h97, h96⟩
          | succ n ih2 =>
            intro dir Y hd fY hY h97 h96
            have fW : Y 4 0 = (W : Int) := by rw [fY _ _ (by omega)]; exact hW
            have fH : Y 4 1 = (H : Int) := by rw [fY _ _ (by omega)]; exact hH
            have f0 : Y 91 0 = (W : Int) := by rw [fY _ _ (by omega)]; exact h0
            have ev : yadd (ymul r3 4) (dir : Int) = ((4 * i + dir : Nat) : Int) := by
              rw [h3, ymul_eq (by omega) (by omega), yadd_eq (by omega) (by omega)]; omega
            have tv : (((4 * i + dir : Nat) : Int)).toNat = 4 * i + dir := by omega
            have nx2 : ∀ (Z : Nat → Nat → Int) (v : Int), Z = yU Y 96 (4 * i + dir) v → (v = -1 ∨ ∃ q, q < W * H ∧ v = (q : Int) ∧ cGeo W i dir q) → yW l zSS D cy zFk z (d + 2) 75 bc bs K 0 0 57 [(0, yr (some 91)), (1, yr (some 4)), (2, yr (some 16)), (3, yi (a : Int)), (4, yi r3), (5, yi (yadd (dir : Int) 1))] [] (N, T, R, Z) := by
              intro Z v hZ hv
              rw [yadd_eq (by omega) (by omega), show (dir : Int) + 1 = ((dir + 1 : Nat) : Int) by omega]
              have fZ : ∀ k j, ¬ (k = 96 ∧ j = 4 * i + dir) → Z k j = Y k j := fun k j g => by rw [hZ, yU_ne _ _ g]
              have eZ : Z 96 (4 * i + dir) = v := by rw [hZ, yU_eq]
              refine ih2 (dir + 1) Z (by omega) (fun k j g => by rw [fZ k j (by omega)]; exact fY k j g) (fun p hp2 hlt => ?_) (by rw [fZ 97 i (by omega)]; exact h97) (fun e he => ?_)
              · obtain ⟨g1, g2⟩ := hY p hp2 hlt
                have np : p ≠ i := fun e => by
                  subst e
                  rw [s2, s3] at hlt
                  omega
                refine ⟨by rw [fZ 97 p (by omega)]; exact g1, fun e he => ?_⟩
                rw [fZ 96 _ (by omega)]; exact g2 e he
              · by_cases e2 : e = dir
                · subst e2; rw [eZ]; exact hv
                · rw [fZ 96 _ (by omega)]; exact h96 e (by omega)
            refine B_75_57 hT hR u1 u2 u3 u4 u5 u6 u7 u8 u9 ⟨fun c => by omega, fun _ => w_25x hT hR fW fH hW10 hH10 (by omega) (by omega) (fun t ht => ⟨_, _, rfl, rfl, fun c => ?_, fun c => ?_⟩)⟩
            · rcases ht with e | ⟨t1, t2, t3, t4, t5⟩
              · exact absurd e c
              · obtain ⟨q, rfl⟩ : ∃ q : Nat, t = (q : Int) := ⟨t.toNat, by omega⟩
                refine w_80 hT hR hU0 f0 hW10 (fun r6 h6 => ⟨_, _, rfl, rfl, ?_⟩)
                rw [ev, tv]
                refine ⟨by omega, by omega, fun Z hZ => nx2 Z _ hZ (.inr ⟨q / 10 * W + q % 10, (c_spot (W := W) (H := H) (by omega) (by omega)).1, ?_, ?_⟩)⟩
                · have lt := (c_spot (W := W) (H := H) (a := q) (by omega) (by omega)).1
                  rw [h6 q (by omega) rfl, ynar1_eq (by omega) (by omega)]
                · rw [← hi]
                  unfold cGeo
                  rcases t5 with ⟨e, t5, t6⟩ | ⟨e, t5, t6⟩ | ⟨e, t5, t6⟩ | ⟨e, t5, t6⟩
                  · left
                    refine ⟨e, ?_⟩
                    have x1 : a / 10 = q / 10 + 1 := by omega
                    rw [x1, Nat.succ_mul]; omega
                  · right; left
                    refine ⟨e, ?_⟩
                    have x1 : a / 10 = q / 10 := by omega
                    rw [x1]; omega
                  · right; right; left
                    refine ⟨e, ?_⟩
                    have x1 : q / 10 = a / 10 + 1 := by omega
                    rw [x1, Nat.succ_mul]; omega
                  · right; right; right
                    refine ⟨e, ?_⟩
                    have x1 : a / 10 = q / 10 := by omega
                    rw [x1]; omega
            · rw [ev, tv]
              exact ⟨by omega, by omega, fun Z hZ => nx2 Z _ hZ (.inl (by decide +kernel))⟩
        refine ⟨fun _ => w_12 hT hR hp (fun r9 _ => ⟨_, _, rfl, rfl, fun _ => ⟨by omega, by omega, fun Y hY => ?_⟩, fun _ => ⟨by omega, by omega, fun Y hY => ?_⟩⟩), fun c => by omega⟩
        · rw [tr, ynar1_eq (by omega) (by omega)] at hY
          have fY : ∀ k j, ¬ (k = 97 ∧ j = i) → Y k j = X k j := fun k j g => by rw [hY, yU_ne _ _ g]
          refine inner 4 0 Y (by omega) (fun k j g => by rw [fY k j (by omega)]; exact fX k j g) (fun p hp2 hlt => ?_) (.inl (by rw [hY, yU_eq])) (fun e he => by omega)
          obtain ⟨g1, g2⟩ := hX p hp2 hlt
          have np : p ≠ i := fun e => by
            subst e
            rw [s2, s3] at hlt
            omega
          exact ⟨by rw [fY 97 p (by omega)]; exact g1, fun e he => by rw [fY 96 _ (by omega)]; exact g2 e he⟩
        · rw [tr, ynar1_eq (by omega) (by omega)] at hY
          have fY : ∀ k j, ¬ (k = 97 ∧ j = i) → Y k j = X k j := fun k j g => by rw [hY, yU_ne _ _ g]
          refine inner 4 0 Y (by omega) (fun k j g => by rw [fY k j (by omega)]; exact fX k j g) (fun p hp2 hlt => ?_) (.inr (by rw [hY, yU_eq])) (fun e he => by omega)
          obtain ⟨g1, g2⟩ := hX p hp2 hlt
          have np : p ≠ i := fun e => by
            subst e
            rw [s2, s3] at hlt
            omega
          exact ⟨by rw [fY 97 p (by omega)]; exact g1, fun e he => by rw [fY 96 _ (by omega)]; exact g2 e he⟩
  refine B_75_0 hT hR u1 u2 u3 u4 u5 u6 u7 u8 u9 ?_
  exact outer 100 0 I (by omega) (fun _ _ _ => rfl) (fun p _ h => by omega)
/-- chairsOut of the world's state, exactly -/
theorem w_60x (hT : yLT T) (hR : yLR R) (hk : K (some (yi ((cOt I (cNc I) : Nat) : Int))) (N, T, R, I)) : yW l zSS D cy zFk z d 60 bc bs K 0 0 0 [(0, yr (some 16)), (1, yi (I 4 5))] [] (N, T, R, I) := by
  have hp := a_State16 hT hR
  have n8 := cNc_le I
  have nc : (8 ≤ I 4 5 ∧ cNc I = 8) ∨ (I 4 5 < 8 ∧ cNc I = (I 4 5).toNat) := by unfold cNc; split <;> omega
  have loop : ∀ (n c : Nat), n + c = cNc I → yW l zSS D cy zFk z d 60 bc bs K 0 0 4 [(0, yr (some 16)), (1, yi (I 4 5)), (2, yi ((cOt I c : Nat) : Int)), (3, yi (c : Int))] [] (N, T, R, I) := by
    intro n
    induction n with
    | zero =>
      intro c hc
      have e : c = cNc I := by omega
      rw [← e] at hk
      exact B_60_4 hT hR hp ⟨fun _ => hk, fun _ => ⟨fun _ => hk, fun _ => by omega⟩⟩
    | succ n ih =>
      intro c hc
      have nx := ih (c + 1) (by omega)
      have ct := cOt_le I c
      have ec : cOt I (c + 1) = cOt I c + if I 20 c = -1 then 0 else 1 := rfl
      have tc : ((c : Int)).toNat = c := by omega
      rw [show ((c + 1 : Nat) : Int) = (c : Int) + 1 by omega] at nx
      refine B_60_4 hT hR hp ⟨fun _ => by omega, fun _ => ⟨fun _ => by omega, fun _ => ⟨by omega, by omega, fun g => ?_, fun g => ?_⟩⟩⟩
      · rw [tc] at g
        have g : I 20 c = -1 := g
        rw [if_pos g] at ec
        rw [ec] at nx
        rw [yadd_eq (by omega) (by omega), yadd_eq (by omega) (by omega)]
        exact nx
      · rw [tc] at g
        have g : ¬ I 20 c = -1 := g
        rw [if_neg g] at ec
        rw [ec] at nx
        rw [yadd_eq (by omega) (by omega), yadd_eq (by omega) (by omega)]
        exact nx
  refine B_60_0 hT hR hp ?_
  exact loop (cNc I) 0 (by omega)
/-- listMovers -/
theorem w_73 (hT : yLT T) (hR : yLR R) (hU : cU T R vs ns vq nq vt nt) {W A : Nat} (h0 : I 91 0 = (W : Int)) (hW10 : W ≤ 10) (h1 : I 91 1 = (A : Int)) (hA : A ≤ 36) (h3 : cOt I (cNc I) ≤ 3)
    (hk : ∀ X : Nat → Nat → Int, (∀ k j, ¬ (k = 92 ∨ k = 93 ∨ k = 94 ∨ (k = 91 ∧ j = 2)) → X k j = I k j) → X 91 2 = ((cOt I (cNc I) : Nat) : Int) → (∀ t, t < cOt I (cNc I) → X 94 t = ((cUn (A + 1) t : Nat) : Int)) → K (some (yi ((cM (A + 1) (cOt I (cNc I)) : Nat) : Int))) (N, T, R, X)) :
    yW l zSS D cy zFk z (d + 1) 73 bc bs K 0 0 0 [(0, yr (some 91)), (1, yr (some 4)), (2, yr (some 16))] [] (N, T, R, I) := by
  have hU0 := hU
  obtain ⟨u1, u2, u3, u4, u5, u6, u7, u8, u9⟩ := hU
  have n8 := cNc_le I
  have nc : (8 ≤ I 4 5 ∧ cNc I = 8) ∨ (I 4 5 < 8 ∧ cNc I = (I 4 5).toNat) := by unfold cNc; split <;> omega
  have loop : ∀ (n c : Nat) (X : Nat → Nat → Int), n + c = cNc I → (∀ k j, ¬ (k = 92 ∨ k = 93 ∨ k = 94 ∨ (k = 91 ∧ j = 2)) → X k j = I k j) → X 91 2 = ((cOt I c : Nat) : Int) → (∀ t, t < cOt I c → X 94 t = ((cUn (A + 1) t : Nat) : Int)) →
      yW l zSS D cy zFk z (d + 1) 73 bc bs K 0 0 10 [(0, yr (some 91)), (1, yr (some 4)), (2, yr (some 16)), (3, yi ((cM (A + 1) (cOt I c) : Nat) : Int)), (4, yi (c : Int))] [] (N, T, R, X) := by
    intro n
    induction n with
    | zero =>
      intro c X hc fX e2 eu
      have e : c = cNc I := by omega
      have e45 : X 4 5 = I 4 5 := fX _ _ (by omega)
      rw [← e] at hk
      exact B_73_10 hT hR u1 u2 u3 u4 u5 u6 u7 u8 u9 ⟨fun _ => hk X fX e2 eu, fun _ => ⟨fun _ => hk X fX e2 eu, fun _ => by omega⟩⟩
    | succ n ih =>
      intro c X hc fX e2 eu
      have e45 : X 4 5 = I 4 5 := fX _ _ (by omega)
      have e20 : X 20 c = I 20 c := fX _ _ (by omega)
      have tc : ((c : Int)).toNat = c := by omega
      have ec : cOt I (c + 1) = cOt I c + if I 20 c = -1 then 0 else 1 := rfl
      have mono := cOt_mono I (n + 1) c
      rw [show c + (n + 1) = cNc I by omega] at mono
      have mono2 := cOt_mono I n (c + 1)
      rw [show c + 1 + n = cNc I by omega] at mono2
      refine B_73_10 hT hR u1 u2 u3 u4 u5 u6 u7 u8 u9 ⟨fun g => by omega, fun _ => ⟨fun g => by omega, fun _ => ⟨fun g => ?_, fun g => ⟨by omega, by omega, fun g2 => ?_, fun g2 => ?_⟩⟩⟩⟩
      · have : cOt I c = cOt I (cNc I) := by omega
        rw [this] at e2 eu ⊢
        exact hk X fX e2 eu
      · rw [tc, e20] at g2
        rw [if_pos g2, Nat.add_zero] at ec
        rw [yadd_eq (by omega) (by omega), show (c : Int) + 1 = ((c + 1 : Nat) : Int) by omega]
        have := ih (c + 1) X (by omega) fX (by rw [ec]; exact e2) (by rw [ec]; exact eu)
        rw [ec] at this
        exact this
      · rw [tc, e20] at g2
        rw [if_neg g2] at ec
        have m3 : cOt I c < 3 := by omega
        obtain ⟨cs, cu⟩ := @cM_succ (A + 1) (cOt I c) m3
        refine ⟨by omega, by omega, fun Y1 hY1 => ⟨by omega, by omega, ?_⟩⟩
        have t2 : (X 91 2).toNat = cOt I c := by omega
        rw [t2] at hY1
        have f1 : ∀ k j, k ≠ 92 → Y1 k j = X k j := fun k j g => by rw [hY1, yU_ne _ _ (fun q => g q.1)]
        refine w_80 hT hR hU0 (show Y1 91 0 = (W : Int) by rw [f1 _ _ (by decide), fX _ _ (by omega)]; exact h0) hW10 (fun r13 _ => ⟨_, _, rfl, rfl, ?_⟩)
        have q1 : Y1 91 2 = ((cOt I c : Nat) : Int) := by rw [f1 _ _ (by decide)]; exact e2
        rw [q1, show (((cOt I c : Nat) : Int)).toNat = cOt I c by omega]
        refine ⟨by omega, by omega, fun Y2 hY2 => ?_⟩
        have f2 : ∀ k j, k ≠ 93 → Y2 k j = Y1 k j := fun k j g => by rw [hY2, yU_ne _ _ (fun q => g q.1)]
        have q2 : Y2 91 2 = ((cOt I c : Nat) : Int) := by rw [f2 _ _ (by decide)]; exact q1
        rw [q2, show (((cOt I c : Nat) : Int)).toNat = cOt I c by omega]
        refine ⟨by omega, by omega, fun Y3 hY3 => fun Y4 hY4 => ?_⟩
        have ml := @cM_le (A + 1) (cOt I c) (by omega)
        have ml2 := @cM_le (A + 1) (cOt I c + 1) (by omega)
        rw [ynar1_eq (by omega) (by omega)] at hY3
        have f3 : ∀ k j, ¬ (k = 94 ∧ j = cOt I c) → Y3 k j = Y2 k j := fun k j g => by rw [hY3, yU_ne _ _ g]
        have q3 : Y3 91 2 = ((cOt I c : Nat) : Int) := by rw [f3 _ _ (by omega)]; exact q2
        have q31 : Y3 91 1 = (A : Int) := by rw [f3 _ _ (by omega), f2 _ _ (by decide), f1 _ _ (by decide), fX _ _ (by omega)]; exact h1
        rw [q3, yadd_eq (by omega) (by omega)] at hY4
        have f4 : ∀ k j, ¬ (k = 91 ∧ j = 2) → Y4 k j = Y3 k j := fun k j g => by rw [hY4, yU_ne _ _ g]
        rw [q31, yadd_eq (by omega) (by omega), yadd_eq (by omega) (by omega), show (A : Int) + 1 = ((A + 1 : Nat) : Int) by omega, ymul_eq (by rw [← c_mulc, cs]; omega) (by rw [← c_mulc, cs]; omega), ← c_mulc, cs, show (c : Int) + 1 = ((c + 1 : Nat) : Int) by omega]
        have := ih (c + 1) Y4 (by omega) (fun k j g => by rw [f4 k j (by omega), f3 k j (by omega), f2 k j (by omega), f1 k j (by omega)]; exact fX k j g) (by rw [hY4, yU_eq, ec]; omega) (fun t ht => by
          rw [f4 _ _ (by omega)]
          by_cases e : t = cOt I c
          · subst e; rw [hY3, yU_eq, cu]
          · rw [f3 _ _ (by omega), f2 _ _ (by decide), f1 _ _ (by decide)]; exact eu t (by omega))
        rw [ec] at this
        exact this
  refine B_73_0 hT hR u1 u2 u3 u4 u5 u6 u7 u8 u9 (fun X hX => ?_)
  refine loop (cNc I) 0 X (by omega) (fun k j g => by rw [hX, yU_ne _ _ (by omega)]) (by rw [hX, yU_eq]; rfl) (fun t ht => by have : t < 0 := ht; omega)
/-- knotNow -/
theorem w_72 (hT : yLT T) (hR : yLR R) (hU : cU T R vs ns vq nq vt nt) {W m : Nat} (h0 : I 91 0 = (W : Int)) (hW10 : W ≤ 10) (h2 : I 91 2 = (m : Int)) (hm : m ≤ 3) (hk : ∀ r, K (some (yi r)) (N, T, R, I)) :
    yW l zSS D cy zFk z (d + 1) 72 bc bs K 0 0 0 [(0, yr (some 91)), (1, yr (some 4)), (2, yr (some 16))] [] (N, T, R, I) := by
  have hU0 := hU
  obtain ⟨u1, u2, u3, u4, u5, u6, u7, u8, u9⟩ := hU
  have loop : ∀ (n c : Nat) (x : Int), n + c = m → yW l zSS D cy zFk z (d + 1) 72 bc bs K 0 0 5 [(0, yr (some 91)), (1, yr (some 4)), (2, yr (some 16)), (3, yi x), (4, yi (c : Int))] [] (N, T, R, I) := by
    intro n
    induction n with
    | zero =>
      intro c x hc
      exact B_72_5 hT hR u1 u2 u3 u4 u5 u6 u7 u8 u9 ⟨fun _ => hk _, fun g => by omega⟩
    | succ n ih =>
      intro c x hc
      have nx : ∀ x, yW l zSS D cy zFk z (d + 1) 72 bc bs K 0 0 5 [(0, yr (some 91)), (1, yr (some 4)), (2, yr (some 16)), (3, yi x), (4, yi (yadd (c : Int) 1))] [] (N, T, R, I) := fun x => by
        rw [yadd_eq (by omega) (by omega), show (c : Int) + 1 = ((c + 1 : Nat) : Int) by omega]
        exact ih (c + 1) x (by omega)
      refine B_72_5 hT hR u1 u2 u3 u4 u5 u6 u7 u8 u9 ⟨fun g => by omega, fun _ => ⟨fun g => by omega, fun _ => ⟨by omega, by omega, w_11 hT hR (a_Land4 hT hR) (fun r6 h6 => ⟨_, _, rfl, rfl, fun _ => nx _, fun g => ⟨by omega, by omega, by omega, by omega, ?_⟩⟩)⟩⟩⟩
      exact w_80 hT hR hU0 h0 hW10 (fun r13 _ => ⟨_, _, rfl, rfl, by omega, by omega, nx _⟩)
  refine B_72_0 hT hR u1 u2 u3 u4 u5 u6 u7 u8 u9 ?_
  exact loop m 0 0 (by omega)
end Cu
