/-! SENTENCE of the reference, to the letter: the parts, the stack -/
/-- the reference's code of a word, or of what stands on the stack -/
def wM (w : Int) : Int := if w = 19 then 0 else if w = 7 then 1 else if w = 20 then 2 else if w = 9 then 3 else if w = 10 then 4 else if w = 11 then 5 else if w = 21 then 6 else if w = 22 then 7 else if w = 23 then 8 else if w = 18 then 20 else if w = 17 then 21 else if w = 16 then 22 else 23
theorem wM_rng (w : Int) : 0 ≤ wM w ∧ wM w ≤ 23 := by
  unfold wM
  repeat' split
  all_goals omega
theorem wM18 : wM 18 = 20 := by decide
theorem wM17 : wM 17 = 21 := by decide
theorem wM16 : wM 16 = 22 := by decide
theorem wM40 : wM 40 = 23 := by decide
/-- the parts that were read -/
def mSn (X : Nat → Nat → Int) (s : Sn) : Prop := X 102 48 = (s.2.1 : Int) ∧ ∀ i, i < s.2.1 → X 106 (3 * i) = wM (s.2.2 i).1 ∧ X 106 (3 * i + 1) = (s.2.2 i).2.1 ∧ X 106 (3 * i + 2) = (s.2.2 i).2.2
def mSt (X : Nat → Nat → Int) : List Int → Prop
  | [] => True
  | w :: k => (X 121 k.length = wM w ∧ (w = 16 ∨ w = 17 ∨ w = 18 ∨ w = 40)) ∧ mSt X k
def mSk (X : Nat → Nat → Int) (k : List Int) : Prop := X 102 50 = (k.length : Int) ∧ X 102 51 = (jDeep k : Int) ∧ mSt X k
theorem mSn_cg {X Y : Nat → Nat → Int} {s : Sn} (h : Y 102 48 = X 102 48) (g : ∀ j, Y 106 j = X 106 j) (L : mSn X s) : mSn Y s :=
  ⟨by rw [h]; exact L.1, fun i hi => by rw [g, g, g]; exact L.2 i hi⟩
theorem mSt_cg {X Y : Nat → Nat → Int} : ∀ {k : List Int}, (∀ j, j < k.length → Y 121 j = X 121 j) → mSt X k → mSt Y k := by
  intro k
  induction k with
  | nil => intro _ _; trivial
  | cons w k ih =>
    intro h q
    have q : (X 121 k.length = wM w ∧ (w = 16 ∨ w = 17 ∨ w = 18 ∨ w = 40)) ∧ mSt X k := q
    exact ⟨⟨by rw [h k.length (Nat.lt_succ_self _)]; exact q.1.1, q.1.2⟩, ih (fun j hj => h j (Nat.lt_succ_of_lt hj)) q.2⟩
theorem mSk_cg {X Y : Nat → Nat → Int} {k : List Int} (h : Y 102 50 = X 102 50) (h1 : Y 102 51 = X 102 51) (g : ∀ j, Y 121 j = X 121 j) (L : mSk X k) : mSk Y k :=
  ⟨by rw [h]; exact L.1, by rw [h1]; exact L.2.1, mSt_cg (fun j _ => g j) L.2.2⟩
theorem jDeep_le : ∀ k : List Int, jDeep k ≤ k.length + 1 := by
  intro k
  induction k with
  | nil => exact Nat.le_refl _
  | cons w k ih =>
    rw [jDeep, List.length_cons]
    split <;> omega
theorem jNots_len : ∀ (k : List Int) (s : Sn), (jNots k s).1.length + (jNots k s).2.2.1 = k.length + s.2.1 ∧ (jNots k s).2.1 = s.1 := by
  intro k
  induction k with
  | nil => intro s; exact ⟨rfl, rfl⟩
  | cons w k ih =>
    intro s
    rw [jNots]
    split
    · obtain ⟨h1, h2⟩ := ih (sAdd s 18 0 0)
      have h1 : (jNots k (sAdd s 18 0 0)).1.length + (jNots k (sAdd s 18 0 0)).2.2.1 = k.length + (s.2.1 + 1) := h1
      refine ⟨?_, h2⟩
      rw [List.length_cons]
      omega
    · exact ⟨rfl, rfl⟩
theorem jJoins_len (t : Int) : ∀ (k : List Int) (s : Sn), (jJoins t k s).1.length + (jJoins t k s).2.2.1 = k.length + s.2.1 ∧ (jJoins t k s).2.1 = s.1 := by
  intro k
  induction k with
  | nil => intro s; exact ⟨rfl, rfl⟩
  | cons w k ih =>
    intro s
    rw [jJoins]
    split
    · obtain ⟨h1, h2⟩ := ih (sAdd s w 0 0)
      have h1 : (jJoins t k (sAdd s w 0 0)).1.length + (jJoins t k (sAdd s w 0 0)).2.2.1 = k.length + (s.2.1 + 1) := h1
      refine ⟨?_, h2⟩
      rw [List.length_cons]
      omega
    · exact ⟨rfl, rfl⟩
theorem jJoins_hd : ∀ (k : List Int) (s : Sn), (jJoins 16 k s).1.head? ≠ some 17 ∧ (jJoins 16 k s).1.head? ≠ some 16 := by
  intro k
  induction k with
  | nil => intro s; exact ⟨(fun q => by cases q), (fun q => by cases q)⟩
  | cons w k ih =>
    intro s
    rw [jJoins]
    split
    · exact ih _
    · rename_i c
      exact ⟨fun q => c (.inl (Option.some.inj q)), fun q => c (.inr ⟨Option.some.inj q, rfl⟩)⟩
section Xt
variable {l : Launch} {D : va_G} {cy : Nat → ClassId} {z d bc bs N : Nat} {T : Nat → Nat × Nat} {R : Nat → Nat → Option Nat} {I : Nat → Nat → Int} {K : yKo} {t : Nat → Int} {n lim p ch : Nat} {nm : Nat → Int} {s : Sn}
/-- code -/
theorem x_169 (hT : yLT T) (hR : yLR R) (L : mSn I s) (h44 : s.2.1 < 45) {w x c v : Int} (hx : x = wM w) (hc : -1 ≤ c ∧ c < 1000) (hv : -1 ≤ v ∧ v < 1000)
    (hk : ∀ I', (∀ a b, ¬ (a = 102 ∧ b = 48) → a ≠ 106 → I' a b = I a b) → mSn I' (sAdd s w c v) → K none (N, T, R, I')) :
    yW l zSS D cy zFk z d 169 bc bs K 0 0 0 [(0, yr (some 102)), (1, yi x), (2, yi c), (3, yi v)] [] (N, T, R, I) := by
  have s0 : I 102 48 = (s.2.1 : Int) := L.1
  have xr := wM_rng w
  refine B_169_0 hT hR ?_
  rw [s0, ymul_eq (by omega) (by omega), show ((3 : Int) * (s.2.1 : Int)).toNat = 3 * s.2.1 by omega]
  refine ⟨by omega, by omega, fun I3 e3 => ?_⟩
  have s3 : I3 102 48 = (s.2.1 : Int) := by rw [e3, yU_ne _ _ (by omega)]; exact s0
  rw [s3, ymul_eq (by omega) (by omega), yadd_eq (by omega) (by omega), show ((3 : Int) * (s.2.1 : Int) + 1).toNat = 3 * s.2.1 + 1 by omega]
  refine ⟨by omega, by omega, fun I6 e6 => ?_⟩
  have s6 : I6 102 48 = (s.2.1 : Int) := by rw [e6, yU_ne _ _ (by omega)]; exact s3
  rw [s6, ymul_eq (by omega) (by omega), yadd_eq (by omega) (by omega), show ((3 : Int) * (s.2.1 : Int) + 2).toNat = 3 * s.2.1 + 2 by omega]
  refine ⟨by omega, by omega, fun I9 e9 I10 e10 => ?_⟩
  have s9 : I9 102 48 = (s.2.1 : Int) := by rw [e9, yU_ne _ _ (by omega)]; exact s6
  have fr : ∀ a b, ¬ (a = 102 ∧ b = 48) → ¬ (a = 106 ∧ 3 * s.2.1 ≤ b ∧ b ≤ 3 * s.2.1 + 2) → I10 a b = I a b := fun a b g1 g2 => by
    rw [e10, yU_ne _ _ (by omega), e9, yU_ne _ _ (by omega), e6, yU_ne _ _ (by omega), e3, yU_ne _ _ (by omega)]
  have q0 : I10 102 48 = (s.2.1 : Int) + 1 := by rw [e10, yU_eq, s9, yadd_eq (by omega) (by omega)]
  have a1 : I10 106 (3 * s.2.1) = wM w := by rw [e10, yU_ne _ _ (by omega), e9, yU_ne _ _ (by omega), e6, yU_ne _ _ (by omega), e3, yU_eq, ynar1_eq (by omega) (by omega), hx]
  have a2 : I10 106 (3 * s.2.1 + 1) = c := by rw [e10, yU_ne _ _ (by omega), e9, yU_ne _ _ (by omega), e6, yU_eq, ynar1_eq (by omega) (by omega)]
  have a3 : I10 106 (3 * s.2.1 + 2) = v := by rw [e10, yU_ne _ _ (by omega), e9, yU_eq, ynar1_eq (by omega) (by omega)]
  refine hk I10 (fun a b g1 g2 => fr a b g1 (by omega)) ⟨?_, fun i hi => ?_⟩
  · show I10 102 48 = ((s.2.1 + 1 : Nat) : Int)
    omega
  · have hi : i < s.2.1 + 1 := hi
    show I10 106 (3 * i) = wM (if i = s.2.1 then (w, c, v) else s.2.2 i).1 ∧ I10 106 (3 * i + 1) = (if i = s.2.1 then (w, c, v) else s.2.2 i).2.1 ∧ I10 106 (3 * i + 2) = (if i = s.2.1 then (w, c, v) else s.2.2 i).2.2
    by_cases q : i = s.2.1
    · rw [if_pos q, q]; exact ⟨a1, a2, a3⟩
    · rw [if_neg q, fr _ (3 * i) (by omega) (by omega), fr _ (3 * i + 1) (by omega) (by omega), fr _ (3 * i + 2) (by omega) (by omega)]
      exact L.2 i (by omega)
/-- nots -/
theorem x_217 (hT : yLT T) (hR : yLR R) : ∀ (k : List Int) {s : Sn} {I : Nat → Nat → Int}, mSn I s → mSk I k → k.length + s.2.1 ≤ 44 → (∀ I', (∀ a b, ¬ (a = 102 ∧ (b = 48 ∨ b = 50 ∨ b = 51)) → a ≠ 106 → I' a b = I a b) → mSn I' (jNots k s).2 → mSk I' (jNots k s).1 → K none (N, T, R, I')) →
    yW l zSS D cy zFk z (d + 1) 217 bc bs K 0 0 0 [(0, yr (some 102))] [] (N, T, R, I) := by
  intro k
  induction k with
  | nil =>
    intro s I L M hb hk
    have k1 : I 102 50 = 0 := M.1
    exact B_217_0 hT hR ⟨fun _ => hk I (fun _ _ _ _ => rfl) L M, fun q => absurd (by omega) q⟩
  | cons w k ih =>
    intro s I L M hb hk
    rw [List.length_cons] at hb
    have k1 : I 102 50 = ((k.length + 1 : Nat) : Int) := M.1
    have k2 := M.2.1
    have k3 : (I 121 k.length = wM w ∧ (w = 16 ∨ w = 17 ∨ w = 18 ∨ w = 40)) ∧ mSt I k := M.2.2
    have sb : ysub (I 102 50) 1 = (k.length : Int) := by rw [k1, ysub_eq (by omega) (by omega)]; omega
    refine B_217_0 hT hR ⟨fun q => absurd q (by omega), fun _ => ?_⟩
    rw [sb, show ((k.length : Int)).toNat = k.length by omega, k3.1.1]
    refine ⟨by omega, by omega, fun n20 => ?_, fun y20 => ?_⟩
    · have n18 : w ≠ 18 := fun q => n20 (by rw [q, wM18])
      have ej : jNots (w :: k) s = (w :: k, s) := by
        rw [jNots]
        exact if_neg n18
      rw [ej] at hk
      exact hk I (fun _ _ _ _ => rfl) L M
    · have e18 : w = 18 := by
        rcases k3.1.2 with q | q | q | q
        · exact absurd (show wM w ≠ 20 by rw [q]; decide) y20
        · exact absurd (show wM w ≠ 20 by rw [q]; decide) y20
        · exact q
        · exact absurd (show wM w ≠ 20 by rw [q]; decide) y20
      subst e18
      rw [jNots_18] at hk
      intro I5 e5 I6 e6
      have d18 : jDeep (18 :: k) = jDeep k + 1 := by
        rw [jDeep]
        exact if_pos (.inl rfl)
      rw [d18] at k2
      have v5 : I5 102 51 = ((jDeep k + 1 : Nat) : Int) := by rw [e5, yU_ne _ _ (by omega)]; exact k2
      have jd : jDeep k ≤ k.length + 1 := jDeep_le k
      have v6 : I6 102 51 = (jDeep k : Int) := by rw [e6, yU_eq, v5, ysub_eq (by omega) (by omega)]; omega
      have w6 : I6 102 50 = (k.length : Int) := by rw [e6, yU_ne _ _ (by omega), e5, yU_eq]
      have fr : ∀ a b, ¬ (a = 102 ∧ (b = 50 ∨ b = 51)) → I6 a b = I a b := fun a b g => by rw [e6, yU_ne _ _ (by omega), e5, yU_ne _ _ (by omega)]
      refine x_169 hT hR (mSn_cg (fr 102 48 (by omega)) (fun j => fr 106 j (by omega)) L) (by omega) wM18.symm (by omega) (by omega) (fun I7 f7 s7 => ⟨_, rfl, rfl, ?_⟩)
      have hb2 : k.length + (sAdd s 18 0 0).2.1 ≤ 44 := by show k.length + (s.2.1 + 1) ≤ 44; omega
      refine ih s7 ⟨by rw [f7 102 50 (by omega) (by omega)]; exact w6, by rw [f7 102 51 (by omega) (by omega)]; exact v6, mSt_cg (fun j _ => by rw [f7 121 j (by omega) (by omega)]; exact fr 121 j (by omega)) k3.2⟩ hb2 (fun I' f sn sk => hk I' (fun a b g1 g2 => by rw [f a b g1 g2, f7 a b (by omega) g2]; exact fr a b (by omega)) sn sk)
/-- joins -/
theorem x_200 (hT : yLT T) (hR : yLR R) {t x1 : Int} (hx : (t = 16 ∧ x1 = 22) ∨ (t = 17 ∧ x1 = 21)) : ∀ (k : List Int) {s : Sn} {I : Nat → Nat → Int}, mSn I s → mSk I k → k.length + s.2.1 ≤ 44 → (∀ I', (∀ a b, ¬ (a = 102 ∧ (b = 48 ∨ b = 50)) → a ≠ 106 → I' a b = I a b) → mSn I' (jJoins t k s).2 → mSk I' (jJoins t k s).1 → K none (N, T, R, I')) →
    yW l zSS D cy zFk z (d + 1) 200 bc bs K 0 0 0 [(0, yr (some 102)), (1, yi x1)] [] (N, T, R, I) := by
  intro k
  induction k with
  | nil =>
    intro s I L M hb hk
    have k1 : I 102 50 = 0 := M.1
    exact B_200_0 hT hR ⟨fun _ => hk I (fun _ _ _ _ => rfl) L M, fun q => absurd (by omega) q⟩
  | cons w k ih =>
    intro s I L M hb hk
    rw [List.length_cons] at hb
    have k1 : I 102 50 = ((k.length + 1 : Nat) : Int) := M.1
    have k2 := M.2.1
    have k3 : (I 121 k.length = wM w ∧ (w = 16 ∨ w = 17 ∨ w = 18 ∨ w = 40)) ∧ mSt I k := M.2.2
    have sb : ysub (I 102 50) 1 = (k.length : Int) := by rw [k1, ysub_eq (by omega) (by omega)]; omega
    have stay : ¬ (w = 17 ∨ (w = 16 ∧ t = 16)) → K none (N, T, R, I) := fun c => by
      have ej : jJoins t (w :: k) s = (w :: k, s) := by
        rw [jJoins]
        exact if_neg c
      rw [ej] at hk
      exact hk I (fun _ _ _ _ => rfl) L M
    have pop : (w = 17 ∨ (w = 16 ∧ t = 16)) → ∀ J : Nat → Nat → Int, J = yU I 102 50 (k.length : Int) → 0 ≤ J 102 50 ∧ J 102 50 < 45 ∧ yW l zSS D cy zFk z d 169 0 0 (fun r h' => ∃ I8, r = none ∧ h' = (N, T, R, I8) ∧ (yW l zSS D cy zFk z (d + 1) 200 bc bs K 0 0 0 [(0, yr (some 102)), (1, yi x1)] [] (N, T, R, I8))) 0 0 0 [(0, yr (some 102)), (1, yi (J 121 (J 102 50).toNat)), (2, yi 0), (3, yi 0)] [] (N, T, R, J) := by
      intro c J eJ
      have ej : jJoins t (w :: k) s = jJoins t k (sAdd s w 0 0) := by
        rw [jJoins]
        exact if_pos c
      rw [ej] at hk
      have v50 : J 102 50 = (k.length : Int) := by rw [eJ, yU_eq]
      have fr : ∀ a b, ¬ (a = 102 ∧ b = 50) → J a b = I a b := fun a b g => by rw [eJ, yU_ne _ _ g]
      have v121 : J 121 k.length = wM w := by rw [fr _ _ (by omega)]; exact k3.1.1
      have dk : jDeep (w :: k) = jDeep k := by
        rw [jDeep]
        exact if_neg (by omega)
      rw [v50, show ((k.length : Int)).toNat = k.length by omega, v121]
      refine ⟨by omega, by omega, x_169 hT hR (mSn_cg (fr 102 48 (by omega)) (fun j => fr 106 j (by omega)) L) (by omega) rfl (by omega) (by omega) (fun I8 f8 s8 => ⟨_, rfl, rfl, ?_⟩)⟩
      have hb2 : k.length + (sAdd s w 0 0).2.1 ≤ 44 := by show k.length + (s.2.1 + 1) ≤ 44; omega
      refine ih s8 ⟨by rw [f8 102 50 (by omega) (by omega)]; exact v50, by rw [f8 102 51 (by omega) (by omega), fr 102 51 (by omega), k2, dk], mSt_cg (fun j _ => by rw [f8 121 j (by omega) (by omega)]; exact fr 121 j (by omega)) k3.2⟩ hb2 (fun I' f sn sk => hk I' (fun a b g1 g2 => by rw [f a b g1 g2, f8 a b (by omega) g2]; exact fr a b (by omega)) sn sk)
    refine B_200_0 hT hR ⟨fun q => absurd q (by omega), fun _ => ?_⟩
    rw [sb, show ((k.length : Int)).toNat = k.length by omega, k3.1.1]
    have w16 : wM w = 21 ↔ w = 17 := by
      rcases k3.1.2 with q | q | q | q <;> (rw [q]; decide)
    have w17 : wM w = 22 ↔ w = 16 := by
      rcases k3.1.2 with q | q | q | q <;> (rw [q]; decide)
    refine ⟨by omega, by omega, fun y21 I5 e5 => pop (.inl (w16.mp y21)) I5 e5, fun n21 => ⟨by omega, by omega, fun n22 => stay (fun c => ?_), fun y22 => ⟨fun nx => stay (fun c => ?_), fun yx I13 e13 => pop (.inr ⟨?_, ?_⟩) I13 e13⟩⟩⟩
    · rcases c with c | c
      · exact n21 (w16.mpr c)
      · exact n22 (w17.mpr c.1)
    · rcases c with c | c
      · exact n21 (w16.mpr c)
      · omega
    · exact w17.mp (by omega)
    · omega
/-- leafOf -/
abbrev kIsL (tk : Nat → Tk) (p : Nat) : Prop := (tk p).1 = 1 ∧ (rIx (tk p).2.2.1 = 7 ∨ (9 ≤ rIx (tk p).2.2.1 ∧ rIx (tk p).2.2.1 ≤ 11) ∨ (19 ≤ rIx (tk p).2.2.1 ∧ rIx (tk p).2.2.1 ≤ 23))
theorem x_209 (hT : yLT T) (hR : yLR R) (h : mRd I t n lim p) (hk : ∀ r, ((kIsL (tk t n lim) p ∧ r = wM (rIx (tk t n lim p).2.2.1)) ∨ (¬ kIsL (tk t n lim) p ∧ r = -1)) → K (some (yi r)) (N, T, R, I)) :
    yW l zSS D cy zFk z (d + 1) 209 bc bs K 0 0 0 [(0, yr (some 102))] [] (N, T, R, I) := by
  have yes : ∀ (i : Int) (v : Int), wM i = v → (i = 7 ∨ (9 ≤ i ∧ i ≤ 11) ∨ (19 ≤ i ∧ i ≤ 23)) → (tk t n lim p).1 = 1 ∧ rIx (tk t n lim p).2.2.1 = i → K (some (yi v)) (N, T, R, I) := fun i v e c q =>
    hk v (.inl ⟨⟨q.1, by rw [q.2]; exact c⟩, by rw [q.2]; exact e.symm⟩)
  refine B_209_0 hT hR (x_199 hT hR h 19 (by omega) rfl (fun r0 h0 => ⟨_, _, rfl, rfl, fun c0 => x_199 hT hR h 7 (by omega) rfl (fun r1 h1 => ⟨_, _, rfl, rfl, fun c1 => x_199 hT hR h 20 (by omega) rfl (fun r2 h2 => ⟨_, _, rfl, rfl, fun c2 => x_199 hT hR h 9 (by omega) rfl (fun r3 h3 => ⟨_, _, rfl, rfl, fun c3 => x_199 hT hR h 10 (by omega) rfl (fun r4 h4 => ⟨_, _, rfl, rfl, fun c4 => x_199 hT hR h 11 (by omega) rfl (fun r5 h5 => ⟨_, _, rfl, rfl, fun c5 => x_199 hT hR h 21 (by omega) rfl (fun r6 h6 => ⟨_, _, rfl, rfl, fun c6 => x_199 hT hR h 22 (by omega) rfl (fun r7 h7 => ⟨_, _, rfl, rfl, fun c7 => x_199 hT hR h 23 (by omega) rfl (fun r8 h8 => ⟨_, _, rfl, rfl, fun c8 => hk (-1) (.inr ⟨?_, rfl⟩), fun c8 => yes 23 8 (by decide) (by decide) (by have q := (h8.resolve_right (fun g => c8 g.1)).2; exact ⟨q.1, by have := q.2; omega⟩)⟩), fun c7 => yes 22 7 (by decide) (by decide) (by have q := (h7.resolve_right (fun g => c7 g.1)).2; exact ⟨q.1, by have := q.2; omega⟩)⟩), fun c6 => yes 21 6 (by decide) (by decide) (by have q := (h6.resolve_right (fun g => c6 g.1)).2; exact ⟨q.1, by have := q.2; omega⟩)⟩), fun c5 => yes 11 5 (by decide) (by decide) (by have q := (h5.resolve_right (fun g => c5 g.1)).2; exact ⟨q.1, by have := q.2; omega⟩)⟩), fun c4 => yes 10 4 (by decide) (by decide) (by have q := (h4.resolve_right (fun g => c4 g.1)).2; exact ⟨q.1, by have := q.2; omega⟩)⟩), fun c3 => yes 9 3 (by decide) (by decide) (by have q := (h3.resolve_right (fun g => c3 g.1)).2; exact ⟨q.1, by have := q.2; omega⟩)⟩), fun c2 => yes 20 2 (by decide) (by decide) (by have q := (h2.resolve_right (fun g => c2 g.1)).2; exact ⟨q.1, by have := q.2; omega⟩)⟩), fun c1 => yes 7 1 (by decide) (by decide) (by have q := (h1.resolve_right (fun g => c1 g.1)).2; exact ⟨q.1, by have := q.2; omega⟩)⟩), fun c0 => yes 19 0 (by decide) (by decide) (by have q := (h0.resolve_right (fun g => c0 g.1)).2; exact ⟨q.1, by have := q.2; omega⟩)⟩))
  intro g
  have n0 := (h0.resolve_left (fun g => by omega)).2
  have n1 := (h1.resolve_left (fun g => by omega)).2
  have n2 := (h2.resolve_left (fun g => by omega)).2
  have n3 := (h3.resolve_left (fun g => by omega)).2
  have n4 := (h4.resolve_left (fun g => by omega)).2
  have n5 := (h5.resolve_left (fun g => by omega)).2
  have n6 := (h6.resolve_left (fun g => by omega)).2
  have n7 := (h7.resolve_left (fun g => by omega)).2
  have n8 := (h8.resolve_left (fun g => by omega)).2
  obtain ⟨g1, g2⟩ := g
  have m0 : rIx (tk t n lim p).2.2.1 ≠ 19 := fun q => n0 ⟨g1, by omega⟩
  have m1 : rIx (tk t n lim p).2.2.1 ≠ 7 := fun q => n1 ⟨g1, by omega⟩
  have m2 : rIx (tk t n lim p).2.2.1 ≠ 20 := fun q => n2 ⟨g1, by omega⟩
  have m3 : rIx (tk t n lim p).2.2.1 ≠ 9 := fun q => n3 ⟨g1, by omega⟩
  have m4 : rIx (tk t n lim p).2.2.1 ≠ 10 := fun q => n4 ⟨g1, by omega⟩
  have m5 : rIx (tk t n lim p).2.2.1 ≠ 11 := fun q => n5 ⟨g1, by omega⟩
  have m6 : rIx (tk t n lim p).2.2.1 ≠ 21 := fun q => n6 ⟨g1, by omega⟩
  have m7 : rIx (tk t n lim p).2.2.1 ≠ 22 := fun q => n7 ⟨g1, by omega⟩
  have m8 : rIx (tk t n lim p).2.2.1 ≠ 23 := fun q => n8 ⟨g1, by omega⟩
  omega
/-- what SENTENCES, being read, may change -/
def mSF (I I' : Nat → Nat → Int) : Prop := ∀ a b, ¬ (a = 102 ∧ (b = 4 ∨ (11 ≤ b ∧ b ≤ 18) ∨ (48 ≤ b ∧ b ≤ 52))) → a ≠ 106 → a ≠ 121 → I' a b = I a b
theorem mSF_tr {I J L : Nat → Nat → Int} (h : mSF I J) (g : mSF J L) : mSF I L := fun a b u v w => (g a b u v w).trans (h a b u v w)
theorem mSF_t {I I' : Nat → Nat → Int} (f : mSF I I') (ht : I 103 = t) : I' 103 = t := by
  rw [← ht]
  exact funext fun j => f 103 j (by omega) (by omega) (by omega)
theorem mSF_of {I I' : Nat → Nat → Int} (f : mFt I I') : mSF I I' := fun a b u _ _ => f a b (by omega)
/-- the state between two operands -/
def mJs (X : Nat → Nat → Int) (k : List Int) (s : Sn) (w : Bool) : Prop := mSn X s ∧ mSk X k ∧ X 102 49 = (s.1 : Int) ∧ X 102 52 = ((w.toNat : Nat) : Int) ∧ k.length + s.2.1 + w.toNat ≤ 2 * s.1 ∧ s.1 ≤ 20
theorem mJs_ft {I I' : Nat → Nat → Int} {k : List Int} {w : Bool} (f : mFt I I') (L : mJs I k s w) : mJs I' k s w :=
  ⟨mSn_cg (f 102 48 (by omega)) (fun j => f 106 j (by omega)) L.1, mSk_cg (f 102 50 (by omega)) (f 102 51 (by omega)) (fun j => f 121 j (by omega)) L.2.1, by rw [f 102 49 (by omega)]; exact L.2.2.1, by rw [f 102 52 (by omega)]; exact L.2.2.2.1, L.2.2.2.2⟩
/-- what comes behind an operand -/
theorem x_162 (hT : yLT T) (hR : yLR R) (S : Ld) {k : List Int} (h : mRd I t n lim p) (hn : n ≤ 940) (hb : ∀ j, j < n → -128 ≤ t j ∧ t j < 128) (ht : I 103 = t) (pn : p ≤ n) (L : mJs I k s true) (nz : ¬ (tk t n lim p).1 = 0)
    (hf : ∀ X, (∀ m, jRun (tk t n lim) S (m + 1) k s p true = some (.inl (1, (tk t n lim p).2.1))) → mSF I X → mFl X (1, (tk t n lim p).2.1) → K (some (yi 0)) (N, T, R, X))
    (ho : ∀ k' s' p' w' X, (∀ m, jRun (tk t n lim) S (m + 1) k s p true = jRun (tk t n lim) S m k' s' p' w') → mSF I X → mRd X t n lim p' → mJs X k' s' w' → p' ≤ n → K (some (yi 1)) (N, T, R, X)) :
    yW l zSS D cy zFk z (d + 2) 162 bc bs K 0 0 0 [(0, yr (some 102))] [] (N, T, R, I) := by
  obtain ⟨L1, L2, L3, L4, L5, L6⟩ := L
  have L5 : k.length + s.2.1 + 1 ≤ 2 * s.1 := L5
  have pn2 := (tk_go t n lim p pn).2
  obtain ⟨ln1, ln2⟩ := jNots_len k s
  refine B_162_0 hT hR (x_217 hT hR k L1 L2 (by omega) (fun I1 f1 s1 k1 => ⟨_, rfl, rfl, ?_⟩))
  have r1 : mRd I1 t n lim p := mRd_cg h (fun b hb => f1 102 b (by omega) (by omega))
  have F1 : mSF I I1 := fun a b g1 g2 g3 => f1 a b (by omega) g2
  have o1 : I1 102 49 = (s.1 : Int) := by rw [f1 102 49 (by omega) (by omega)]; exact L3
  have l70 : ∀ (X : Nat → Nat → Int) (x v : Int) (k' : List Int) (s' : Sn), kIsW (tk t n lim) 16 17 p → v = rIx (tk t n lim p).2.2.1 → x = wM v → mSF I X → mRd X t n lim p → mSn X s' → mSk X k' → X 102 49 = (s.1 : Int) → k'.length + s'.2.1 = k.length + s.2.1 → s'.1 = s.1 → jJoins (rIx (tk t n lim p).2.2.1) (jNots k s).1 (jNots k s).2 = (k', s') → yW l zSS D cy zFk z (d + 2) 162 bc bs K 0 0 70 [(0, yr (some 102))] [yi x, yi (X 102 50), yr (some 121)] (N, T, R, X) := by
    intro X x v k' s' hw hv hx fX rX sX kX oX len one hj
    have xr := wM_rng v
    refine B_162_70 hT hR ?_
    have v50 : X 102 50 = (k'.length : Int) := kX.1
    rw [v50, show ((k'.length : Int)).toNat = k'.length by omega]
    refine ⟨by omega, by omega, fun I3 e3 I4 e4 I5 e5 => ?_⟩
    have fr : ∀ a b, ¬ (a = 102 ∧ (b = 50 ∨ b = 52)) → ¬ (a = 121 ∧ b = k'.length) → I5 a b = X a b := fun a b g1 g2 => by rw [e5, yU_ne _ _ (by omega), e4, yU_ne _ _ (by omega), e3, yU_ne _ _ (by omega)]
    have w50 : I5 102 50 = (k'.length : Int) + 1 := by rw [e5, yU_ne _ _ (by omega), e4, yU_eq, e3, yU_ne _ _ (by omega), v50, yadd_eq (by omega) (by omega)]
    have w52 : I5 102 52 = 0 := by rw [e5, yU_eq]
    have w121 : I5 121 k'.length = wM v := by rw [e5, yU_ne _ _ (by omega), e4, yU_ne _ _ (by omega), e3, yU_eq, ynar1_eq (by omega) (by omega), hx]
    have F5 : mSF I I5 := fun a b g1 g2 g3 => by rw [fr a b (by omega) (by omega)]; exact fX a b g1 g2 g3
    have dk : jDeep (v :: k') = jDeep k' := by
      have := hw.2
      rw [jDeep]
      exact if_neg (by omega)
    have r5 : mRd I5 t n lim p := mRd_cg rX (fun b hb => fr 102 b (by omega) (by omega))
    have j5 : mJs I5 (v :: k') s' false := by
      have := hw.2
      refine ⟨mSn_cg (fr 102 48 (by omega) (by omega)) (fun j => fr 106 j (by omega) (by omega)) sX, ⟨?_, ?_, ⟨⟨w121, by omega⟩, mSt_cg (fun j hj => fr 121 j (by omega) (by omega)) kX.2.2⟩⟩, ?_, ?_, ?_, by omega⟩
      · rw [w50, List.length_cons]; omega
      · rw [dk, fr 102 51 (by omega) (by omega)]; exact kX.2.1
      · rw [fr 102 49 (by omega) (by omega), one]; exact oX
      · exact w52
      · show (v :: k').length + s'.2.1 + 0 ≤ 2 * s'.1
        rw [List.length_cons]; omega
    refine x_go hT hR r5 hn hb (mSF_t F5 ht) (fun I6 f6 _ r6 => ⟨_, rfl, rfl, ?_⟩)
    exact ho (v :: k') s' _ false I6 (fun m => by rw [jStep_join hw hj, hv]) (mSF_tr F5 (mSF_of f6)) r6 (mJs_ft f6 j5) pn2
  have l24 : kIsW (tk t n lim) 16 17 p → yW l zSS D cy zFk z (d + 2) 162 bc bs K 0 0 24 [(0, yr (some 102))] [] (N, T, R, I1) := by
    intro hw
    obtain ⟨k', s', hj⟩ : ∃ k' s', jJoins (rIx (tk t n lim p).2.2.1) (jNots k s).1 (jNots k s).2 = (k', s') := ⟨(jJoins (rIx (tk t n lim p).2.2.1) (jNots k s).1 (jNots k s).2).1, (jJoins (rIx (tk t n lim p).2.2.1) (jNots k s).1 (jNots k s).2).2, rfl⟩
    obtain ⟨jl1, jl2⟩ := jJoins_len (rIx (tk t n lim p).2.2.1) (jNots k s).1 (jNots k s).2
    rw [hj] at jl1 jl2
    have jl1 : k'.length + s'.2.1 = (jNots k s).1.length + (jNots k s).2.2.1 := jl1
    have jl2 : s'.1 = (jNots k s).2.1 := jl2
    have l42 : ∀ x v : Int, v = rIx (tk t n lim p).2.2.1 → x = wM v → ((v = 16 ∧ x = 22) ∨ (v = 17 ∧ x = 21)) → yW l zSS D cy zFk z (d + 2) 162 bc bs K 0 0 42 [(0, yr (some 102))] [yi x, yr (some 102)] (N, T, R, I1) := by
      intro x v hv hx hvx
      refine B_162_42 hT hR (x_200 (d := d) hT hR hvx (jNots k s).1 s1 k1 (by omega) (fun I2 f2 s2 k2 => ⟨_, rfl, rfl, ?_⟩))
      rw [hv, hj] at s2 k2
      have r2 : mRd I2 t n lim p := mRd_cg r1 (fun b hb => f2 102 b (by omega) (by omega))
      have F2 : mSF I I2 := mSF_tr F1 (fun a b g1 g2 g3 => f2 a b (by omega) g2)
      have o2 : I2 102 49 = (s.1 : Int) := by rw [f2 102 49 (by omega) (by omega)]; exact o1
      refine x_199 hT hR r2 17 (by omega) rfl (fun r3 h3 => ⟨_, _, rfl, rfl, fun q => ?_, fun q => ?_⟩)
      · have q17 := (h3.resolve_left (fun g => by omega)).2
        have e16 : v = 16 := by
          have := hw.2
          have n17 : rIx (tk t n lim p).2.2.1 ≠ 17 := fun g => q17 ⟨hw.1, g⟩
          omega
        have x22 : (22 : Int) = wM v := by rw [e16, wM16]
        exact l70 I2 22 v k' s' hw hv x22 F2 r2 s2 k2 o2 (by omega) (by omega) hj
      · have q17 := (h3.resolve_right (fun g => q g.1)).2.2
        have x21 : (21 : Int) = wM v := by rw [hv, q17]; exact wM17.symm
        exact l70 I2 21 v k' s' hw hv x21 F2 r2 s2 k2 o2 (by omega) (by omega) hj
    refine B_162_24 hT hR (x_199 hT hR r1 17 (by omega) rfl (fun r3 h3 => ⟨_, _, rfl, rfl, fun q => ?_, fun q => ?_⟩))
    · have q17 := (h3.resolve_left (fun g => by omega)).2
      have e16 : rIx (tk t n lim p).2.2.1 = 16 := by
        have := hw.2
        have n17 : rIx (tk t n lim p).2.2.1 ≠ 17 := fun g => q17 ⟨hw.1, g⟩
        omega
      exact l42 22 16 e16.symm wM16.symm (.inl ⟨rfl, rfl⟩)
    · have q17 := (h3.resolve_right (fun g => q g.1)).2.2
      exact l42 21 17 q17.symm wM17.symm (.inr ⟨rfl, rfl⟩)
  refine x_199 hT hR r1 17 (by omega) rfl (fun r3 h3 => ⟨_, _, rfl, rfl, fun q3 => ?_, fun q3 => ?_⟩)
  · have q17 := (h3.resolve_right (fun g => q3 g.1)).2
    exact l24 ⟨q17.1, by omega, by omega⟩
  · have n17 := (h3.resolve_left (fun g => q3 (by omega))).2
    refine x_199 hT hR r1 16 (by omega) rfl (fun r6 h6 => ⟨_, _, rfl, rfl, fun q6 => ?_, fun q6 => ?_⟩)
    · have n16 := (h6.resolve_left (fun g => by omega)).2
      have nw : ¬ kIsW (tk t n lim) 16 17 p := fun w => by
        by_cases q : rIx (tk t n lim p).2.2.1 = 17
        · exact n17 ⟨w.1, q⟩
        · have := w.2
          exact n16 ⟨w.1, by omega⟩
      obtain ⟨k', s', hj⟩ : ∃ k' s', jJoins 16 (jNots k s).1 (jNots k s).2 = (k', s') := ⟨(jJoins 16 (jNots k s).1 (jNots k s).2).1, (jJoins 16 (jNots k s).1 (jNots k s).2).2, rfl⟩
      obtain ⟨jl1, jl2⟩ := jJoins_len 16 (jNots k s).1 (jNots k s).2
      obtain ⟨hd1, hd2⟩ := jJoins_hd (jNots k s).1 (jNots k s).2
      rw [hj] at jl1 jl2 hd1 hd2
      have jl1 : k'.length + s'.2.1 = (jNots k s).1.length + (jNots k s).2.2.1 := jl1
      have jl2 : s'.1 = (jNots k s).2.1 := jl2
      have hd1 : k'.head? ≠ some 17 := hd1
      have hd2 : k'.head? ≠ some 16 := hd2
      refine x_200 (d := d) hT hR (.inl ⟨rfl, rfl⟩) (jNots k s).1 s1 k1 (by omega) (fun I2 f2 s2 k2 => ⟨_, rfl, rfl, ?_⟩)
      rw [hj] at s2 k2
      have s2 : mSn I2 s' := s2
      have k2 : mSk I2 k' := k2
      have r2 : mRd I2 t n lim p := mRd_cg r1 (fun b hb => f2 102 b (by omega) (by omega))
      have F2 : mSF I I2 := mSF_tr F1 (fun a b g1 g2 g3 => f2 a b (by omega) g2)
      have o2 : I2 102 49 = (s.1 : Int) := by rw [f2 102 49 (by omega) (by omega)]; exact o1
      have u2 : I2 102 52 = 1 := by rw [f2 102 52 (by omega) (by omega), f1 102 52 (by omega) (by omega)]; exact L4
      have l114 : (¬ kIsS (tk t n lim) 41 p ∨ k' = []) → yW l zSS D cy zFk z (d + 2) 162 bc bs K 0 0 114 [(0, yr (some 102))] [] (N, T, R, I2) := fun c =>
        B_162_114 hT hR (x_159 hT hR r2 (fun I3 f3 fl => ⟨_, _, rfl, rfl, .inl rfl, hf I3 (fun m => by rw [jStep_close nz nw hj, if_pos c]) (mSF_tr F2 (mSF_of f3)) fl⟩))
      refine x_196 hT hR r2 (fun r10 h10 => ⟨_, _, rfl, rfl, fun q10 => ?_, fun q10 => ⟨fun t0 => ?_, fun t0 => ?_⟩⟩)
      · exact l114 (.inl (h10.resolve_left (fun g => by omega)).2)
      · have y41 : kIsS (tk t n lim) 41 p := (h10.resolve_right (fun g => q10 g.1)).2
        cases k' with
        | nil => exact absurd (show I2 102 50 = 0 from k2.1) t0
        | cons w k3 =>
          have kk : (I2 121 k3.length = wM w ∧ (w = 16 ∨ w = 17 ∨ w = 18 ∨ w = 40)) ∧ mSt I2 k3 := k2.2.2
          have n7 : w ≠ 17 := fun q => hd1 (by subst q; rfl)
          have n6 : w ≠ 16 := fun q => hd2 (by subst q; rfl)
          have dk : jDeep (w :: k3) = jDeep k3 + 1 := by
            rw [jDeep]
            exact if_pos (by omega)
          have v50 : I2 102 50 = ((k3.length + 1 : Nat) : Int) := k2.1
          have v51 : I2 102 51 = ((jDeep k3 + 1 : Nat) : Int) := by rw [← dk]; exact k2.2.1
          have jd := jDeep_le k3
          rw [List.length_cons] at jl1
          intro I13 e13 I14 e14
          have fr : ∀ a b, ¬ (a = 102 ∧ (b = 50 ∨ b = 51)) → I14 a b = I2 a b := fun a b g1 => by rw [e14, yU_ne _ _ (by omega), e13, yU_ne _ _ (by omega)]
          have w50 : I14 102 50 = (k3.length : Int) := by rw [e14, yU_ne _ _ (by omega), e13, yU_eq, v50, ysub_eq (by omega) (by omega)]; omega
          have w51 : I14 102 51 = (jDeep k3 : Int) := by rw [e14, yU_eq, e13, yU_ne _ _ (by omega), v51, ysub_eq (by omega) (by omega)]; omega
          have F14 : mSF I I14 := mSF_tr F2 (fun a b g1 g2 g3 => fr a b (by omega))
          have r14 : mRd I14 t n lim p := mRd_cg r2 (fun b hb => fr 102 b (by omega))
          have j14 : mJs I14 k3 s' true := by
            refine ⟨mSn_cg (fr 102 48 (by omega)) (fun j => fr 106 j (by omega)) s2, ⟨w50, w51, mSt_cg (fun j _ => fr 121 j (by omega)) kk.2⟩, ?_, ?_, ?_, by omega⟩
            · rw [fr 102 49 (by omega), o2]; omega
            · rw [fr 102 52 (by omega)]; exact u2
            · show k3.length + s'.2.1 + 1 ≤ 2 * s'.1
              omega
          refine x_go hT hR r14 hn hb (mSF_t F14 ht) (fun I15 f15 _ r15 => ⟨_, rfl, rfl, ?_⟩)
          have nq : ¬ (¬ kIsS (tk t n lim) 41 p ∨ (w :: k3) = []) := fun q => q.elim (fun q => q y41) (fun q => by cases q)
          exact ho k3 s' _ true I15 (fun m => (jStep_close nz nw hj).trans (if_neg nq)) (mSF_tr F14 (mSF_of f15)) r15 (mJs_ft f15 j14) pn2
      · refine l114 (.inr ?_)
        cases k' with
        | nil => rfl
        | cons w k3 =>
          have v50 : I2 102 50 = ((k3.length + 1 : Nat) : Int) := k2.1
          exact absurd (show I2 102 50 ≠ 0 by omega) t0
    · have q16 := (h6.resolve_right (fun g => q6 g.1)).2
      exact l24 ⟨q16.1, by omega, by omega⟩
end Xt
