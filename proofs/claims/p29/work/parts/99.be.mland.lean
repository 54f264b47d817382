/-! THE REFERENCE reads the ALLEYS, to the letter: its land -/
/-- the reference's land says S -/
def mLr (I : Nat → Nat → Int) (S : Ld) : Prop :=
  (I 105 0 = S.w ∧ 0 ≤ S.w ∧ S.w ≤ 10 ∧ I 105 1 = S.h ∧ 0 ≤ S.h ∧ S.h ≤ 10) ∧
  (∀ a, a < 100 → I 105 (10 + a) = (if S.mk 1 a then 1 else 0) ∧ I 105 (110 + a) = (if S.mk 2 a then 1 else 0) ∧ I 105 (210 + a) = (if S.mk 3 a then 1 else 0)) ∧
  (∀ a, a < 100 → I 105 (358 + a) = S.lane a + 1 ∧ -1 ≤ S.lane a ∧ S.lane a ≤ 3) ∧
  (I 105 3 = (S.told 1 : Int) ∧ S.told 1 ≤ 40 ∧ I 105 4 = (S.told 2 : Int) ∧ S.told 2 ≤ 12 ∧ I 105 5 = (S.told 3 : Int) ∧ S.told 3 ≤ 12 ∧ I 102 20 = (S.told 4 : Int) ∧ S.told 4 ≤ 20) ∧
  (I 105 2 = (S.ch : Int) ∧ S.ch ≤ 8) ∧
  (∀ i, i < S.ch → (I 107 (8 + i) = S.nm i ∧ isW (S.nm i)) ∧ (I 105 (326 + i) = S.fr i ∧ I 105 (334 + i) = S.bd i ∧ I 105 (310 + i) = S.rk i ∧ I 105 (318 + i) = S.ld i) ∧ mCell S.w S.h (S.fr i) ∧ mCell S.w S.h (S.bd i)) ∧
  (∀ i : Nat, i < 8 → I 105 (350 + i) = (if S.st i = -1 then 0 else S.st i) ∧ I 105 (342 + i) = (if S.sk i then 1 else 0) ∧ mBit (I 102 21) (i : Int) = (if S.st i = -1 then 0 else 1)) ∧
  (0 ≤ I 102 21 ∧ I 102 21 < 256) ∧
  (I 105 6 = (S.laws : Int) ∧ S.laws ≤ 3 ∧ (∀ i, i < S.laws → I 105 (7 + i) = S.law i - 9 ∧ 9 ≤ S.law i ∧ S.law i ≤ 11) ∧ (∀ i j, i < j → j < S.laws → S.law i ≠ S.law j))
def mLz (I : Nat → Nat → Int) (S : Ld) : Prop := (I 102 22 = 0 ↔ S.w = 0) ∧ (I 102 23 = 0 ↔ S.laws = 0)
theorem mLr_cg {I I' : Nat → Nat → Int} {S : Ld} (h : mLr I S) (f : ∀ a b, (a = 105 ∨ (a = 107 ∧ b < 8 + S.ch) ∨ (a = 102 ∧ (b = 20 ∨ b = 21))) → I' a b = I a b) : mLr I' S := by
  obtain ⟨A, B, C, D, E, F, G, H, J⟩ := h
  have f5 : ∀ b, I' 105 b = I 105 b := fun b => f 105 b (.inl rfl)
  unfold mLr
  simp only [f5, f 102 20 (by omega), f 102 21 (by omega)]
  exact ⟨A, B, C, D, E, fun i hi => by rw [f 107 (8 + i) (by omega)]; exact F i hi, G, H, J⟩
theorem mLr_mH {I : Nat → Nat → Int} {S : Ld} (h : mLr I S) : mH I := by
  obtain ⟨A, B, C, D, E, F, G, H, J⟩ := h
  refine ⟨by omega, fun c hc => ?_, fun k hk hl => ?_⟩
  · rw [(B c hc).2.2]; split <;> omega
  · have g := F k (by omega)
    rw [A.1, A.2.2.2.1, g.2.1.1, g.2.1.2.1]
    exact g.2.2
set_option maxRecDepth 100000 in
theorem stOr_k : ∀ x : Nat, x < 256 → ∀ k : Nat, k < 8 → (0 ≤ yor (x : Int) (yshl 1 (k : Int)) ∧ yor (x : Int) (yshl 1 (k : Int)) < 256) ∧ ∀ c : Nat, c < 8 → mBit (yor (x : Int) (yshl 1 (k : Int))) (c : Int) = if c = k then 1 else mBit (x : Int) (c : Int) := by decide +kernel
theorem stOr {x : Int} (h : 0 ≤ x ∧ x < 256) {k : Nat} (hk : k < 8) : (0 ≤ yor x (yshl 1 (k : Int)) ∧ yor x (yshl 1 (k : Int)) < 256) ∧ ∀ c : Nat, c < 8 → mBit (yor x (yshl 1 (k : Int))) (c : Int) = if c = k then 1 else mBit x (c : Int) := by
  have g := stOr_k x.toNat (by omega) k hk
  rwa [show ((x.toNat : Nat) : Int) = x by omega] at g
/-- which ways are told, in one number -/
def wHd (S : Ld) : Int := (if kHas S 9 then 1 else 0) + (if kHas S 10 then 2 else 0) + (if kHas S 11 then 4 else 0)
theorem wHd_bit (S : Ld) {w : Nat} (hw : w < 3) : mBit (wHd S) (w : Int) = if kHas S ((w : Int) + 9) then 1 else 0 := by
  unfold wHd
  rcases (show w = 0 ∨ w = 1 ∨ w = 2 by omega) with rfl | rfl | rfl
  · show mBit _ 0 = if kHas S 9 then 1 else 0
    cases kHas S 9 <;> cases kHas S 10 <;> cases kHas S 11 <;> decide
  · show mBit _ 1 = if kHas S 10 then 1 else 0
    cases kHas S 9 <;> cases kHas S 10 <;> cases kHas S 11 <;> decide
  · show mBit _ 2 = if kHas S 11 then 1 else 0
    cases kHas S 9 <;> cases kHas S 10 <;> cases kHas S 11 <;> decide
theorem kHas_way (S : Ld) (v u : Int) : kHas (uWay S v) u = (kHas S u || decide (v = u)) := by
  cases h : kHas (uWay S v) u with
  | true =>
    obtain ⟨c, hc, g⟩ := List.any_eq_true.mp h
    have hc : c < S.laws + 1 := List.mem_range.mp hc
    have g : (uWay S v).law c = u := of_decide_eq_true g
    by_cases e : c = S.laws
    · have k : (uWay S v).law c = v := if_pos e
      rw [← g, k]
      simp
    · have k : (uWay S v).law c = S.law c := if_neg e
      rw [kHas_t (c := c) (by omega) (by rw [← k]; exact g)]
      rfl
  | false =>
    have n : ∀ c, c < S.laws + 1 → (uWay S v).law c ≠ u := fun c hc g => by
      have := kHas_t (S := uWay S v) (v := u) (c := c) hc g
      rw [h] at this
      cases this
    have a : kHas S u = false := kHas_f (fun j hj e => n j (by omega) (by
      have k : (uWay S v).law j = S.law j := if_neg (by omega)
      rw [k]; exact e))
    have b : ¬ v = u := fun e => n S.laws (by omega) (by
      have k : (uWay S v).law S.laws = v := if_pos rfl
      rw [k]; exact e)
    rw [a, decide_eq_false b]
    rfl
theorem wHd_way (S : Ld) {w : Nat} (hw : w < 3) (h : kHas S ((w : Int) + 9) = false) : yor (wHd S) (yshl 1 (w : Int)) = wHd (uWay S ((w : Int) + 9)) := by
  have e : ∀ u, kHas (uWay S ((w : Int) + 9)) u = (kHas S u || decide ((w : Int) + 9 = u)) := kHas_way S _
  unfold wHd
  rw [e 9, e 10, e 11]
  rcases (show w = 0 ∨ w = 1 ∨ w = 2 by omega) with rfl | rfl | rfl
  · have h : kHas S 9 = false := h
    rw [h]
    show yor _ (yshl 1 0) = (if (false || true) = true then 1 else 0) + (if (kHas S 10 || false) = true then 2 else 0) + (if (kHas S 11 || false) = true then 4 else 0)
    cases kHas S 10 <;> cases kHas S 11 <;> decide
  · have h : kHas S 10 = false := h
    rw [h]
    show yor _ (yshl 1 1) = (if (kHas S 9 || false) = true then 1 else 0) + (if (false || true) = true then 2 else 0) + (if (kHas S 11 || false) = true then 4 else 0)
    cases kHas S 9 <;> cases kHas S 11 <;> decide
  · have h : kHas S 11 = false := h
    rw [h]
    show yor _ (yshl 1 2) = (if (kHas S 9 || false) = true then 1 else 0) + (if (kHas S 10 || false) = true then 2 else 0) + (if (false || true) = true then 4 else 0)
    cases kHas S 9 <;> cases kHas S 10 <;> decide
theorem wHd_0 {S : Ld} (h : S.laws = 0) : wHd S = 0 := by
  have e : ∀ v, kHas S v = false := fun v => kHas_f (fun j hj => by omega)
  unfold wHd
  rw [e 9, e 10, e 11]
  rfl
theorem wHd_n0 {S : Ld} (h : 0 < S.laws) (l : 9 ≤ S.law 0 ∧ S.law 0 ≤ 11) : wHd S ≠ 0 := by
  have e := kHas_t (c := 0) h (rfl : S.law 0 = S.law 0)
  unfold wHd
  rcases (show S.law 0 = 9 ∨ S.law 0 = 10 ∨ S.law 0 = 11 by omega) with q | q | q
  · rw [q] at e
    rw [e]
    cases kHas S 10 <;> cases kHas S 11 <;> decide
  · rw [q] at e
    rw [e]
    cases kHas S 9 <;> cases kHas S 11 <;> decide
  · rw [q] at e
    rw [e]
    cases kHas S 9 <;> cases kHas S 10 <;> decide
/-- three told ways are all there are -/
theorem kHas_3 {S : Ld} (h : 3 ≤ S.laws) (l : ∀ i, i < S.laws → 9 ≤ S.law i ∧ S.law i ≤ 11) (u : ∀ i j, i < j → j < S.laws → S.law i ≠ S.law j) {v : Int} (hv : 9 ≤ v ∧ v ≤ 11) : kHas S v = true := by
  have l0 := l 0 (by omega)
  have l1 := l 1 (by omega)
  have l2 := l 2 (by omega)
  have u01 := u 0 1 (by omega) (by omega)
  have u02 := u 0 2 (by omega) (by omega)
  have u12 := u 1 2 (by omega) (by omega)
  rcases (show S.law 0 = v ∨ S.law 1 = v ∨ S.law 2 = v by omega) with e | e | e
  · exact kHas_t (c := 0) (by omega) e
  · exact kHas_t (c := 1) (by omega) e
  · exact kHas_t (c := 2) (by omega) e
section Sz
variable {I I' : Nat → Nat → Int} {S : Ld}
theorem mLr_mark (L : mLr I S) {s a : Nat} (hs : s = 1 ∨ s = 2 ∨ s = 3) (ha : a < 100) (hm : S.told s < (if s = 1 then 40 else 12)) {b : Nat} (hb : b = (if s = 1 then 10 else if s = 2 then 110 else 210))
    (f : ∀ x y, (x = 105 ∨ x = 107 ∨ (x = 102 ∧ (y = 20 ∨ y = 21))) → ¬ (x = 105 ∧ (y = b + a ∨ y = 2 + s)) → I' x y = I x y) (e1 : I' 105 (b + a) = 1) (e2 : I' 105 (2 + s) = ((S.told s + 1 : Nat) : Int)) : mLr I' (uMark S s a) := by
  obtain ⟨A, B, C, D, E, F, G, H, J⟩ := L
  have hb' : (s = 1 ∧ b = 10) ∨ (s = 2 ∧ b = 110) ∨ (s = 3 ∧ b = 210) := by
    rcases hs with rfl | rfl | rfl
    · exact .inl ⟨rfl, hb⟩
    · exact .inr (.inl ⟨rfl, hb⟩)
    · exact .inr (.inr ⟨rfl, hb⟩)
  have tm : ∀ k, (uMark S s a).told k = if k = s then S.told k + 1 else S.told k := fun _ => rfl
  have km : ∀ k c, (uMark S s a).mk k c = if k = s ∧ c = a then true else S.mk k c := fun _ _ => rfl
  have nm : ∀ k c, ¬ (k = s ∧ c = a) → (uMark S s a).mk k c = S.mk k c := fun k c g => by rw [km, if_neg g]
  have ym : (uMark S s a).mk s a = true := by rw [km, if_pos ⟨rfl, rfl⟩]
  refine ⟨?_, fun c hc => ?_, fun c hc => ?_, ?_, ?_, fun i hi => ?_, fun i hi => ?_, ?_, ?_⟩
  · rw [f 105 0 (by omega) (by omega), f 105 1 (by omega) (by omega)]; exact A
  · obtain ⟨b1, b2, b3⟩ := B c hc
    refine ⟨?_, ?_, ?_⟩
    · by_cases g : s = 1 ∧ c = a
      · obtain ⟨rfl, rfl⟩ := g
        rw [ym, if_pos rfl, show 10 + c = b + c by omega]; exact e1
      · rw [nm 1 c (by omega), f 105 (10 + c) (by omega) (by omega)]; exact b1
    · by_cases g : s = 2 ∧ c = a
      · obtain ⟨rfl, rfl⟩ := g
        rw [ym, if_pos rfl, show 110 + c = b + c by omega]; exact e1
      · rw [nm 2 c (by omega), f 105 (110 + c) (by omega) (by omega)]; exact b2
    · by_cases g : s = 3 ∧ c = a
      · obtain ⟨rfl, rfl⟩ := g
        rw [ym, if_pos rfl, show 210 + c = b + c by omega]; exact e1
      · rw [nm 3 c (by omega), f 105 (210 + c) (by omega) (by omega)]; exact b3
  · rw [f 105 (358 + c) (by omega) (by omega)]; exact C c hc
  · obtain ⟨d1, d2, d3, d4, d5, d6, d7, d8⟩ := D
    rw [tm 1, tm 2, tm 3, tm 4, if_neg (show ¬ (4 = s) by omega), f 102 20 (by omega) (by omega)]
    rcases hs with rfl | rfl | rfl
    · rw [if_pos rfl, if_neg (by decide), if_neg (by decide), f 105 4 (by omega) (by omega), f 105 5 (by omega) (by omega)]
      have hm : S.told 1 < 40 := hm
      exact ⟨e2, by omega, d3, d4, d5, d6, d7, d8⟩
    · rw [if_pos rfl, if_neg (by decide), if_neg (by decide), f 105 3 (by omega) (by omega), f 105 5 (by omega) (by omega)]
      have hm : S.told 2 < 12 := hm
      exact ⟨d1, d2, e2, by omega, d5, d6, d7, d8⟩
    · rw [if_pos rfl, if_neg (by decide), if_neg (by decide), f 105 3 (by omega) (by omega), f 105 4 (by omega) (by omega)]
      have hm : S.told 3 < 12 := hm
      exact ⟨d1, d2, d3, d4, e2, by omega, d7, d8⟩
  · rw [f 105 2 (by omega) (by omega)]; exact E
  · have g := E.2
    have hi : i < S.ch := hi
    rw [f 107 (8 + i) (by omega) (by omega), f 105 (326 + i) (by omega) (by omega), f 105 (334 + i) (by omega) (by omega), f 105 (310 + i) (by omega) (by omega), f 105 (318 + i) (by omega) (by omega)]; exact F i hi
  · rw [f 105 (350 + i) (by omega) (by omega), f 105 (342 + i) (by omega) (by omega), f 102 21 (by omega) (by omega)]; exact G i hi
  · rw [f 102 21 (by omega) (by omega)]; exact H
  · rw [f 105 6 (by omega) (by omega)]
    refine ⟨J.1, J.2.1, fun i hi => ?_, J.2.2.2⟩
    have hi : i < S.laws := hi
    have := J.2.1
    rw [f 105 (7 + i) (by omega) (by omega)]
    exact J.2.2.1 i hi
theorem mLr_lane (L : mLr I S) {a : Nat} {v : Int} (ha : a < 100) (hv : 0 ≤ v ∧ v ≤ 3) (hm : S.told 4 < 20)
    (f : ∀ x y, (x = 105 ∨ x = 107 ∨ (x = 102 ∧ (y = 20 ∨ y = 21))) → ¬ (x = 105 ∧ y = 358 + a) → ¬ (x = 102 ∧ y = 20) → I' x y = I x y) (e1 : I' 105 (358 + a) = v + 1) (e2 : I' 102 20 = ((S.told 4 + 1 : Nat) : Int)) : mLr I' (uLane S a v) := by
  obtain ⟨A, B, C, D, E, F, G, H, J⟩ := L
  refine ⟨?_, fun c hc => ?_, fun c hc => ?_, ?_, ?_, fun i hi => ?_, fun i hi => ?_, ?_, ?_⟩
  · rw [f 105 0 (by omega) (by omega) (by omega), f 105 1 (by omega) (by omega) (by omega)]; exact A
  · rw [f 105 (10 + c) (by omega) (by omega) (by omega), f 105 (110 + c) (by omega) (by omega) (by omega), f 105 (210 + c) (by omega) (by omega) (by omega)]; exact B c hc
  · by_cases g : c = a
    · have k : (uLane S a v).lane c = v := if_pos g
      rw [k, g, e1]
      exact ⟨rfl, by omega, by omega⟩
    · have k : (uLane S a v).lane c = S.lane c := if_neg g
      rw [k, f 105 (358 + c) (by omega) (by omega) (by omega)]; exact C c hc
  · obtain ⟨d1, d2, d3, d4, d5, d6, d7, d8⟩ := D
    rw [f 105 3 (by omega) (by omega) (by omega), f 105 4 (by omega) (by omega) (by omega), f 105 5 (by omega) (by omega) (by omega)]
    exact ⟨d1, d2, d3, d4, d5, d6, e2, by show S.told 4 + 1 ≤ 20; omega⟩
  · rw [f 105 2 (by omega) (by omega) (by omega)]; exact E
  · have g := E.2
    have hi : i < S.ch := hi
    rw [f 107 (8 + i) (by omega) (by omega) (by omega), f 105 (326 + i) (by omega) (by omega) (by omega), f 105 (334 + i) (by omega) (by omega) (by omega), f 105 (310 + i) (by omega) (by omega) (by omega), f 105 (318 + i) (by omega) (by omega) (by omega)]; exact F i hi
  · rw [f 105 (350 + i) (by omega) (by omega) (by omega), f 105 (342 + i) (by omega) (by omega) (by omega), f 102 21 (by omega) (by omega) (by omega)]; exact G i hi
  · rw [f 102 21 (by omega) (by omega) (by omega)]; exact H
  · rw [f 105 6 (by omega) (by omega) (by omega)]
    refine ⟨J.1, J.2.1, fun i hi => ?_, J.2.2.2⟩
    have hi : i < S.laws := hi
    have := J.2.1
    rw [f 105 (7 + i) (by omega) (by omega) (by omega)]
    exact J.2.2.1 i hi
theorem mLr_chair (L : mLr I S) (h8 : S.ch < 8) {v f0 r d b0 : Int} (hv : isW v) (c1 : mCell S.w S.h f0) (c2 : mCell S.w S.h b0)
    (f : ∀ x y, (x = 105 ∨ x = 107 ∨ (x = 102 ∧ (y = 20 ∨ y = 21))) → ¬ (x = 105 ∧ (y = 2 ∨ y = 310 + S.ch ∨ y = 318 + S.ch ∨ y = 326 + S.ch ∨ y = 334 + S.ch)) → ¬ (x = 107 ∧ y = 8 + S.ch) → I' x y = I x y)
    (e : I' 105 2 = ((S.ch + 1 : Nat) : Int) ∧ I' 107 (8 + S.ch) = v ∧ I' 105 (326 + S.ch) = f0 ∧ I' 105 (334 + S.ch) = b0 ∧ I' 105 (310 + S.ch) = r ∧ I' 105 (318 + S.ch) = d) : mLr I' (uChair S v f0 r d b0) := by
  obtain ⟨A, B, C, D, E, F, G, H, J⟩ := L
  obtain ⟨q2, q0, q1, q3, q4, q5⟩ := e
  refine ⟨?_, fun c hc => ?_, fun c hc => ?_, ?_, ⟨q2, by show S.ch + 1 ≤ 8; omega⟩, fun i hi => ?_, fun i hi => ?_, ?_, ?_⟩
  · rw [f 105 0 (by omega) (by omega) (by omega), f 105 1 (by omega) (by omega) (by omega)]; exact A
  · rw [f 105 (10 + c) (by omega) (by omega) (by omega), f 105 (110 + c) (by omega) (by omega) (by omega), f 105 (210 + c) (by omega) (by omega) (by omega)]; exact B c hc
  · rw [f 105 (358 + c) (by omega) (by omega) (by omega)]; exact C c hc
  · rw [f 105 3 (by omega) (by omega) (by omega), f 105 4 (by omega) (by omega) (by omega), f 105 5 (by omega) (by omega) (by omega), f 102 20 (by omega) (by omega) (by omega)]; exact D
  · have hi : i < S.ch + 1 := hi
    by_cases g : i = S.ch
    · have k0 : (uChair S v f0 r d b0).nm i = v := if_pos g
      have k1 : (uChair S v f0 r d b0).fr i = f0 := if_pos g
      have k2 : (uChair S v f0 r d b0).bd i = b0 := if_pos g
      have k3 : (uChair S v f0 r d b0).rk i = r := if_pos g
      have k4 : (uChair S v f0 r d b0).ld i = d := if_pos g
      rw [k0, k1, k2, k3, k4, g]
      exact ⟨⟨q0, hv⟩, ⟨q1, q3, q4, q5⟩, c1, c2⟩
    · have k0 : (uChair S v f0 r d b0).nm i = S.nm i := if_neg g
      have k1 : (uChair S v f0 r d b0).fr i = S.fr i := if_neg g
      have k2 : (uChair S v f0 r d b0).bd i = S.bd i := if_neg g
      have k3 : (uChair S v f0 r d b0).rk i = S.rk i := if_neg g
      have k4 : (uChair S v f0 r d b0).ld i = S.ld i := if_neg g
      rw [k0, k1, k2, k3, k4, f 107 (8 + i) (by omega) (by omega) (by omega), f 105 (326 + i) (by omega) (by omega) (by omega), f 105 (334 + i) (by omega) (by omega) (by omega), f 105 (310 + i) (by omega) (by omega) (by omega), f 105 (318 + i) (by omega) (by omega) (by omega)]
      exact F i (by omega)
  · rw [f 105 (350 + i) (by omega) (by omega) (by omega), f 105 (342 + i) (by omega) (by omega) (by omega), f 102 21 (by omega) (by omega) (by omega)]; exact G i hi
  · rw [f 102 21 (by omega) (by omega) (by omega)]; exact H
  · rw [f 105 6 (by omega) (by omega) (by omega)]
    refine ⟨J.1, J.2.1, fun i hi => ?_, J.2.2.2⟩
    have hi : i < S.laws := hi
    have := J.2.1
    rw [f 105 (7 + i) (by omega) (by omega) (by omega)]
    exact J.2.2.1 i hi
theorem mLr_start (L : mLr I S) {c : Nat} (hc : c < 8) {v : Int} (hv : 0 ≤ v)
    (f : ∀ x y, (x = 105 ∨ x = 107 ∨ (x = 102 ∧ (y = 20 ∨ y = 21))) → ¬ (x = 105 ∧ y = 350 + c) → ¬ (x = 102 ∧ y = 21) → I' x y = I x y) (e1 : I' 105 (350 + c) = v) (e2 : I' 102 21 = yor (I 102 21) (yshl 1 (c : Int))) : mLr I' (uStart S c v) := by
  obtain ⟨A, B, C, D, E, F, G, H, J⟩ := L
  obtain ⟨o1, o2⟩ := stOr H hc
  refine ⟨?_, fun c hc => ?_, fun c hc => ?_, ?_, ?_, fun i hi => ?_, fun i hi => ?_, ?_, ?_⟩
  · rw [f 105 0 (by omega) (by omega) (by omega), f 105 1 (by omega) (by omega) (by omega)]; exact A
  · rw [f 105 (10 + c) (by omega) (by omega) (by omega), f 105 (110 + c) (by omega) (by omega) (by omega), f 105 (210 + c) (by omega) (by omega) (by omega)]; exact B c hc
  · rw [f 105 (358 + c) (by omega) (by omega) (by omega)]; exact C c hc
  · rw [f 105 3 (by omega) (by omega) (by omega), f 105 4 (by omega) (by omega) (by omega), f 105 5 (by omega) (by omega) (by omega), f 102 20 (by omega) (by omega) (by omega)]; exact D
  · rw [f 105 2 (by omega) (by omega) (by omega)]; exact E
  · have g := E.2
    have hi : i < S.ch := hi
    rw [f 107 (8 + i) (by omega) (by omega) (by omega), f 105 (326 + i) (by omega) (by omega) (by omega), f 105 (334 + i) (by omega) (by omega) (by omega), f 105 (310 + i) (by omega) (by omega) (by omega), f 105 (318 + i) (by omega) (by omega) (by omega)]; exact F i hi
  · obtain ⟨g1, g2, g3⟩ := G i hi
    rw [f 105 (342 + i) (by omega) (by omega) (by omega), e2, o2 i hi]
    by_cases g : i = c
    · have k : (uStart S c v).st i = v := if_pos g
      rw [k, if_neg (show ¬ (v = -1) by omega), if_neg (show ¬ (v = -1) by omega), if_pos g, g, e1]
      rw [g] at g2
      exact ⟨rfl, g2, rfl⟩
    · have k : (uStart S c v).st i = S.st i := if_neg g
      rw [k, if_neg g, f 105 (350 + i) (by omega) (by omega) (by omega)]
      exact ⟨g1, g2, g3⟩
  · rw [e2]; exact o1
  · rw [f 105 6 (by omega) (by omega) (by omega)]
    refine ⟨J.1, J.2.1, fun i hi => ?_, J.2.2.2⟩
    have hi : i < S.laws := hi
    have := J.2.1
    rw [f 105 (7 + i) (by omega) (by omega) (by omega)]
    exact J.2.2.1 i hi
theorem mLr_sick (L : mLr I S) {c : Nat} (hc : c < 8)
    (f : ∀ x y, (x = 105 ∨ x = 107 ∨ (x = 102 ∧ (y = 20 ∨ y = 21))) → ¬ (x = 105 ∧ y = 342 + c) → I' x y = I x y) (e1 : I' 105 (342 + c) = 1) : mLr I' (uSick S c) := by
  obtain ⟨A, B, C, D, E, F, G, H, J⟩ := L
  refine ⟨?_, fun c hc => ?_, fun c hc => ?_, ?_, ?_, fun i hi => ?_, fun i hi => ?_, ?_, ?_⟩
  · rw [f 105 0 (by omega) (by omega), f 105 1 (by omega) (by omega)]; exact A
  · rw [f 105 (10 + c) (by omega) (by omega), f 105 (110 + c) (by omega) (by omega), f 105 (210 + c) (by omega) (by omega)]; exact B c hc
  · rw [f 105 (358 + c) (by omega) (by omega)]; exact C c hc
  · rw [f 105 3 (by omega) (by omega), f 105 4 (by omega) (by omega), f 105 5 (by omega) (by omega), f 102 20 (by omega) (by omega)]; exact D
  · rw [f 105 2 (by omega) (by omega)]; exact E
  · have g := E.2
    have hi : i < S.ch := hi
    rw [f 107 (8 + i) (by omega) (by omega), f 105 (326 + i) (by omega) (by omega), f 105 (334 + i) (by omega) (by omega), f 105 (310 + i) (by omega) (by omega), f 105 (318 + i) (by omega) (by omega)]; exact F i hi
  · obtain ⟨g1, g2, g3⟩ := G i hi
    rw [f 105 (350 + i) (by omega) (by omega), f 102 21 (by omega) (by omega)]
    by_cases g : i = c
    · have k : (uSick S c).sk i = true := if_pos g
      rw [k, if_pos rfl, g, e1]
      rw [g] at g1 g3
      exact ⟨g1, rfl, g3⟩
    · have k : (uSick S c).sk i = S.sk i := if_neg g
      rw [k, f 105 (342 + i) (by omega) (by omega)]
      exact ⟨g1, g2, g3⟩
  · rw [f 102 21 (by omega) (by omega)]; exact H
  · rw [f 105 6 (by omega) (by omega)]
    refine ⟨J.1, J.2.1, fun i hi => ?_, J.2.2.2⟩
    have hi : i < S.laws := hi
    have := J.2.1
    rw [f 105 (7 + i) (by omega) (by omega)]
    exact J.2.2.1 i hi
theorem mLr_way (L : mLr I S) {v : Int} (h3 : S.laws < 3) (hv : 9 ≤ v ∧ v ≤ 11) (hn : kHas S v = false)
    (f : ∀ x y, (x = 105 ∨ x = 107 ∨ (x = 102 ∧ (y = 20 ∨ y = 21))) → ¬ (x = 105 ∧ (y = 6 ∨ y = 7 + S.laws)) → I' x y = I x y) (e1 : I' 105 (7 + S.laws) = v - 9) (e2 : I' 105 6 = ((S.laws + 1 : Nat) : Int)) : mLr I' (uWay S v) := by
  obtain ⟨A, B, C, D, E, F, G, H, J⟩ := L
  have ne : ∀ j, j < S.laws → S.law j ≠ v := fun j hj g => by
    have := kHas_t hj g
    rw [hn] at this
    cases this
  refine ⟨?_, fun c hc => ?_, fun c hc => ?_, ?_, ?_, fun i hi => ?_, fun i hi => ?_, ?_, e2, by show S.laws + 1 ≤ 3; omega, fun i hi => ?_, fun i j hij hj => ?_⟩
  · rw [f 105 0 (by omega) (by omega), f 105 1 (by omega) (by omega)]; exact A
  · rw [f 105 (10 + c) (by omega) (by omega), f 105 (110 + c) (by omega) (by omega), f 105 (210 + c) (by omega) (by omega)]; exact B c hc
  · rw [f 105 (358 + c) (by omega) (by omega)]; exact C c hc
  · rw [f 105 3 (by omega) (by omega), f 105 4 (by omega) (by omega), f 105 5 (by omega) (by omega), f 102 20 (by omega) (by omega)]; exact D
  · rw [f 105 2 (by omega) (by omega)]; exact E
  · have g := E.2
    have hi : i < S.ch := hi
    rw [f 107 (8 + i) (by omega) (by omega), f 105 (326 + i) (by omega) (by omega), f 105 (334 + i) (by omega) (by omega), f 105 (310 + i) (by omega) (by omega), f 105 (318 + i) (by omega) (by omega)]; exact F i hi
  · rw [f 105 (350 + i) (by omega) (by omega), f 105 (342 + i) (by omega) (by omega), f 102 21 (by omega) (by omega)]; exact G i hi
  · rw [f 102 21 (by omega) (by omega)]; exact H
  · have hi : i < S.laws + 1 := hi
    by_cases g : i = S.laws
    · have k : (uWay S v).law i = v := if_pos g
      rw [k, g, e1]
      exact ⟨rfl, hv⟩
    · have k : (uWay S v).law i = S.law i := if_neg g
      rw [k, f 105 (7 + i) (by omega) (by omega)]
      exact J.2.2.1 i (by omega)
  · have hj : j < S.laws + 1 := hj
    have ki : (uWay S v).law i = S.law i := if_neg (by omega)
    rw [ki]
    by_cases g : j = S.laws
    · have k : (uWay S v).law j = v := if_pos g
      rw [k]
      exact ne i (by omega)
    · have k : (uWay S v).law j = S.law j := if_neg g
      rw [k]
      exact J.2.2.2 i j hij (by omega)
theorem mLr_size (L : mLr I S) {w h : Int} (w0 : S.w = 0) (hw : 0 ≤ w ∧ w ≤ 10) (hh : 0 ≤ h ∧ h ≤ 10)
    (f : ∀ x y, (x = 105 ∨ x = 107 ∨ (x = 102 ∧ (y = 20 ∨ y = 21))) → ¬ (x = 105 ∧ y < 2) → I' x y = I x y) (e0 : I' 105 0 = w) (e1 : I' 105 1 = h) : mLr I' (uSize S w h) := by
  obtain ⟨A, B, C, D, E, F, G, H, J⟩ := L
  refine ⟨⟨e0, hw.1, hw.2, e1, hh.1, hh.2⟩, fun c hc => ?_, fun c hc => ?_, ?_, ?_, fun i hi => ?_, fun i hi => ?_, ?_, ?_⟩
  · rw [f 105 (10 + c) (by omega) (by omega), f 105 (110 + c) (by omega) (by omega), f 105 (210 + c) (by omega) (by omega)]; exact B c hc
  · rw [f 105 (358 + c) (by omega) (by omega)]; exact C c hc
  · rw [f 105 3 (by omega) (by omega), f 105 4 (by omega) (by omega), f 105 5 (by omega) (by omega), f 102 20 (by omega) (by omega)]; exact D
  · rw [f 105 2 (by omega) (by omega)]; exact E
  · have g := (F i hi).2.2.1
    rw [w0] at g
    unfold mCell at g
    omega
  · rw [f 105 (350 + i) (by omega) (by omega), f 105 (342 + i) (by omega) (by omega), f 102 21 (by omega) (by omega)]; exact G i hi
  · rw [f 102 21 (by omega) (by omega)]; exact H
  · rw [f 105 6 (by omega) (by omega)]
    refine ⟨J.1, J.2.1, fun i hi => ?_, J.2.2.2⟩
    have hi : i < S.laws := hi
    have := J.2.1
    rw [f 105 (7 + i) (by omega) (by omega)]
    exact J.2.2.1 i hi
theorem mLr_0 (h5 : ∀ j, j < 458 → I 105 j = 0) (h20 : I 102 20 = 0) (h21 : I 102 21 = 0) : mLr I Ld0 := by
  refine ⟨⟨h5 0 (by omega), by decide, by decide, h5 1 (by omega), by decide, by decide⟩, fun a ha => ⟨h5 _ (by omega), h5 _ (by omega), h5 _ (by omega)⟩, fun a ha => ⟨by rw [h5 _ (by omega)]; rfl, (show (-1 : Int) ≤ -1 by decide), (show (-1 : Int) ≤ 3 by decide)⟩, ⟨h5 3 (by omega), by decide, h5 4 (by omega), by decide, h5 5 (by omega), by decide, h20, by decide⟩, ⟨h5 2 (by omega), by decide⟩, fun i hi => absurd hi (Nat.not_lt_zero _), fun i hi => ⟨by rw [h5 _ (by omega)]; rfl, h5 _ (by omega), ?_⟩, by rw [h21]; decide, h5 6 (by omega), by decide, fun i hi => absurd hi (Nat.not_lt_zero _), fun i j _ hj => absurd hj (Nat.not_lt_zero _)⟩
  rw [h21]
  show mBit 0 (i : Int) = 0
  rcases (show i = 0 ∨ i = 1 ∨ i = 2 ∨ i = 3 ∨ i = 4 ∨ i = 5 ∨ i = 6 ∨ i = 7 by omega) with rfl | rfl | rfl | rfl | rfl | rfl | rfl | rfl <;> decide
end Sz
