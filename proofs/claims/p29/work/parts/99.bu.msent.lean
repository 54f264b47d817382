/-! SENTENCE of the reference, to the letter: operands, the whole -/
theorem wM_leaf {v : Int} (h : v = 7 ∨ (9 ≤ v ∧ v ≤ 11) ∨ (19 ≤ v ∧ v ≤ 23)) : (wM v < 2 ∧ (v = 19 ∨ v = 7)) ∨ (wM v = 2 ∧ v = 20) ∨ (3 ≤ wM v ∧ ¬ (v = 19 ∨ v = 7) ∧ v ≠ 20) := by
  unfold wM
  repeat' split
  all_goals omega
section Xu
variable {l : Launch} {D : va_G} {cy : Nat → ClassId} {z d bc bs N : Nat} {T : Nat → Nat × Nat} {R : Nat → Nat → Option Nat} {I : Nat → Nat → Int} {K : yKo} {t : Nat → Int} {n lim p ch : Nat} {nm : Nat → Int} {s : Sn} {k : List Int}
theorem x_222 (hT : yLT T) (hR : yLR R) (h : mRd I t n lim p) (hn : n ≤ 940) (hb : ∀ j, j < n → -128 ≤ t j ∧ t j < 128) (ht : I 103 = t) (hw : ∀ i, i < 24 → I 108 i = rCd i) (pn : p ≤ n) (hc : I 104 2 = (ch : Int)) (Lm : mNm I 0 ch nm) (L : mJs I k s false)
    (hf : ∀ f X, (∀ m, jRun (tk t n lim) (nLd ch nm) (m + 1) k s p false = some (.inl f)) → mSF I X → mFl X f → K (some (yi 0)) (N, T, R, X))
    (ho : ∀ k' s' p' w' X, (∀ m, jRun (tk t n lim) (nLd ch nm) (m + 1) k s p false = jRun (tk t n lim) (nLd ch nm) m k' s' p' w') → mSF I X → mRd X t n lim p' → mJs X k' s' w' → p' ≤ n → K (some (yi 1)) (N, T, R, X)) :
    yW l zSS D cy zFk z (d + 2) 222 bc bs K 0 0 0 [(0, yr (some 102))] [] (N, T, R, I) := by
  obtain ⟨L1, L2, L3, L4, L5, L6⟩ := L
  have L5 : k.length + s.2.1 + 0 ≤ 2 * s.1 := L5
  have L51 := L2.2.1
  have pn2 := (tk_go t n lim p pn).2
  have dle := jDeep_le k
  refine B_222_0 hT hR (x_199 hT hR h 18 (by omega) rfl (fun r2 h2 => ⟨_, _, rfl, rfl, x_196 hT hR h (fun r4 h4 => ⟨_, _, rfl, rfl, x_209 (d := d) hT hR h (fun r6 h6 => ⟨_, _, rfl, rfl, ?_⟩)⟩)⟩))
  have h4 : (r4 = 1 ∧ kIsS (tk t n lim) 40 p) ∨ (r4 = 0 ∧ ¬ kIsS (tk t n lim) 40 p) := h4
  have l38 : kBegins (tk t n lim) p → yW l zSS D cy zFk z (d + 2) 222 bc bs K 0 0 38 [(0, yr (some 102)), (1, yi r2), (2, yi r4), (3, yi r6)] [] (N, T, R, I) := by
    intro b
    have nn : ¬ ¬ kBegins (tk t n lim) p := fun q => q b
    have bad4 : (s.1 = 20 ∨ 8 < jDeep k) → yW l zSS D cy zFk z (d + 2) 222 bc bs K 0 0 56 [(0, yr (some 102))] [] (N, T, R, I) := fun c =>
      B_222_56 hT hR (x_159 hT hR h (fun I1 f1 fl => ⟨_, _, rfl, rfl, .inl rfl, hf _ I1 (fun m => by rw [jRun, if_neg nn]; exact if_pos c) (mSF_of f1) fl⟩))
    refine B_222_38 hT hR ⟨fun q20 => bad4 (.inl (by omega)), fun n20 => ⟨fun d8 I3 e3 => ?_, fun nd8 => bad4 (.inr (by omega))⟩⟩
    have n4 : ¬ (s.1 = 20 ∨ 8 < jDeep k) := by omega
    have fr3 : ∀ a b, ¬ (a = 102 ∧ b = 49) → I3 a b = I a b := fun a b g => by rw [e3, yU_ne _ _ g]
    have v49 : I3 102 49 = ((s.1 + 1 : Nat) : Int) := by
      have : I3 102 49 = (s.1 : Int) + 1 := by rw [e3, yU_eq, L3, yadd_eq (by omega) (by omega)]
      omega
    have F3 : mSF I I3 := fun a b g1 g2 g3 => fr3 a b (by omega)
    have r3 : mRd I3 t n lim p := mRd_cg h (fun b hb => fr3 102 b (by omega))
    refine x_go hT hR r3 hn hb (mSF_t F3 ht) (fun I4 f4 _ r4' => ⟨_, rfl, rfl, ?_⟩)
    have F4 : mSF I I4 := mSF_tr F3 (mSF_of f4)
    have fr4 : ∀ a b, ¬ (a = 102 ∧ (b = 4 ∨ (11 ≤ b ∧ b ≤ 18) ∨ b = 49)) → I4 a b = I a b := fun a b g => by rw [f4 a b (by omega)]; exact fr3 a b (by omega)
    have s4 : mSn I4 (sOne s) := mSn_cg (s := sOne s) (fr4 102 48 (by omega)) (fun j => fr4 106 j (by omega)) L1
    have k4 : mSk I4 k := mSk_cg (fr4 102 50 (by omega)) (fr4 102 51 (by omega)) (fun j => fr4 121 j (by omega)) L2
    have o4 : I4 102 49 = ((s.1 + 1 : Nat) : Int) := by rw [f4 102 49 (by omega)]; exact v49
    have z4 : I4 102 52 = 0 := by rw [fr4 102 52 (by omega)]; exact L4
    have t4 := mSF_t F4 ht
    have v50 : I4 102 50 = (k.length : Int) := k4.1
    have psh : ∀ x v : Int, x = wM v → (v = 18 ∨ v = 40) → (∀ m, jRun (tk t n lim) (nLd ch nm) (m + 1) k s p false = jRun (tk t n lim) (nLd ch nm) m (v :: k) (sOne s) (tk t n lim p).2.2.2 false) → 0 ≤ (I4 102 50) ∧ (I4 102 50) < 45 ∧ (∀ I5, I5 = yU I4 121 ((I4 102 50).toNat) (ynar 1 x) → (∀ I6, I6 = yU I5 102 50 (yadd (I5 102 50) 1) → (∀ I7, I7 = yU I6 102 51 (yadd (I6 102 51) 1) → (K (some (yi 1)) (N, T, R, I7))))) := by
      intro x v hx hv ej
      have xr := wM_rng v
      rw [v50, show ((k.length : Int)).toNat = k.length by omega]
      refine ⟨by omega, by omega, fun I5 e5 I6 e6 I7 e7 => ?_⟩
      have fr : ∀ a b, ¬ (a = 102 ∧ (b = 50 ∨ b = 51)) → ¬ (a = 121 ∧ b = k.length) → I7 a b = I4 a b := fun a b g1 g2 => by rw [e7, yU_ne _ _ (by omega), e6, yU_ne _ _ (by omega), e5, yU_ne _ _ (by omega)]
      have w50 : I7 102 50 = (k.length : Int) + 1 := by rw [e7, yU_ne _ _ (by omega), e6, yU_eq, e5, yU_ne _ _ (by omega), v50, yadd_eq (by omega) (by omega)]
      have w51 : I7 102 51 = (jDeep k : Int) + 1 := by rw [e7, yU_eq, e6, yU_ne _ _ (by omega), e5, yU_ne _ _ (by omega), k4.2.1, yadd_eq (by omega) (by omega)]
      have w121 : I7 121 k.length = wM v := by rw [e7, yU_ne _ _ (by omega), e6, yU_ne _ _ (by omega), e5, yU_eq, ynar1_eq (by omega) (by omega), hx]
      have dk : jDeep (v :: k) = jDeep k + 1 := by
        rw [jDeep]
        exact if_pos hv
      have r7 : mRd I7 t n lim (tk t n lim p).2.2.2 := mRd_cg r4' (fun b hb => fr 102 b (by omega) (by omega))
      refine ho (v :: k) (sOne s) _ false I7 ej (fun a b g1 g2 g3 => by rw [fr a b (by omega) (by omega)]; exact F4 a b g1 g2 g3) r7 ⟨mSn_cg (fr 102 48 (by omega) (by omega)) (fun j => fr 106 j (by omega) (by omega)) s4, ⟨?_, ?_, ⟨⟨w121, by omega⟩, mSt_cg (fun j hj => fr 121 j (by omega) (by omega)) k4.2.2⟩⟩, ?_, ?_, ?_, ?_⟩ pn2
      · rw [w50, List.length_cons]; omega
      · rw [dk, w51]; omega
      · rw [fr 102 49 (by omega) (by omega)]; exact o4
      · rw [fr 102 52 (by omega) (by omega)]; exact z4
      · show (v :: k).length + s.2.1 + 0 ≤ 2 * (s.1 + 1)
        rw [List.length_cons]; omega
      · show s.1 + 1 ≤ 20
        omega
    have l84 : ∀ x1 : Int, ((x1 = 0 ∧ ∀ m, jRun (tk t n lim) (nLd ch nm) (m + 1) k s p false = jRun (tk t n lim) (nLd ch nm) m (40 :: k) (sOne s) (tk t n lim p).2.2.2 false) ∨ (x1 ≠ 0 ∧ ∀ m, jRun (tk t n lim) (nLd ch nm) (m + 1) k s p false = jRun (tk t n lim) (nLd ch nm) m (18 :: k) (sOne s) (tk t n lim p).2.2.2 false)) → yW l zSS D cy zFk z (d + 2) 222 bc bs K 0 0 84 [(0, yr (some 102)), (1, yi x1)] [] (N, T, R, I4) := by
      intro x1 hx
      refine B_222_84 hT hR ⟨fun q => ?_, fun q => ?_⟩
      · exact psh 23 40 wM40.symm (.inr rfl) (hx.resolve_right (fun g => g.1 q)).2
      · exact psh 20 18 wM18.symm (.inl rfl) (hx.resolve_left (fun g => q g.1)).2
    refine ⟨fun q2 => ?_, fun q2 => ⟨fun q4 I7 e7 => ?_, fun q4 => ?_⟩⟩
    · have y18 : kIsW (tk t n lim) 18 18 p := by
        have q := (h2.resolve_right (fun g => q2 g.1)).2
        exact ⟨q.1, by omega, by omega⟩
      exact l84 r2 (.inr ⟨q2, fun m => by rw [jRun, if_neg nn, if_neg n4]; exact if_pos y18⟩)
    · have nq18 := (h2.resolve_left (fun g => q2 (by omega))).2
      have n18 : ¬ kIsW (tk t n lim) 18 18 p := fun w => nq18 ⟨w.1, by have := w.2; omega⟩
      have n40 : ¬ kIsS (tk t n lim) 40 p := (h4.resolve_left (fun g => by omega)).2
      have y : kIsL (tk t n lim) p := by
        have nw : ¬ ((tk t n lim p).1 = 1 ∧ rIx (tk t n lim p).2.2.1 = 18) := fun w => nq18 ⟨w.1, by omega⟩
        rcases b with b | b | b | b
        · exact absurd b n40
        · have := b.2
          have n8 : rIx (tk t n lim p).2.2.1 ≠ 18 := fun q => nw ⟨b.1, q⟩
          exact ⟨b.1, by omega⟩
        · have := b.2
          exact ⟨b.1, by omega⟩
        · have := b.2
          exact ⟨b.1, by omega⟩
      have e6 : r6 = wM (rIx (tk t n lim p).2.2.1) := (h6.resolve_right (fun g => g.1 y)).2
      rw [e6]
      have lf := wM_leaf y.2
      have wr := wM_rng (rIx (tk t n lim p).2.2.1)
      have jl : ∀ f, kPlain (tk t n lim) (nLd ch nm) (sOne s) (rIx (tk t n lim p).2.2.1) (tk t n lim p).2.2.2 = .inl f → ∀ m, jRun (tk t n lim) (nLd ch nm) (m + 1) k s p false = some (.inl f) := fun f e m => by
        rw [jRun, if_neg nn, if_neg n4, if_neg n18, if_neg n40, e]
      have jr : ∀ s2 p2, kPlain (tk t n lim) (nLd ch nm) (sOne s) (rIx (tk t n lim p).2.2.1) (tk t n lim p).2.2.2 = .inr (s2, p2) → ∀ m, jRun (tk t n lim) (nLd ch nm) (m + 1) k s p false = jRun (tk t n lim) (nLd ch nm) m k s2 p2 true := fun s2 p2 e m => by
        rw [jRun, if_neg nn, if_neg n4, if_neg n18, if_neg n40, e]
      have fr7 : ∀ a b, ¬ (a = 102 ∧ b = 52) → I7 a b = I4 a b := fun a b g => by rw [e7, yU_ne _ _ g]
      have F7 : mSF I I7 := mSF_tr F4 (fun a b g1 g2 g3 => fr7 a b (by omega))
      have r7 : mRd I7 t n lim (tk t n lim p).2.2.2 := mRd_cg r4' (fun b hb => fr7 102 b (by omega))
      have t7 := mSF_t F7 ht
      have s7 : mSn I7 (sOne s) := mSn_cg (fr7 102 48 (by omega)) (fun j => fr7 106 j (by omega)) s4
      have c7 : (sOne s).2.1 < 45 := by show s.2.1 < 45; omega
      -- it is all there
      have fin : ∀ (X : Nat → Nat → Int) (c v : Int) (p2 : Nat), (∀ a b, ¬ (a = 102 ∧ (b = 4 ∨ (11 ≤ b ∧ b ≤ 18) ∨ b = 48)) → a ≠ 106 → X a b = I7 a b) → mRd X t n lim p2 → mSn X (sAdd (sOne s) (rIx (tk t n lim p).2.2.1) c v) → p2 ≤ n → kPlain (tk t n lim) (nLd ch nm) (sOne s) (rIx (tk t n lim p).2.2.1) (tk t n lim p).2.2.2 = .inr (sAdd (sOne s) (rIx (tk t n lim p).2.2.1) c v, p2) → K (some (yi 1)) (N, T, R, X) := by
        intro X c v p2 fX rX sX pX e
        refine ho k _ p2 true X (jr _ _ e) (mSF_tr F7 (fun a b g1 g2 g3 => fX a b (by omega) g2)) rX ⟨sX, mSk_cg ?_ ?_ (fun j => ?_) k4, ?_, ?_, ?_, ?_⟩ pX
        · rw [fX 102 50 (by omega) (by omega), fr7 102 50 (by omega)]
        · rw [fX 102 51 (by omega) (by omega), fr7 102 51 (by omega)]
        · rw [fX 121 j (by omega) (by omega), fr7 121 j (by omega)]
        · rw [fX 102 49 (by omega) (by omega), fr7 102 49 (by omega)]; exact o4
        · rw [fX 102 52 (by omega) (by omega), e7, yU_eq]; rfl
        · show k.length + (s.2.1 + 1) + 1 ≤ 2 * (s.1 + 1)
          omega
        · show s.1 + 1 ≤ 20
          omega
      refine ⟨fun q2' => ⟨fun n2 => ?_, fun y2 => ?_⟩, fun q2' => ?_⟩
      · have nw : ¬ (rIx (tk t n lim p).2.2.1 = 19 ∨ rIx (tk t n lim p).2.2.1 = 7) := by omega
        have n20' : ¬ rIx (tk t n lim p).2.2.1 = 20 := by omega
        obtain ⟨-, g11, -, -, -, -, g3, -⟩ := mTk_tk r7.2.2
        have bad1 : ¬ (kIsS (tk t n lim) 60 (tk t n lim p).2.2.2 ∨ kIsS (tk t n lim) 61 (tk t n lim p).2.2.2 ∨ kIsS (tk t n lim) 62 (tk t n lim p).2.2.2) → yW l zSS D cy zFk z (d + 2) 222 bc bs K 0 0 227 [(0, yr (some 102))] [] (N, T, R, I7) := fun c =>
          B_222_227 hT hR (x_159 hT hR r7 (fun I8 f8 fl => ⟨_, _, rfl, rfl, .inl rfl, hf _ I8 (jl _ (by unfold kPlain; rw [if_neg nw, if_neg n20', if_pos c])) (mSF_tr F7 (mSF_of f8)) fl⟩))
        refine ⟨fun n3 => bad1 (fun c => ?_), fun y3 => ?_⟩
        · have w3 : (tk t n lim (tk t n lim p).2.2.2).1 = 3 := by rcases c with c | c | c <;> exact c.1
          exact n3 (by rw [g11, w3]; rfl)
        · have w3 : (tk t n lim (tk t n lim p).2.2.2).1 = 3 := by rw [g11] at y3; omega
          have e14 := g3 w3
          refine ⟨fun lt => bad1 (fun c => ?_), fun ge => ⟨fun le => ?_, fun gt => bad1 (fun c => ?_)⟩⟩
          · rcases c with c | c | c <;> (have := c.2; omega)
          · have sg : kIsS (tk t n lim) 60 (tk t n lim p).2.2.2 ∨ kIsS (tk t n lim) 61 (tk t n lim p).2.2.2 ∨ kIsS (tk t n lim) 62 (tk t n lim p).2.2.2 := by
              by_cases q0 : (tk t n lim (tk t n lim p).2.2.2).2.2.1 = 60
              · exact .inl ⟨w3, q0⟩
              · by_cases q1 : (tk t n lim (tk t n lim p).2.2.2).2.2.1 = 61
                · exact .inr (.inl ⟨w3, q1⟩)
                · exact .inr (.inr ⟨w3, by omega⟩)
            have ns : ¬ ¬ (kIsS (tk t n lim) 60 (tk t n lim p).2.2.2 ∨ kIsS (tk t n lim) 61 (tk t n lim p).2.2.2 ∨ kIsS (tk t n lim) 62 (tk t n lim p).2.2.2) := fun q => q sg
            refine x_go hT hR r7 hn hb t7 (fun I13 f13 _ r13 => ⟨_, rfl, rfl, ?_⟩)
            obtain ⟨-, g11', -, -, -, g2', -⟩ := mTk_tk r13.2.2
            have pn3 := (tk_go t n lim _ pn2).2
            have t13 := mFt_t f13 t7
            have s13 : mSn I13 (sOne s) := mSn_cg (f13 102 48 (by omega)) (fun j => f13 106 j (by omega)) s7
            rw [e14]
            refine ⟨fun y => ?_, fun nn2 => ?_⟩
            · have w2 : (tk t n lim (tk t n lim (tk t n lim p).2.2.2).2.2.2).1 = 2 := by rw [g11'] at y; omega
              obtain ⟨e14', v0, v1⟩ := g2' w2
              have kn : kNum (tk t n lim) 0 999 (tk t n lim (tk t n lim p).2.2.2).2.2.2 = .inr ((tk t n lim (tk t n lim (tk t n lim p).2.2.2).2.2.2).2.2.1, (tk t n lim (tk t n lim (tk t n lim p).2.2.2).2.2.2).2.2.2) := by
                have c9 : 0 ≤ (tk t n lim (tk t n lim (tk t n lim p).2.2.2).2.2.2).2.2.1 ∧ (tk t n lim (tk t n lim (tk t n lim p).2.2.2).2.2.2).2.2.1 ≤ 999 := by omega
                unfold kNum
                rw [if_pos w2, if_pos c9]
              rw [e14']
              refine x_169 hT hR s13 c7 rfl (by omega) (by omega) (fun I15 f15 s15 => ⟨_, rfl, rfl, ?_⟩)
              have r15 := mRd_cg r13 (fun b hb => f15 102 b (by omega) (by omega))
              have t15 : I15 103 = t := by rw [← t13]; exact funext fun j => f15 103 j (by omega) (by omega)
              refine x_go hT hR r15 hn hb t15 (fun I16 f16 _ r16 => ⟨_, rfl, rfl, ?_⟩)
              refine fin I16 _ _ _ (fun a b g1 g2 => by rw [f16 a b (by omega), f15 a b (by omega) g2]; exact f13 a b (by omega)) r16 (mSn_cg (f16 102 48 (by omega)) (fun j => f16 106 j (by omega)) s15) (tk_go t n lim _ pn3).2 ?_
              unfold kPlain
              rw [if_neg nw, if_neg n20', if_neg ns, kn]
            · have n2' : ¬ (tk t n lim (tk t n lim (tk t n lim p).2.2.2).2.2.2).1 = 2 := fun q => nn2 (by rw [g11', q]; rfl)
              exact x_159 hT hR r13 (fun I8 f8 fl => ⟨_, _, rfl, rfl, .inl rfl, hf _ I8 (jl _ (by unfold kPlain kNum; rw [if_neg nw, if_neg n20', if_neg ns, if_neg n2'])) (mSF_tr F7 (mSF_of (mFt_tr f13 f8))) fl⟩)
          · rcases c with c | c | c <;> (have := c.2; omega)
      · have nw : ¬ (rIx (tk t n lim p).2.2.1 = 19 ∨ rIx (tk t n lim p).2.2.1 = 7) := by omega
        have y20 : rIx (tk t n lim p).2.2.1 = 20 := by omega
        have w7 : ∀ i, i < 24 → I7 108 i = rCd i := fun i hi => by rw [F7 108 i (by omega) (by omega) (by omega)]; exact hw i hi
        have L7 : mNm I7 0 ch nm := ⟨Lm.1, fun i hi => by rw [F7 107 (0 + i) (by omega) (by omega) (by omega)]; exact Lm.2 i hi⟩
        have ch7 : I7 104 2 = (ch : Int) := by rw [F7 104 2 (by omega) (by omega) (by omega)]; exact hc
        have c8 := Lm.1
        have bad : ∀ kd, kName (tk t n lim) (nLd ch nm) (tk t n lim p).2.2.2 = .inl (kd, (tk t n lim (tk t n lim p).2.2.2).2.1) → yW l zSS D cy zFk z (d + 1) 159 0 0 (fun r h' => ∃ r28 I27, r = some (yi r28) ∧ h' = (N, T, R, I27) ∧ ((r28 = 0 ∨ r28 = 1) ∧ K (some (yi r28)) (N, T, R, I27))) 0 0 0 [(0, yr (some 102)), (1, yi kd)] [] (N, T, R, I7) := fun kd e =>
          x_159 hT hR r7 (fun I8 f8 fl => ⟨_, _, rfl, rfl, .inl rfl, hf _ I8 (jl _ (by unfold kPlain; rw [if_neg nw, if_pos y20, e])) (mSF_tr F7 (mSF_of f8)) fl⟩)
        refine x_194 hT hR r7 w7 (fun r20 h20 => ⟨_, _, rfl, rfl, fun q20 => ?_, fun q20 => ?_⟩)
        · have en : kIsName (tk t n lim) (tk t n lim p).2.2.2 := (h20.resolve_right (fun q => q20 q.1)).2
          rw [ch7]
          refine x_180n hT hR r7 en.1 L7 ⟨_, _, rfl, rfl, fun c9 => ?_, fun c9 => ?_⟩
          · obtain ⟨c', cc, ec⟩ : ∃ c' : Nat, c' < ch ∧ kFind (nLd ch nm) (tk t n lim (tk t n lim p).2.2.2).2.2.1 = (c' : Int) := by
              unfold kFind at c9 ⊢
              cases hq : (List.range (nLd ch nm).ch).find? (fun i => decide ((nLd ch nm).nm i = (tk t n lim (tk t n lim p).2.2.2).2.2.1)) with
              | none => rw [hq] at c9; exact absurd c9 (show ¬ ((0 : Int) ≤ -1) by decide)
              | some q => exact ⟨q, List.mem_range.mp (List.mem_of_find?_eq_some hq), rfl⟩
            have kn : kName (tk t n lim) (nLd ch nm) (tk t n lim p).2.2.2 = .inr c' := by unfold kName; rw [if_neg (fun k => k en), if_neg (by rw [ec]; omega), ec]; rfl
            rw [ec]
            refine x_169 hT hR s7 c7 rfl (by omega) (by omega) (fun I25 f25 s25 => ⟨_, rfl, rfl, ?_⟩)
            have r25 := mRd_cg r7 (fun b hb => f25 102 b (by omega) (by omega))
            have t25 : I25 103 = t := by rw [← t7]; exact funext fun j => f25 103 j (by omega) (by omega)
            refine x_go hT hR r25 hn hb t25 (fun I26 f26 _ r26 => ⟨_, rfl, rfl, ?_⟩)
            refine fin I26 _ _ _ (fun a b g1 g2 => by rw [f26 a b (by omega)]; exact f25 a b (by omega) g2) r26 (mSn_cg (f26 102 48 (by omega)) (fun j => f26 106 j (by omega)) s25) (tk_go t n lim _ pn2).2 ?_
            unfold kPlain
            rw [if_neg nw, if_pos y20, kn]
          · have cf : kFind (nLd ch nm) (tk t n lim (tk t n lim p).2.2.2).2.2.1 = -1 := by
              unfold kFind at c9 ⊢
              cases hq : (List.range (nLd ch nm).ch).find? (fun i => decide ((nLd ch nm).nm i = (tk t n lim (tk t n lim p).2.2.2).2.2.1)) with
              | none => rfl
              | some q =>
                rw [hq] at c9
                exact absurd (show (0 : Int) ≤ ((q : Nat) : Int) by omega) c9
            exact bad 3 (by unfold kName; rw [if_neg (fun k => k en), if_pos cf])
        · have en : ¬ kIsName (tk t n lim) (tk t n lim p).2.2.2 := (h20.resolve_left (fun g => by omega)).2
          exact bad 1 (by unfold kName; rw [if_pos en])
      · have y : rIx (tk t n lim p).2.2.1 = 19 ∨ rIx (tk t n lim p).2.2.1 = 7 := by omega
        refine x_169 hT hR s7 c7 rfl (by omega) (by omega) (fun I31 f31 s31 => ⟨_, rfl, rfl, ?_⟩)
        refine fin I31 _ _ _ (fun a b g1 g2 => f31 a b (by omega) g2) (mRd_cg r7 (fun b hb => f31 102 b (by omega) (by omega))) s31 pn2 ?_
        unfold kPlain
        rw [if_pos y]
    · have nq18 := (h2.resolve_left (fun g => q2 (by omega))).2
      have n18 : ¬ kIsW (tk t n lim) 18 18 p := fun w => nq18 ⟨w.1, by have := w.2; omega⟩
      have y40 : kIsS (tk t n lim) 40 p := (h4.resolve_right (fun g => q4 g.1)).2
      have z2 : r2 = 0 := by omega
      exact l84 r2 (.inl ⟨z2, fun m => by rw [jRun, if_neg nn, if_neg n4, if_neg n18]; exact if_pos y40⟩)
  refine ⟨fun q => l38 ?_, fun q2 => ⟨fun q => l38 (.inl (h4.resolve_right (fun g => q g.1)).2), fun q4 => ⟨fun q => l38 ?_, fun q6 => ?_⟩⟩⟩
  · have g := (h2.resolve_right (fun g => q g.1)).2
    exact .inr (.inl ⟨g.1, by omega, by omega⟩)
  · have g := (h6.resolve_right (fun g => by omega)).1
    obtain ⟨g1, g2⟩ := g
    by_cases c : rIx (tk t n lim p).2.2.1 = 7
    · exact .inr (.inr (.inr ⟨g1, by omega, by omega⟩))
    · by_cases c2 : rIx (tk t n lim p).2.2.1 ≤ 11
      · exact .inr (.inr (.inl ⟨g1, by omega, by omega⟩))
      · exact .inr (.inl ⟨g1, by omega, by omega⟩)
  · have n2 := (h2.resolve_left (fun g => q2 (by omega))).2
    have n4 := (h4.resolve_left (fun g => q4 (by omega))).2
    have wr := wM_rng (rIx (tk t n lim p).2.2.1)
    have n6 := (h6.resolve_left (fun g => by omega)).1
    have nb : ¬ kBegins (tk t n lim) p := by
      intro b
      rcases b with b | b | b | b
      · exact n4 b
      · have := b.2
        by_cases c : rIx (tk t n lim p).2.2.1 = 18
        · exact n2 ⟨b.1, by omega⟩
        · exact n6 ⟨b.1, by omega⟩
      · have := b.2
        exact n6 ⟨b.1, by omega⟩
      · have := b.2
        exact n6 ⟨b.1, by omega⟩
    exact x_159 hT hR h (fun I8 f8 fl => ⟨_, _, rfl, rfl, .inl rfl, hf _ I8 (fun m => by rw [jRun]; exact if_pos nb) (mSF_of f8) fl⟩)
end Xu
