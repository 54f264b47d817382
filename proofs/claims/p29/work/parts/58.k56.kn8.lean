/-! KNOTS, 7: the check is sound. -/
theorem kn_bitc {v z : Nat} (h : Nat.beq (v / 2 ^ z % 2) 1 = true) : v.testBit z = true := by
  have := kn_beq h
  rw [Nat.testBit_eq_decide_div_mod_eq, this]; rfl
theorem kn_xbit (v z c : Nat) : (Nat.xor v (2 ^ z)).testBit c = (v.testBit c ^^ decide (z = c)) := by
  have : (v ^^^ 2 ^ z).testBit c = (v.testBit c ^^ (2 ^ z).testBit c) := by rw [Nat.testBit_xor]
  rw [Nat.testBit_two_pow] at this
  exact this
theorem kn_split {E X : Nat → Nat → Prop} {r : Nat} {S : Nat → knP} {mv : Nat → Nat} {j n out last lk T : Nat} {H : List Nat} {Ec c : Nat} {φ τ : Nat → Nat}
    (h : knD E X r S mv j n out last lk T H Ec c φ τ) {z e ed : Nat} (hed : ed = knAt Ec e) (he : e < c) (hz : z < n) (hzy : 2 ^ z ≠ ed / 65536 % 65536) (hb : Nat.beq (ed / 4294967296 / 2 ^ z % 2) 1 = true) :
    knD E X r S mv j n out last lk T H (Ec - ed * 2 ^ (48 * e) + (ed % 4294967296 + 4294967296 * Nat.xor (ed / 4294967296) (2 ^ z)) * 2 ^ (48 * e)) c φ τ ∨
    knD E X r S mv j n out last lk T H (Ec - ed * 2 ^ (48 * e) + (ed % 65536 + 65536 * 2 ^ z + 4294967296 * Nat.xor (ed / 4294967296 % 4096) (ed / 65536 % 4096)) * 2 ^ (48 * e) + (2 ^ z + 65536 * (ed / 65536 % 65536) + 4294967296 * Nat.xor (ed / 4294967296) (2 ^ z)) * 2 ^ (48 * c)) (c + 1) φ τ := by
  obtain ⟨hjr, hn12, ho3, hφ, hτ, hτ3, hTn, hTk, hT, hlast, hlk, hHl, hH, l, hll, hEc, hEd⟩ := h
  have hlt : ∀ a, a ∈ l → a < 281474976710656 := fun a ha => (hEd a ha).1
  rw [hEc, knEnc_at e l hlt] at hed
  have hel : e < l.length := by omega
  have hmem : ed ∈ l := by
    rw [hed]
    have : l.getD e 0 = l[e] := by simp [List.getD, hel]
    rw [this]; exact List.getElem_mem hel
  have h1 : Ec - ed * 2 ^ (48 * e) = knEnc (l.set e 0) := by rw [hEc, hed]; exact knEnc_sub l e hel
  have hbz := kn_bitc hb
  have hset : ∀ v, knEd E X n out φ τ v → ∀ x, x ∈ l.set e v → knEd E X n out φ τ x := by
    intro v hv x hx
    rcases List.mem_or_eq_of_mem_set hx with g | g
    · exact hEd x g
    · rw [g]; exact hv
  obtain ⟨h0, a, ha, hx, hbn, hpath⟩ := hEd ed hmem
  have hz2 : 2 ^ z < 65536 := Nat.lt_of_lt_of_le (Nat.pow_lt_pow_right (by omega) (by omega : z < 16)) (by decide)
  have hnav : ed / 4294967296 < 65536 := by omega
  have hxl : Nat.xor (ed / 4294967296) (2 ^ z) < 65536 := by
    have : (ed / 4294967296) ^^^ 2 ^ z < 2 ^ 16 := Nat.xor_lt_two_pow hnav hz2
    exact this
  have ha2 : 2 ^ a < 65536 := Nat.lt_of_lt_of_le (Nat.pow_lt_pow_right (by omega) (by omega : a < 16)) (by decide)
  have wd : ∀ x y v : Nat, x < 65536 → y < 65536 → v < 65536 → (x + 65536 * y + 4294967296 * v) < 281474976710656 ∧ (x + 65536 * y + 4294967296 * v) % 65536 = x ∧ (x + 65536 * y + 4294967296 * v) / 65536 % 65536 = y ∧ (x + 65536 * y + 4294967296 * v) / 4294967296 = v := by
    intro x y v h1 h2 h3; refine ⟨by omega, by omega, by omega, by omega⟩
  have eA : ed % 4294967296 + 4294967296 * Nat.xor (ed / 4294967296) (2 ^ z) = ed % 65536 + 65536 * (ed / 65536 % 65536) + 4294967296 * Nat.xor (ed / 4294967296) (2 ^ z) := by omega
  obtain ⟨a1, a2, a3, a4⟩ := wd (ed % 65536) (ed / 65536 % 65536) (Nat.xor (ed / 4294967296) (2 ^ z)) (by omega) (by omega) hxl
  have hy4 : Nat.xor (ed / 4294967296 % 4096) (ed / 65536 % 4096) < 4096 := by
    have : (ed / 4294967296 % 4096) ^^^ (ed / 65536 % 4096) < 2 ^ 12 := Nat.xor_lt_two_pow (by omega) (by omega)
    exact this
  obtain ⟨b1, b2, b3, b4⟩ := wd (ed % 65536) (2 ^ z) (Nat.xor (ed / 4294967296 % 4096) (ed / 65536 % 4096)) (by omega) hz2 (by omega)
  obtain ⟨c1, c2, c3, c4⟩ := wd (2 ^ z) (ed / 65536 % 65536) (Nat.xor (ed / 4294967296) (2 ^ z)) hz2 (by omega) hxl
  have hxA : ∀ c, (Nat.xor (ed / 4294967296) (2 ^ z)).testBit c = false → c = z ∨ (ed / 4294967296).testBit c = false := by
    intro c hc
    rw [kn_xbit] at hc
    by_cases e : z = c
    · exact .inl e.symm
    · right; simpa [e] using hc
  have hxN : ∀ c, n ≤ c → c < 12 → (Nat.xor (ed / 4294967296) (2 ^ z)).testBit c = true := by
    intro c g1 g2
    rw [kn_xbit, hbn c g1 g2]
    have : z ≠ c := by omega
    simp [this]
  have goA : knEd E X n out φ τ (ed % 65536 + 65536 * (ed / 65536 % 65536) + 4294967296 * Nat.xor (ed / 4294967296) (2 ^ z)) →
      knD E X r S mv j n out last lk T H (Ec - ed * 2 ^ (48 * e) + (ed % 4294967296 + 4294967296 * Nat.xor (ed / 4294967296) (2 ^ z)) * 2 ^ (48 * e)) c φ τ := by
    intro g
    rw [eA]
    refine ⟨hjr, hn12, ho3, hφ, hτ, hτ3, hTn, hTk, hT, hlast, hlk, hHl, hH, l.set e (ed % 65536 + 65536 * (ed / 65536 % 65536) + 4294967296 * Nat.xor (ed / 4294967296) (2 ^ z)), by rw [List.length_set]; exact hll, ?_, hset _ g⟩
    rw [h1, ← knEnc_set l e _ hel]
  have goB : knEd E X n out φ τ (ed % 65536 + 65536 * 2 ^ z + 4294967296 * Nat.xor (ed / 4294967296 % 4096) (ed / 65536 % 4096)) → knEd E X n out φ τ (2 ^ z + 65536 * (ed / 65536 % 65536) + 4294967296 * Nat.xor (ed / 4294967296) (2 ^ z)) →
      knD E X r S mv j n out last lk T H (Ec - ed * 2 ^ (48 * e) + (ed % 65536 + 65536 * 2 ^ z + 4294967296 * Nat.xor (ed / 4294967296 % 4096) (ed / 65536 % 4096)) * 2 ^ (48 * e) + (2 ^ z + 65536 * (ed / 65536 % 65536) + 4294967296 * Nat.xor (ed / 4294967296) (2 ^ z)) * 2 ^ (48 * c)) (c + 1) φ τ := by
    intro g g'
    refine ⟨hjr, hn12, ho3, hφ, hτ, hτ3, hTn, hTk, hT, hlast, hlk, hHl, hH, l.set e (ed % 65536 + 65536 * 2 ^ z + 4294967296 * Nat.xor (ed / 4294967296 % 4096) (ed / 65536 % 4096)) ++ [2 ^ z + 65536 * (ed / 65536 % 65536) + 4294967296 * Nat.xor (ed / 4294967296) (2 ^ z)], by simp [hll], ?_, fun x hx => ?_⟩
    · rw [h1, ← knEnc_set l e _ hel, knEnc_snoc, List.length_set, hll]
    · rcases List.mem_append.mp hx with q | q
      · exact hset _ g x q
      · rw [List.mem_singleton.mp q]; exact g'
  -- bits of the first half
  have hB1 : ∀ y, ed / 65536 % 65536 = y → ∀ c, c < 12 → (Nat.xor (ed / 4294967296 % 4096) (ed / 65536 % 4096)).testBit c = ((ed / 4294967296).testBit c ^^ y.testBit c) := by
    intro y hy c hc
    have e1 : ((ed / 4294967296 % 2 ^ 12) ^^^ (ed / 65536 % 2 ^ 12)).testBit c = ((ed / 4294967296 % 2 ^ 12).testBit c ^^ (ed / 65536 % 2 ^ 12).testBit c) := by rw [Nat.testBit_xor]
    have e2 : ed / 65536 % 2 ^ 12 = y % 2 ^ 12 := by rw [← hy]; omega
    rw [e2, Nat.testBit_mod_two_pow, Nat.testBit_mod_two_pow] at e1
    simp only [hc, decide_true, Bool.true_and] at e1
    rw [← e1, ← e2]
    rfl
  rcases hpath with ⟨b, hbb, hy, pl, p1, p2, p3⟩ | ⟨hy, u, hu, hw, pl, p1, p2, p3, p4⟩
  · rcases Classical.em (φ z ∈ pl) with hin | hout
    · right
      obtain ⟨q1, q2, eq⟩ := List.append_of_mem hin
      subst eq
      have hnd := List.nodup_cons.mp p2
      have hnd2 : ((q1 ++ [φ z]) ++ (q2 ++ [φ b])).Nodup := by
        have := hnd.2; simp only [List.append_assoc, List.cons_append, List.nil_append] at this ⊢; exact this
      have hch := (kn_ch_append (φ a) (q1 ++ [φ z]) (q2 ++ [φ b])).mp (by simpa [List.append_assoc] using p1)
      rw [kn_last_snoc] at hch
      have hzb : z ≠ b := by
        intro e
        have h := (List.nodup_append.mp hnd2).2.2
        exact h (φ z) (by simp) (φ b) (by simp) (by rw [e])
      have hsub1 : ∀ v, v ∈ q1 ++ [φ z] → v ∈ (q1 ++ φ z :: q2) ++ [φ b] := by
        intro v hv; simp at hv ⊢; rcases hv with h | h
        · exact .inl h
        · exact .inr (.inl h)
      have hsub2 : ∀ v, v ∈ q2 ++ [φ b] → v ∈ (q1 ++ φ z :: q2) ++ [φ b] := by
        intro v hv; simp at hv ⊢; rcases hv with h | h
        · exact .inr (.inr (.inl h))
        · exact .inr (.inr (.inr h))
      have hzn : φ z ∉ q2 ++ [φ b] := by
        intro h
        exact (List.nodup_append.mp hnd2).2.2 (φ z) (by simp) (φ z) h rfl
      have hbn1 : φ b ∉ q1 ++ [φ z] := by
        intro h
        exact (List.nodup_append.mp hnd2).2.2 (φ b) h (φ b) (by simp) rfl
      have ndz : (φ z :: (q2 ++ [φ b])).Nodup := List.nodup_cons.mpr ⟨hzn, (List.nodup_append.mp hnd2).2.1⟩
      have nda : (φ a :: (q1 ++ [φ z])).Nodup := List.nodup_cons.mpr ⟨fun h => hnd.1 (hsub1 _ h), (List.nodup_append.mp hnd2).1⟩
      refine goB ⟨b1, a, ha, by rw [b2]; exact hx, ?_, .inl ⟨z, hz, b3, q1, hch.1, nda, ?_⟩⟩ ⟨c1, z, hz, c2, ?_, .inl ⟨b, hbb, by rw [c3]; exact hy, q2, hch.2, ndz, ?_⟩⟩
      · intro c g1 g2
        rw [b4, hB1 _ hy c g2, hbn c g1 g2, Nat.testBit_two_pow_of_ne (by omega)]; rfl
      · intro c g1 g2 hmem
        rw [b4, hB1 _ hy c (by omega)] at g2
        by_cases e : b = c
        · rw [← e] at hmem; exact hbn1 hmem
        · rw [Nat.testBit_two_pow_of_ne e] at g2
          have g3 : (ed / 4294967296).testBit c = false := by simpa using g2
          exact p3 c g1 g3 (hsub1 _ hmem)
      · intro c g1 g2; rw [c4]; exact hxN c g1 g2
      · intro c g1 g2 hmem
        rw [c4] at g2
        rcases hxA c g2 with e | e
        · rw [e] at hmem; exact hzn hmem
        · exact p3 c g1 e (hsub2 _ hmem)
    · have hzb : z ≠ b := fun e => hzy (by rw [hy, e])
      left
      refine goA ⟨a1, a, ha, by rw [a2]; exact hx, ?_, .inl ⟨b, hbb, by rw [a3]; exact hy, pl, p1, p2, ?_⟩⟩
      · intro c g1 g2; rw [a4]; exact hxN c g1 g2
      · intro c g1 g2 hmem
        rw [a4] at g2
        rcases hxA c g2 with e | e
        · rw [e] at hmem
          rcases List.mem_append.mp hmem with q | q
          · exact hout q
          · exact hzb (hφ z b hz hbb (List.mem_singleton.mp q))
        · exact p3 c g1 e hmem
  · rcases Classical.em (φ z ∈ pl) with hin | hout
    · right
      obtain ⟨q1, q2, eq⟩ := List.append_of_mem hin
      subst eq
      have hnd := List.nodup_cons.mp p3
      have hnd2 : ((q1 ++ [φ z]) ++ q2).Nodup := by
        have := hnd.2; simp only [List.append_assoc, List.cons_append, List.nil_append] at this ⊢; exact this
      have hch := (kn_ch_append (φ a) (q1 ++ [φ z]) q2).mp (by simpa [List.append_assoc] using p1)
      rw [kn_last_snoc] at hch
      have hlst : kn_last (φ z) q2 = kn_last (φ a) (q1 ++ φ z :: q2) := by
        have : q1 ++ φ z :: q2 = (q1 ++ [φ z]) ++ q2 := by simp
        rw [this, kn_last_append (φ a) (q1 ++ [φ z]) q2, kn_last_snoc]
      have hsub1 : ∀ v, v ∈ q1 ++ [φ z] → v ∈ q1 ++ φ z :: q2 := by
        intro v hv; simp at hv ⊢; rcases hv with h | h
        · exact .inl h
        · exact .inr (.inl h)
      have hsub2 : ∀ v, v ∈ q2 → v ∈ q1 ++ φ z :: q2 := by
        intro v hv; simp; exact .inr (.inr hv)
      have hzn : φ z ∉ q2 := by
        intro h
        exact (List.nodup_append.mp hnd2).2.2 (φ z) (by simp) (φ z) h rfl
      have ndz : (φ z :: q2).Nodup := List.nodup_cons.mpr ⟨hzn, (List.nodup_append.mp hnd2).2.1⟩
      have nda : (φ a :: (q1 ++ [φ z])).Nodup := List.nodup_cons.mpr ⟨fun h => hnd.1 (hsub1 _ h), (List.nodup_append.mp hnd2).1⟩
      have hy15 : ∀ c, c < 12 → (32768 : Nat).testBit c = false := by
        intro c hc
        rw [show (32768 : Nat) = 2 ^ 15 by decide, Nat.testBit_two_pow_of_ne (by omega)]
      refine goB ⟨b1, a, ha, by rw [b2]; exact hx, ?_, .inl ⟨z, hz, b3, q1, hch.1, nda, ?_⟩⟩ ⟨c1, z, hz, c2, ?_, .inr ⟨by rw [c3]; exact hy, u, hu, ?_, q2, hch.2, by rw [hlst]; exact p2, ndz, ?_⟩⟩
      · intro c g1 g2
        rw [b4, hB1 _ hy c g2, hbn c g1 g2, hy15 c g2]; rfl
      · intro c g1 g2 hmem
        rw [b4, hB1 _ hy c (by omega), hy15 c (by omega)] at g2
        have g3 : (ed / 4294967296).testBit c = false := by simpa using g2
        exact p4 c g1 g3 (hsub1 _ hmem)
      · intro c g1 g2; rw [c4]; exact hxN c g1 g2
      · intro m g1 g2
        rw [c4, kn_xbit, hw m g1 g2]
        have : z ≠ 12 + m := by omega
        simp [this]
      · intro c g1 g2 hmem
        rw [c4] at g2
        rcases hxA c g2 with e | e
        · rw [e] at hmem; exact hzn hmem
        · exact p4 c g1 e (hsub2 _ hmem)
    · left
      refine goA ⟨a1, a, ha, by rw [a2]; exact hx, ?_, .inr ⟨by rw [a3]; exact hy, u, hu, ?_, pl, p1, p2, p3, ?_⟩⟩
      · intro c g1 g2; rw [a4]; exact hxN c g1 g2
      · intro m g1 g2
        rw [a4, kn_xbit, hw m g1 g2]
        have : z ≠ 12 + m := by omega
        simp [this]
      · intro c g1 g2 hmem
        rw [a4] at g2
        rcases hxA c g2 with e | e
        · rw [e] at hmem; exact hout hmem
        · exact p4 c g1 e hmem
