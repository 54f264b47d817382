/-! KNOTS, 5: the nodes ahead. -/
theorem kn_kids {E X : Nat → Nat → Prop} {r : Nat} {S : Nat → knP} {mv : Nat → Nat} (hc : kn_chain E X r S mv) {j n out last lk T : Nat} {H : List Nat} {Ec c : Nat} {φ τ : Nat → Nat}
    (h : knD E X r S mv j n out last lk T H Ec c φ τ) (hj : j < r) (hn : n < 12) : ∃ nd, nd ∈ knKids (j, n, out, last, lk, T, H, Ec, c) ∧ ¬ knR E X r S mv nd := by
  obtain ⟨hjr, hn12, ho3, hφ, hτ, hτ3, hTn, hTk, hT, hlast, hlk, hHl, hH, l, hll, hEc, hEd⟩ := h
  obtain ⟨hrun, hns, hlock, hgood⟩ := hc.2 j hj
  obtain ⟨x, pl, hx, hch, hfr, hq⟩ := hrun
  generalize hm : mv j = m at *
  have hm3 : m < 3 := by
    rcases Nat.lt_or_ge m 3 with h | h
    · exact h
    · rw [hgood.1 m h] at hx; cases hx
  have hoth : ∀ u, u ≠ m → S j u = S (j + 1) u := by
    intro u hu
    rcases hq with e | ⟨_, e⟩ <;> rw [e] <;> exact kn_upd_ne _ _ hu
  obtain ⟨p, φ', hpn, hpx, hφe, hφ', hnn, hpn', hn1⟩ := kn_name hφ x
  generalize hn' : knMx n (p + 1) = n' at *
  -- a token told of stands elsewhere, unless it is the one that went
  have hdig : ∀ a, a < out → τ a ≠ m → knDg T a ≠ p ∧ S (j + 1) (τ a) = some (φ (knDg T a)) := by
    intro a ha hne
    have h1 : S j (τ a) = some (φ (knDg T a)) := by
      rcases hTk.1 a ha with ⟨_, h⟩ | ⟨h, _⟩
      · exact h
      · have := hTn a ha; omega
    rw [hoth _ hne] at h1
    refine ⟨fun e => hne ?_, h1⟩
    have h2 : φ (knDg T a) = x := by rw [← hφe _ (hTn a ha), e, hpx]
    rw [h2] at h1
    exact hgood.2 _ _ _ h1 hx
  have hHnew : ∀ T' : Nat, ∀ i, i < j + 1 → (T' :: H).getD (j - i) 0 = if i = j then T' else H.getD (j - 1 - i) 0 := by
    intro T' i hi
    by_cases e : i = j
    · subst e; simp
    · rw [if_neg e]
      have : j - i = (j - 1 - i) + 1 := by omega
      rw [this, List.getD_cons_succ]
  cases hs : S j m with
  | none =>
    -- it went away
    have hni : ∀ a, a < out → m ≠ τ a := by
      intro a ha e
      rcases hTk.1 a ha with ⟨_, h⟩ | ⟨h, _⟩
      · rw [← e, hs] at h; cases h
      · have := hTn a ha; omega
    have ho : out < 3 := kn_three hτ hτ3 ho3 hm3 hni
    have hX : X m (kn_last x pl) := by
      rcases hq with e | ⟨hX, _⟩
      · rw [e, kn_upd_same] at hs; cases hs
      · exact hX
    obtain ⟨l', hl1, hl2, hl3, hl4⟩ := kn_simple pl.length x pl (Nat.le_refl _) hch
    have hd15 : knDg T out = 15 := hTk.2.1 out (Nat.le_refl _) ho
    obtain ⟨hT1, hT2, hT3⟩ := knDg_new T out p ho (by omega) hT
    have hfrp : knFr T p = true := by
      refine knFr_of fun a ha => ?_
      rcases Nat.lt_or_ge a out with h | h
      · exact (hdig a h (fun e => hni a h e.symm)).1
      · rw [hTk.2.1 a h ha]; omega
    refine ⟨knKid (j, n, out, last, lk, T, H, Ec, c) out p (out + 1) 0 32768 (28672 - 2 ^ (12 + out)), ?_, ?_⟩
    · have hb : Nat.blt out 3 = true := Nat.ble_eq_true_of_le ho
      have e : knKids (j, n, out, last, lk, T, H, Ec, c) = (cond (Nat.blt out 3) (knKs (j, n, out, last, lk, T, H, Ec, c) out (out + 1) 0 32768 (28672 - 2 ^ (12 + out)) T (n + 1)) []) ++ knMs (j, n, out, last, lk, T, H, Ec, c) last out T n out := rfl
      rw [e, hb]
      exact List.mem_append_left _ (knKs_mem (j, n, out, last, lk, T, H, Ec, c) out (out + 1) 0 32768 (28672 - 2 ^ (12 + out)) T (n + 1) p (by omega) hfrp)
    · intro hR
      let τ' : Nat → Nat := fun a => if a = out then m else τ a
      have hτe : ∀ a, a < out → τ' a = τ a := fun a ha => by show (if a = out then m else τ a) = τ a; rw [if_neg (by omega)]
      have hτo : τ' out = m := by show (if out = out then m else τ out) = m; rw [if_pos rfl]
      have hTke : T + 15 * 16 ^ out - knDg T out * 16 ^ out = T := by rw [hd15]; omega
      have hw : ∃ w, 28672 - 2 ^ (12 + out) = 4096 * w ∧ w < 7 ∧ ∀ u, u < 3 → u ≠ out → w.testBit u = true := by
        have h : out = 0 ∨ out = 1 ∨ out = 2 := by omega
        rcases h with rfl | rfl | rfl
        · refine ⟨6, by decide, by decide, fun u hu hn => ?_⟩
          have h : u = 1 ∨ u = 2 := by omega
          rcases h with rfl | rfl <;> decide
        · refine ⟨5, by decide, by decide, fun u hu hn => ?_⟩
          have h : u = 0 ∨ u = 2 := by omega
          rcases h with rfl | rfl <;> decide
        · refine ⟨3, by decide, by decide, fun u hu hn => ?_⟩
          have h : u = 0 ∨ u = 1 := by omega
          rcases h with rfl | rfl <;> decide
      obtain ⟨w, hw1, hw2, hw3⟩ := hw
      have hnv := knNav_lt T p
      obtain ⟨hw4, hw5, hw6, hw7⟩ := @kn_word p 32768 (knNav T p + 4096 * w) (by omega) (by omega) (by omega)
      refine hR φ' τ' ?_
      show knD E X r S mv (j + 1) (knMx n (p + 1)) (out + 1) out 0 (T + p * 16 ^ out - knDg T out * 16 ^ out) (T :: H) (Ec + (2 ^ p + 65536 * 32768 + 4294967296 * (knNav (T + 15 * 16 ^ out - knDg T out * 16 ^ out) p + (28672 - 2 ^ (12 + out)))) * 2 ^ (48 * c)) (c + 1) φ' τ'
      rw [hn', hTke, hw1]
      refine ⟨by omega, by omega, by omega, hφ', ?_, ?_, ?_, ?_, hT1, ?_, fun h => absurd h (by omega), by simp [hHl], ?_, ?_⟩
      · intro a b ha hb e
        by_cases h1 : a = out
        · by_cases h2 : b = out
          · omega
          · subst h1; rw [hτo, hτe b (by omega)] at e; exact absurd e (hni b (by omega))
        · by_cases h2 : b = out
          · subst h2; rw [hτo, hτe a (by omega)] at e; exact absurd e.symm (hni a (by omega))
          · rw [hτe a (by omega), hτe b (by omega)] at e; exact hτ a b (by omega) (by omega) e
      · intro a ha
        by_cases h1 : a = out
        · subst h1; rw [hτo]; exact hm3
        · rw [hτe a (by omega)]; exact hτ3 a (by omega)
      · intro a ha
        by_cases h1 : a = out
        · subst h1; rw [hT2]; exact hpn'
        · rw [hT3 a (by omega) h1]; have := hTn a (by omega); omega
      · refine ⟨fun a ha => .inl ?_, fun a h1 h2 => ?_, fun t ht => ?_⟩
        · by_cases h1 : a = out
          · subst h1; rw [hT2, hτo, hpx]; exact ⟨hpn', hx⟩
          · have h2 := hdig a (by omega) (fun e => hni a (by omega) e.symm)
            have h3 := hTn a (by omega)
            rw [hT3 a (by omega) h1, hτe a (by omega), hφe _ h3]
            exact ⟨by omega, h2.2⟩
        · rw [hT3 a h2 (by omega)]; exact hTk.2.1 a (by omega) h2
        · have h1 : t ≠ m := by rw [← hτo]; exact ht out (by omega)
          rw [← hoth t h1]
          exact hTk.2.2 t (fun a ha => by rw [← hτe a ha]; exact ht a (by omega))
      · intro _
        refine ⟨by omega, by omega, ?_⟩
        rw [hτo]; exact hm
      · intro i hi
        have e1 : j + 1 - 1 - i = j - i := by omega
        rw [e1, hHnew T i hi]
        by_cases e : i = j
        · rw [if_pos e, e]
          exact knTk_out (knTk_lift hTk hnn hφe) ho hτe hτo hs
        · rw [if_neg e]
          have h1 := hH i (by omega)
          exact knTk_out (knTk_lift h1 hnn hφe) ho hτe hτo (h1.2.2 m hni)
      · refine ⟨l ++ [2 ^ p + 65536 * 32768 + 4294967296 * (knNav T p + 4096 * w)], by simp [hll], by rw [knEnc_snoc, hll, hEc], fun ed hed => ?_⟩
        rcases List.mem_append.mp hed with h | h
        · exact knEd_lift (hEd ed h) hnn hφe (by omega) (by omega) hτe
        · have e := List.mem_singleton.mp h
          subst e
          refine ⟨hw4, p, hpn', hw5, ?_, .inr ⟨hw6, out, by omega, ?_, l', ?_, ?_, ?_, ?_⟩⟩
          · intro c h1 h2
            rw [hw7, kn_wbit hnv h2]
            cases hb : (knNav T p).testBit c
            · exfalso
              rcases (knNav_bit T p c h2).mp hb with e | e | e | e
              · rw [← knDg0] at e
                rcases Nat.lt_or_ge 0 out with h | h
                · have := hTn 0 h; omega
                · have := hTk.2.1 0 h (by omega); omega
              · rw [← knDg1] at e
                rcases Nat.lt_or_ge 1 out with h | h
                · have := hTn 1 h; omega
                · have := hTk.2.1 1 h (by omega); omega
              · rw [← knDg2] at e
                rcases Nat.lt_or_ge 2 out with h | h
                · have := hTn 2 h; omega
                · have := hTk.2.1 2 h (by omega); omega
              · omega
            · rfl
          · intro u hu hne
            rw [hw7, kn_wbit2 hnv]; exact hw3 u hu hne
          · rw [hpx]; exact hl1
          · rw [hpx, hτo, hl2]; exact hX
          · rw [hpx]; exact hl4
          · intro c hc2 hb
            rw [hw7, kn_wbit hnv (by omega)] at hb
            have key : ∀ a, a < 3 → c = knDg T a → φ' c ∉ l' := by
              intro a ha e hmem
              rcases Nat.lt_or_ge a out with h | h
              · have h2 := hdig a h (fun e => hni a h e.symm)
                rw [e, hφe _ (hTn a h)] at hmem
                exact hfr _ (hl3 _ hmem) (τ a) (fun e => hni a h e.symm) h2.2
              · have := hTk.2.1 a h ha; omega
            rcases (knNav_bit T p c (by omega)).mp hb with e | e | e | e
            · rw [← knDg0] at e; exact key 0 (by omega) e
            · rw [← knDg1] at e; exact key 1 (by omega) e
            · rw [← knDg2] at e; exact key 2 (by omega) e
            · rw [e, hpx]; exact (List.nodup_cons.mp hl4).1
  | some y =>
    -- it went elsewhere
    obtain ⟨a, ha, hma⟩ : ∃ a, a < out ∧ m = τ a := by
      apply Classical.byContradiction
      intro hcon
      rw [hTk.2.2 m (fun a ha e => hcon ⟨a, ha, e⟩)] at hs
      cases hs
    have hq' : S j = kn_upd (S (j + 1)) m (some (kn_last x pl)) := by
      rcases hq with e | ⟨_, e⟩
      · exact e
      · rw [e, kn_upd_same] at hs; cases hs
    have hy : kn_last x pl = y := by rw [hq', kn_upd_same] at hs; cases hs; rfl
    have hya : φ (knDg T a) = y := by
      rcases hTk.1 a ha with ⟨_, h⟩ | ⟨h, _⟩
      · rw [← hma, hs] at h; cases h; rfl
      · have := hTn a ha; omega
    have hxy : y ≠ x := by
      intro e
      apply hns
      have : S (j + 1) = S j := by rw [hq', hy, e]; exact (kn_upd_self _ hx).symm
      rw [this]
      exact kn_chain_sol hc j (by omega)
    have hla : last ≠ a := by
      intro e
      obtain ⟨h1, h2, h3⟩ := hlast (by omega)
      apply hns
      have h4 := hc.2 (j - 1) (by omega)
      have e2 : j - 1 + 1 = j := by omega
      rw [e2, h3, e, ← hma] at h4
      obtain ⟨⟨x2, l2, g1, g2, g3, g4⟩, _⟩ := h4
      have e3 : x2 = kn_last x pl := by rw [hs] at g1; cases g1; exact hy.symm
      have hlast2 : kn_last x (pl ++ l2) = kn_last x2 l2 := by rw [kn_last_append, e3]
      have hr2 : kn_run E X m (S (j + 1)) (S (j - 1)) := by
        refine ⟨x, pl ++ l2, hx, (kn_ch_append _ _ _).mpr ⟨hch, e3 ▸ g2⟩, kn_free_append hfr ?_, ?_⟩
        · rw [hq'] at g3; exact (kn_free_upd _).mp g3
        · rw [hlast2]
          rcases g4 with g | ⟨gX, g⟩
          · left; rw [g, hq', kn_upd_upd]
          · right; exact ⟨gX, by rw [g, hq', kn_upd_upd]⟩
      have := kn_sol_re (a := 1) (b := j - 1) (P := S (j + 1)) ⟨m, S (j - 1), hr2, rfl⟩ (kn_chain_sol hc (j - 1) (by omega))
      rw [show 1 + (j - 1) = j by omega] at this
      exact this
    have hlk' : kn_lock E X (S (j + 1)) := by
      rcases hlock with h | h
      · rw [hs] at h; cases h
      · exact h
    obtain ⟨l', hl1, hl2, hl3, hl4⟩ := kn_simple pl.length x pl (Nat.le_refl _) hch
    rw [hy] at hl2
    obtain ⟨l0, hl0⟩ := kn_snoc x l' (by rw [hl2]; exact hxy)
    rw [hl2] at hl0
    have hda := hTn a ha
    have hp16 : p < 16 := by omega
    obtain ⟨hT1, hT2, hT3⟩ := knDg_new T a p (by omega) hp16 hT
    obtain ⟨hU1, hU2, hU3⟩ := knDg_new T a 15 (by omega) (by omega) hT
    have hoa : ∀ b, b < out → b ≠ a → τ b ≠ m := fun b hb hne e => hne (hτ b a hb ha (e.trans hma))
    have hpa : knDg T a ≠ p := by
      intro e
      apply hxy
      rw [← hya, ← hφe _ hda, e, hpx]
    have hfrp : knFr T p = true := by
      refine knFr_of fun b hb => ?_
      rcases Nat.lt_or_ge b out with h | h
      · by_cases e : b = a
        · rw [e]; exact hpa
        · exact (hdig b h (hoa b h e)).1
      · rw [hTk.2.1 b h hb]; omega
    refine ⟨knKid (j, n, out, last, lk, T, H, Ec, c) a p out 1 (2 ^ knDg T a) 0, ?_, ?_⟩
    · have e : knKids (j, n, out, last, lk, T, H, Ec, c) = (cond (Nat.blt out 3) (knKs (j, n, out, last, lk, T, H, Ec, c) out (out + 1) 0 32768 (28672 - 2 ^ (12 + out)) T (n + 1)) []) ++ knMs (j, n, out, last, lk, T, H, Ec, c) last out T n out := rfl
      rw [e]
      exact List.mem_append_right _ (knMs_mem _ _ _ _ _ _ a ha hla _ (knKs_mem _ _ _ _ _ _ _ _ _ (by omega) hfrp))
    · intro hR
      have hnv := knNav_lt (T + 15 * 16 ^ a - knDg T a * 16 ^ a) p
      generalize hU : T + 15 * 16 ^ a - knDg T a * 16 ^ a = U at *
      have h2a : 2 ^ knDg T a < 65536 := Nat.lt_of_lt_of_le (Nat.pow_lt_pow_right (by omega) (by omega : knDg T a < 16)) (by decide)
      obtain ⟨hw4, hw5, hw6, hw7⟩ := @kn_word p (2 ^ knDg T a) (knNav U p + 0) (by omega) h2a (by omega)
      refine hR φ' τ ?_
      show knD E X r S mv (j + 1) (knMx n (p + 1)) out a 1 (T + p * 16 ^ a - knDg T a * 16 ^ a) (T :: H) (Ec + (2 ^ p + 65536 * 2 ^ knDg T a + 4294967296 * (knNav (T + 15 * 16 ^ a - knDg T a * 16 ^ a) p + 0)) * 2 ^ (48 * c)) (c + 1) φ' τ
      rw [hn', hU]
      refine ⟨by omega, by omega, by omega, hφ', hτ, hτ3, ?_, ?_, hT1, fun _ => ⟨by omega, ha, by rw [show j + 1 - 1 = j by omega, hm]; exact hma⟩, fun _ => hlk', by simp [hHl], ?_, ?_⟩
      · intro b hb
        by_cases h1 : b = a
        · rw [h1, hT2]; exact hpn'
        · rw [hT3 b (by omega) h1]; have := hTn b hb; omega
      · refine ⟨fun b hb => .inl ?_, fun b h1 h2 => ?_, fun t ht => ?_⟩
        · by_cases h1 : b = a
          · rw [h1, hT2, hpx, ← hma]; exact ⟨hpn', hx⟩
          · have h2 := hdig b hb (hoa b hb h1)
            have h3 := hTn b hb
            rw [hT3 b (by omega) h1, hφe _ h3]
            exact ⟨by omega, h2.2⟩
        · rw [hT3 b h2 (by omega)]; exact hTk.2.1 b h1 h2
        · have h1 : t ≠ m := by rw [hma]; exact ht a ha
          rw [← hoth t h1]
          exact hTk.2.2 t ht
      · intro i hi
        have e1 : j + 1 - 1 - i = j - i := by omega
        rw [e1, hHnew T i hi]
        by_cases e : i = j
        · rw [if_pos e, e]; exact knTk_lift hTk hnn hφe
        · rw [if_neg e]; exact knTk_lift (hH i (by omega)) hnn hφe
      · refine ⟨l ++ [2 ^ p + 65536 * 2 ^ knDg T a + 4294967296 * (knNav U p + 0)], by simp [hll], by rw [knEnc_snoc, hll, hEc], fun ed hed => ?_⟩
        rcases List.mem_append.mp hed with h | h
        · exact knEd_lift (hEd ed h) hnn hφe (by omega) (by omega) (fun _ _ => rfl)
        · have e := List.mem_singleton.mp h
          subst e
          have hUd : ∀ b, b < 3 → knDg U b < 12 → b < out ∧ b ≠ a ∧ knDg U b = knDg T b := by
            intro b hb h
            by_cases e : b = a
            · rw [e, hU2] at h; omega
            · rw [hU3 b hb e] at h
              rcases Nat.lt_or_ge b out with h2 | h2
              · exact ⟨h2, e, hU3 b hb e⟩
              · have := hTk.2.1 b h2 hb; omega
          refine ⟨hw4, p, hpn', hw5, ?_, .inl ⟨knDg T a, by omega, hw6, l0, ?_, ?_, ?_⟩⟩
          · intro c h1 h2
            rw [hw7, Nat.add_zero]
            cases hb : (knNav U p).testBit c
            · exfalso
              have key : ∀ b, b < 3 → c = knDg U b → False := by
                intro b hb e
                obtain ⟨g1, g2, g3⟩ := hUd b hb (by omega)
                have := hTn b g1; omega
              rcases (knNav_bit U p c h2).mp hb with e | e | e | e
              · rw [← knDg0] at e; exact key 0 (by omega) e
              · rw [← knDg1] at e; exact key 1 (by omega) e
              · rw [← knDg2] at e; exact key 2 (by omega) e
              · omega
            · rfl
          · rw [hpx, hφe _ hda, hya, ← hl0]; exact hl1
          · rw [hpx, hφe _ hda, hya, ← hl0]; exact hl4
          · intro c hc2 hb
            rw [hφe _ hda, hya, ← hl0]
            rw [hw7, Nat.add_zero] at hb
            have key : ∀ b, b < 3 → c = knDg U b → φ' c ∉ l' := by
              intro b hb e hmem
              obtain ⟨g1, g2, g3⟩ := hUd b hb (by omega)
              have h2 := hdig b g1 (hoa b g1 g2)
              rw [e, g3, hφe _ (hTn b g1)] at hmem
              exact hfr _ (hl3 _ hmem) (τ b) (hoa b g1 g2) h2.2
            rcases (knNav_bit U p c (by omega)).mp hb with e | e | e | e
            · rw [← knDg0] at e; exact key 0 (by omega) e
            · rw [← knDg1] at e; exact key 1 (by omega) e
            · rw [← knDg2] at e; exact key 2 (by omega) e
            · rw [e, hpx]; exact (List.nodup_cons.mp hl4).1
