/-! KNOTS, 8: the check is sound, whole. -/
theorem kn_lst {f : Bool} {g : knN → List knN → Bool} {S : List knN} (h : @List.rec knN (fun _ => Bool) f (fun nd S' _ => g nd S') S = true) : (S = [] ∧ f = true) ∨ ∃ nd S', S = nd :: S' ∧ g nd S' = true := by
  cases S with
  | nil => exact .inl ⟨rfl, h⟩
  | cons a t => exact .inr ⟨a, t, rfl, h⟩
theorem knGo_ok {E X : Nat → Nat → Prop} {r : Nat} {S : Nat → knP} {mv : Nat → Nat} (hc : kn_chain E X r S mv) (hr : 10 ≤ r) : ∀ (f m k t0 t1 t2 Ec : Nat) (L Hy : List knN) (C : Nat), (∀ h, h ∈ Hy → knR E X r S mv h) → knGo f m k t0 t1 t2 Ec L Hy C = true →
    (m = 4 → ∀ nd, nd ∈ L → knR E X r S mv nd) ∧ (m ≠ 4 → ∃ nd L', L = nd :: L' ∧ (∀ x, x ∈ L' → knR E X r S mv x) ∧ knLf E X r S mv m k t0 t1 t2 Ec nd) := by
  intro f
  induction f with
  | zero => intro m k t0 t1 t2 Ec L Hy C _ h; exact absurd h (fun h => by cases h)
  | succ f ih =>
    intro m k t0 t1 t2 Ec L Hy C hHy h
    have h : knStp (knGo f) m k t0 t1 t2 Ec L Hy C = true := h
    generalize hih : knGo f = go at h ih
    simp only [knStp, knF_eq] at h
    rcases kn_if h with ⟨hm, h⟩ | ⟨hm, h⟩
    · -- a node
      refine ⟨fun _ => ?_, fun h => absurd (kn_beq hm) h⟩
      rcases kn_lst h with ⟨e, _⟩ | ⟨nd, L', e, h⟩
      · subst e; intro nd hnd; exact absurd hnd (by simp)
      · subst e
        obtain ⟨j, n, out, last, lk, T, H, Ev, c⟩ := nd
        simp only [knNode, knF_eq] at h
        rcases kn_cnd h with ⟨_, h⟩ | ⟨_, h⟩
        · -- the nodes ahead
          obtain ⟨hj, h⟩ := kn_cnda h
          obtain ⟨hn, h⟩ := kn_cnda h
          have g := (ih _ _ _ _ _ _ _ _ _ hHy h).1 rfl
          intro nd hnd
          rcases List.mem_cons.mp hnd with e | e
          · subst e
            intro φ τ hD
            obtain ⟨nd2, h1, h2⟩ := kn_kids hc hD (Nat.lt_of_lt_of_le (kn_blt hj) hr) (kn_blt hn)
            exact h2 (g nd2 (List.mem_append_left _ h1))
          · exact g nd (List.mem_append_right _ e)
        · rcases kn_cnd h with ⟨_, h⟩ | ⟨_, h⟩
          · -- a row of runs begins
            obtain ⟨nd2, L2, e, g1, g2⟩ := (ih _ _ _ _ _ _ _ _ _ hHy h).2 (by decide)
            obtain ⟨e1, e2⟩ := List.cons.inj e
            subst e2
            intro nd hnd
            rcases List.mem_cons.mp hnd with e | e
            · subst e
              intro φ τ hD
              rw [← e1] at g2
              refine g2 φ τ hD rfl (S j) (knDg T) hD.2.2.2.2.2.2.2.1 ?_ ?_ ?_ (.inl ⟨rfl, rfl, rfl⟩)
              · rw [knDg0]
              · rw [knDg1]
              · rw [knDg2]
            · exact g1 nd e
          · rcases kn_cnd h with ⟨_, h⟩ | ⟨_, h⟩
            · -- shown elsewhere
              cases Hy with
              | nil => exact absurd h (fun h => by cases h)
              | cons h0 Hy' =>
                have h : cond (knEq h0 (j, n, out, last, lk, T, H, Ev, c)) (go 4 0 0 0 0 0 L' Hy' (C / 256)) false = true := h
                obtain ⟨h1, h⟩ := kn_cnda h
                have g := (ih _ _ _ _ _ _ _ _ _ (fun x hx => hHy x (List.mem_cons_of_mem _ hx)) h).1 rfl
                intro nd hnd
                rcases List.mem_cons.mp hnd with e | e
                · rw [e, ← knEq_ok h1]; exact hHy h0 List.mem_cons_self
                · exact g nd e
            · -- a path splits
              simp only [knSplit, knF_eq] at h
              obtain ⟨he, h⟩ := kn_cnda h
              obtain ⟨hz, h⟩ := kn_cnda h
              rcases kn_cnd h with ⟨_, h⟩ | ⟨hzy, h⟩
              · exact absurd h (fun h => by cases h)
              obtain ⟨hb, h⟩ := kn_cnda h
              have g := (ih _ _ _ _ _ _ _ _ _ hHy h).1 rfl
              intro nd hnd
              rcases List.mem_cons.mp hnd with e | e
              · subst e
                intro φ τ hD
                rcases kn_split hD rfl (kn_blt he) (kn_blt hz) (kn_bne hzy) hb with q | q
                · exact g _ List.mem_cons_self φ τ q
                · exact g _ (List.mem_cons_of_mem _ List.mem_cons_self) φ τ q
              · exact g nd (List.mem_cons_of_mem _ (List.mem_cons_of_mem _ e))
    · -- along a row of runs
      refine ⟨fun e => absurd e (kn_bne hm), fun _ => ?_⟩
      simp only [knLeaf, knF_eq] at h
      rcases kn_if h with ⟨_, h⟩ | ⟨hb3, h⟩
      · -- its end
        cases L with
        | nil => exact absurd h (fun h => by cases h)
        | cons nd L' =>
          obtain ⟨j, n, out, last, lk, T, H, Ev, c⟩ := nd
          simp only [knEnd, knF_eq] at h
          rcases kn_cnd h with ⟨_, h⟩ | ⟨_, h⟩
          · obtain ⟨h1, h⟩ := kn_cnda h
            obtain ⟨h2, h⟩ := kn_cnda h
            obtain ⟨h3, h⟩ := kn_cnda h
            have g := (ih _ _ _ _ _ _ _ _ _ hHy h).1 rfl
            refine ⟨_, L', rfl, g, fun φ τ hD _ Q D hT e0 e1 e2 hI => ?_⟩
            have hD' : knD E X r S mv j n out last lk T H Ev c φ τ := hD
            obtain ⟨hjr, hn12, ho3, hφ, hτ, hτ3, hTn, hTk, hT4, hlast, hlk, _⟩ := hD'
            have hlock := hlk (kn_beq h1)
            rcases hI with ⟨_, hk, _⟩ | ⟨hmo, hk, R, x, l, r1, r2, r3, r4, r5⟩
            · have := kn_beq h2; omega
            · have hk1 := kn_beq h2
              subst hk1
              have hR : S j = R := r1
              subst hR
              rcases r5 with e | ⟨hX, _⟩
              · have h3 := kn_beq h3
                have hDm : 2 ^ D m = 32768 := by
                  have h : m = 0 ∨ m = 1 ∨ m = 2 := by have : out ≤ 3 := ho3; have : m < out := hmo; omega
                  rcases h with q | q | q <;> subst q
                  · rw [← e0]; exact h3
                  · rw [← e1]; exact h3
                  · rw [← e2]; exact h3
                have hDm : D m = 15 := kn_p2 (hDm.trans (by decide))
                rcases hT.1 m hmo with ⟨q, _⟩ | ⟨_, q⟩
                · have : D m < n := q; omega
                · rw [e, kn_upd_same] at q; cases q
              · exact hlock _ x l r2 r3 r4 hX
          · obtain ⟨h1, h⟩ := kn_cnda h
            obtain ⟨h2, h⟩ := kn_cnda h
            obtain ⟨h3, h⟩ := kn_cnda h
            obtain ⟨h4, h⟩ := kn_cnda h
            have g := (ih _ _ _ _ _ _ _ _ _ hHy h).1 rfl
            refine ⟨_, L', rfl, g, fun φ τ hD _ Q D hT e0 e1 e2 hI => ?_⟩
            have hD' : knD E X r S mv j n out last lk T H Ev c φ τ := hD
            obtain ⟨hjr, hn12, ho3, hφ, hτ, hτ3, hTn, hTk, hT4, hlast, hlk, hHl, hH, _⟩ := hD'
            have hle := Nat.le_of_ble_eq_true h1
            generalize C % 256 / 4 = i at *
            have hi : i < j := by omega
            have hTi := hH i hi
            rw [← knNth_ok] at hTi
            generalize knNth H (j - 1 - i) = hw at *
            have hQ : Q = S i := by
              refine knTk_eq hT hTi hn12 (fun a ha => ?_)
              have h : a = 0 ∨ a = 1 ∨ a = 2 := by have : out ≤ 3 := ho3; have : a < out := ha; omega
              rcases h with q | q | q <;> subst q
              · exact kn_p2 (e0.symm.trans ((kn_beq h2).symm.trans (by rw [knDg0])))
              · exact kn_p2 (e1.symm.trans ((kn_beq h3).symm.trans (by rw [knDg1])))
              · exact kn_p2 (e2.symm.trans ((kn_beq h4).symm.trans (by rw [knDg2])))
            have hre := knIP_re hI
            rw [hQ] at hre
            have hs := kn_sol_re hre (kn_chain_sol hc i (by omega))
            have hn := (hc.2 (j - 1) (by omega)).2.1
            rw [show j - 1 + 1 = j by omega] at hn
            exact hn (kn_sol_mono (by omega) hs)
      · -- a path more
        generalize hed : knAt Ec (C % 256 / 4) = ed at h
        generalize hbm : C % 256 % 4 = bm at h
        have hbm3 : bm = 0 ∨ bm = 1 ∨ bm = 2 := by have := kn_bne hb3; omega
        have hedk : ∀ nd : knN, ∀ φ τ, knD E X r S mv nd.1 nd.2.1 nd.2.2.1 nd.2.2.2.1 nd.2.2.2.2.1 nd.2.2.2.2.2.1 nd.2.2.2.2.2.2.1 nd.2.2.2.2.2.2.2.1 nd.2.2.2.2.2.2.2.2 φ τ → Ec = nd.2.2.2.2.2.2.2.1 → ed ≠ 0 → knEd E X nd.2.1 nd.2.2.1 φ τ ed := by
          intro nd φ τ hD hE hne
          obtain ⟨_, _, _, _, _, _, _, _, _, _, _, _, _, l, _, hEc, hEd⟩ := hD
          rw [hE, hEc, knEnc_at _ _ (fun a ha => (hEd a ha).1)] at hed
          apply hEd
          rw [← hed]
          by_cases hl : C % 256 / 4 < l.length
          · have : l.getD (C % 256 / 4) 0 = l[C % 256 / 4] := by simp [List.getD, hl]
            rw [this]; exact List.getElem_mem hl
          · exfalso; apply hne; rw [← hed]; simp [List.getD, hl]
        rcases hbm3 with e | e | e <;> subst e
        · have h : knMv ed t0 t1 t2 4096 (fun t => go 0 (@Bool.rec (fun _ => Nat) (k + 1) k (Nat.beq 0 m)) t t1 t2 Ec L Hy (C / 256)) = true := h
          simp only [knMv, knF_eq] at h
          obtain ⟨h1, h⟩ := kn_and h
          obtain ⟨h2, h⟩ := kn_and h
          obtain ⟨nd, L', e, g1, g2⟩ := (ih _ _ _ _ _ _ _ _ _ hHy h).2 (by decide)
          refine ⟨nd, L', e, g1, fun φ τ hD hE Q D hT e0 e1 e2 hI => ?_⟩
          subst e0 e1 e2
          obtain ⟨Q', D', k1, k2, k3, k4⟩ := knMv_ok (m' := 0) hD.2.1 hD.2.2.1 hD.2.2.2.2.1 hT hI (by omega) (hedk nd φ τ hD hE) h1 h2 (fun a ha hn => by
            have h : a = 1 ∨ a = 2 := by omega
            rcases h with q | q <;> subst q <;> simp)
          exact g2 φ τ hD hE Q' D' k1 k3.symm (by rw [k4 1 (by decide)]) (by rw [k4 2 (by decide)]) k2
        · have h : knMv ed t1 t0 t2 8192 (fun t => go 1 (@Bool.rec (fun _ => Nat) (k + 1) k (Nat.beq 1 m)) t0 t t2 Ec L Hy (C / 256)) = true := h
          simp only [knMv, knF_eq] at h
          obtain ⟨h1, h⟩ := kn_and h
          obtain ⟨h2, h⟩ := kn_and h
          obtain ⟨nd, L', e, g1, g2⟩ := (ih _ _ _ _ _ _ _ _ _ hHy h).2 (by decide)
          refine ⟨nd, L', e, g1, fun φ τ hD hE Q D hT e0 e1 e2 hI => ?_⟩
          subst e0 e1 e2
          obtain ⟨Q', D', k1, k2, k3, k4⟩ := knMv_ok (m' := 1) hD.2.1 hD.2.2.1 hD.2.2.2.2.1 hT hI (by omega) (hedk nd φ τ hD hE) h1 h2 (fun a ha hn => by
            have h : a = 0 ∨ a = 2 := by omega
            rcases h with q | q <;> subst q <;> simp)
          exact g2 φ τ hD hE Q' D' k1 (by rw [k4 0 (by decide)]) k3.symm (by rw [k4 2 (by decide)]) k2
        · have h : knMv ed t2 t0 t1 16384 (fun t => go 2 (@Bool.rec (fun _ => Nat) (k + 1) k (Nat.beq 2 m)) t0 t1 t Ec L Hy (C / 256)) = true := h
          simp only [knMv, knF_eq] at h
          obtain ⟨h1, h⟩ := kn_and h
          obtain ⟨h2, h⟩ := kn_and h
          obtain ⟨nd, L', e, g1, g2⟩ := (ih _ _ _ _ _ _ _ _ _ hHy h).2 (by decide)
          refine ⟨nd, L', e, g1, fun φ τ hD hE Q D hT e0 e1 e2 hI => ?_⟩
          subst e0 e1 e2
          obtain ⟨Q', D', k1, k2, k3, k4⟩ := knMv_ok (m' := 2) hD.2.1 hD.2.2.1 hD.2.2.2.2.1 hT hI (by omega) (hedk nd φ τ hD hE) h1 h2 (fun a ha hn => by
            have h : a = 0 ∨ a = 1 := by omega
            rcases h with q | q <;> subst q <;> simp)
          exact g2 φ τ hD hE Q' D' k1 (by rw [k4 0 (by decide)]) (by rw [k4 1 (by decide)]) k3.symm k2
theorem knTree_ok {E X : Nat → Nat → Prop} {r : Nat} {S : Nat → knP} {mv : Nat → Nat} (hc : kn_chain E X r S mv) (hr : 10 ≤ r) {f C : Nat} {nd : knN} {Hy : List knN} (h : knTree f nd Hy C = true) (hHy : ∀ h, h ∈ Hy → knR E X r S mv h) : knR E X r S mv nd :=
  (knGo_ok hc hr f 4 0 0 0 0 0 [nd] Hy C hHy h).1 rfl nd List.mem_cons_self
def knRoot : knN := (0, 0, 0, 3, 0, 4095, [], 0, 0)
theorem knRoot_D {E X : Nat → Nat → Prop} {r : Nat} {S : Nat → knP} {mv : Nat → Nat} (hc : kn_chain E X r S mv) (h : knR E X r S mv knRoot) : False := by
  have key : knD E X r S mv 0 0 0 3 0 4095 [] 0 0 (fun a => a) (fun a => a) := by
    refine ⟨Nat.zero_le r, by omega, by omega, fun a b ha => absurd ha (by omega), fun a b ha => absurd ha (by omega), fun a ha => absurd ha (by omega), fun a ha => absurd ha (by omega), ⟨fun a ha => absurd ha (by omega), fun a _ ha => ?_, fun t _ => ?_⟩, by omega, fun h => absurd h (by omega), fun h => absurd h (by omega), rfl, fun i hi => absurd hi (by omega), [], rfl, rfl, fun ed h => absurd h (by simp)⟩
    · have h : a = 0 ∨ a = 1 ∨ a = 2 := by omega
      rcases h with q | q | q <;> subst q
      · rw [knDg0]
      · rw [knDg1]
      · rw [knDg2]
    · have : S 0 = kn_none := hc.1
      rw [this]; rfl
  exact h _ _ key
