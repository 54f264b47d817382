/-! SENTENCE: its parts never want answers that are not there (pure) -/
def gW (s : Sn) (j : Nat) : Int := if j % 3 = 0 then wM (s.2.2 (j / 3)).1 else if j % 3 = 1 then (s.2.2 (j / 3)).2.1 else (s.2.2 (j / 3)).2.2
theorem gW_0 (s : Sn) (i : Nat) : gW s (3 * i) = wM (s.2.2 i).1 := by
  unfold gW
  rw [if_pos (by omega), show 3 * i / 3 = i by omega]
theorem gW_1 (s : Sn) (i : Nat) : gW s (3 * i + 1) = (s.2.2 i).2.1 := by
  unfold gW
  rw [if_neg (by omega), if_pos (by omega), show (3 * i + 1) / 3 = i by omega]
theorem gW_2 (s : Sn) (i : Nat) : gW s (3 * i + 2) = (s.2.2 i).2.2 := by
  unfold gW
  rw [if_neg (by omega), if_neg (by omega), show (3 * i + 2) / 3 = i by omega]
section Wf
variable {s s' : Sn} {w c v : Int} {a : Nat}
theorem gW_add {j : Nat} (h : j < 3 * s.2.1) : gW (sAdd s w c v) j = gW s j := by
  have e : (sAdd s w c v).2.2 (j / 3) = s.2.2 (j / 3) := if_neg (by omega)
  unfold gW
  rw [e]
theorem gW_last : (sAdd s w c v).2.2 s.2.1 = (w, c, v) := if_pos rfl
def Wf (s : Sn) (a : Nat) : Prop := mD (gW s) s.2.1 = some a ∧ mOp (gW s) s.2.1
theorem Wf_op (h : mOp (gW s) s.2.1) (hw : wM w = 2 → 0 ≤ v ∧ v < 8) : mOp (gW (sAdd s w c v)) (s.2.1 + 1) := by
  intro i hi e
  by_cases q : i = s.2.1
  · rw [gW_0, q, gW_last] at e
    rw [gW_2, q, gW_last]
    exact hw e
  · rw [gW_add (by omega)] at e ⊢
    exact h i (by omega) e
theorem Wf_d : mD (gW (sAdd s w c v)) s.2.1 = mD (gW s) s.2.1 := mD_cg s.2.1 (fun j hj => gW_add hj)
theorem Wf_k : gW (sAdd s w c v) (3 * s.2.1) = wM w := by rw [gW_0, gW_last]
theorem Wf_leaf (h : Wf s a) (hw : 0 ≤ wM w ∧ wM w ≤ 8) (hv : wM w = 2 → 0 ≤ v ∧ v < 8) : Wf (sAdd s w c v) (a + 1) := by
  show mD (gW (sAdd s w c v)) (s.2.1 + 1) = some (a + 1) ∧ mOp (gW (sAdd s w c v)) (s.2.1 + 1)
  exact ⟨mD_leaf (by rw [Wf_d]; exact h.1) (by rw [Wf_k]; omega) (by rw [Wf_k]; omega) (by rw [Wf_k]; omega), Wf_op h.2 hv⟩
theorem Wf_not (h : Wf s (a + 1)) : Wf (sAdd s 18 0 0) (a + 1) := by
  show mD (gW (sAdd s 18 0 0)) (s.2.1 + 1) = some (a + 1) ∧ mOp (gW (sAdd s 18 0 0)) (s.2.1 + 1)
  exact ⟨mD_not (by rw [Wf_d]; exact h.1) (by rw [Wf_k]; exact wM18) (by omega), Wf_op h.2 (fun q => absurd q (by decide))⟩
theorem Wf_join (hw : w = 16 ∨ w = 17) (h : Wf s (a + 2)) : Wf (sAdd s w 0 0) (a + 1) := by
  show mD (gW (sAdd s w 0 0)) (s.2.1 + 1) = some (a + 1) ∧ mOp (gW (sAdd s w 0 0)) (s.2.1 + 1)
  have e : wM w = 21 ∨ wM w = 22 := by
    rcases hw with q | q
    · exact .inr (by rw [q]; decide)
    · exact .inl (by rw [q]; decide)
  exact ⟨mD_join (d := a + 2) (by rw [Wf_d]; exact h.1) (by rw [Wf_k]; exact e) (by omega), Wf_op h.2 (fun q => by omega)⟩
theorem Wf_0 : Wf Sn0 0 := ⟨rfl, fun i hi => absurd hi (Nat.not_lt_zero i)⟩
end Wf
section Wg
variable {tk : Nat → Tk} {S : Ld} {one : Sn → Nat → Rs (Sn × Nat)}
def sWf (one : Sn → Nat → Rs (Sn × Nat)) : Prop := ∀ (s : Sn) (p : Nat) (s' : Sn) (p' a : Nat), one s p = .inr (s', p') → Wf s a → Wf s' (a + 1)
theorem kLoop_wf (h : sWf one) {w : Int} (hw : w = 16 ∨ w = 17) : ∀ (m : Nat) {s s' : Sn} {p p' a : Nat}, kLoop tk one w m s p = .inr (s', p') → Wf s (a + 1) → Wf s' (a + 1) := by
  intro m
  induction m with
  | zero =>
    intro s s' p p' a e q
    rw [kLoop] at e
    cases e; exact q
  | succ m ih =>
    intro s s' p p' a e q
    rw [kLoop] at e
    split at e
    · split at e
      · cases e
      · rename_i s2 p2 h1
        exact ih e (Wf_join hw (h s _ s2 p2 (a + 1) h1 q))
    · cases e; exact q
theorem kSeq_wf (h : sWf one) {w : Int} (hw : w = 16 ∨ w = 17) : sWf (kSeq tk one w) := by
  intro s p s' p' a e q
  unfold kSeq at e
  split at e
  · cases e
  · rename_i s1 p1 h1
    exact kLoop_wf h hw 20 e (h s p s1 p1 a h1 q)
theorem kName_lt {p c : Nat} (e : kName tk S p = .inr c) : c < S.ch := by
  unfold kName at e
  split at e
  · cases e
  · split at e
    · cases e
    · rename_i c1
      cases e
      unfold kFind at c1 ⊢
      cases hq : (List.range S.ch).find? (fun i => decide (S.nm i = (tk p).2.2.1)) with
      | none => rw [hq] at c1; exact absurd rfl c1
      | some q =>
        have := List.mem_range.mp (List.mem_of_find?_eq_some hq)
        show ((q : Nat) : Int).toNat < S.ch
        omega
theorem kPlain_wf (hS : S.ch ≤ 8) {s s' : Sn} {w : Int} {p p' a : Nat} (hw : w = 7 ∨ (9 ≤ w ∧ w ≤ 11) ∨ (19 ≤ w ∧ w ≤ 23)) (e : kPlain tk S s w p = .inr (s', p')) (q : Wf s a) : Wf s' (a + 1) := by
  have lf := wM_leaf hw
  have w8 : 0 ≤ wM w ∧ wM w ≤ 8 := by
    unfold wM
    repeat' split
    all_goals omega
  unfold kPlain at e
  split at e
  · cases e; exact Wf_leaf q w8 (fun g => by omega)
  · split at e
    · split at e
      · cases e
      · rename_i c' h1
        cases e
        have := kName_lt h1
        exact Wf_leaf q w8 (fun _ => by omega)
    · split at e
      · cases e
      · split at e
        · cases e
        · cases e; exact Wf_leaf q w8 (fun g => by omega)
theorem kOne_wf (hS : S.ch ≤ 8) : ∀ e, sWf (kOne tk S e) := by
  intro e
  induction e with
  | zero =>
    intro s p s' p' a q
    rw [kOne] at q
    split at q <;> cases q
  | succ e ih =>
    intro s p s' p' a q g
    have g1 : Wf (sOne s) a := g
    rw [kOne] at q
    split at q
    · cases q
    · rename_i nb
      split at q
      · cases q
      · split at q
        · split at q
          · cases q
          · rename_i s2 p2 h1
            have a1 := kSeq_wf (kSeq_wf ih (.inr rfl)) (.inl rfl) (sOne s) _ s2 p2 a h1 g1
            split at q
            · cases q
            · cases q; exact a1
        · rename_i n40
          split at q
          · split at q
            · cases q
            · rename_i s2 p2 h1
              have u := Wf_not (ih (sOne s) _ s2 p2 a h1 g1)
              cases q
              exact u
          · rename_i n18
            refine kPlain_wf hS ?_ q g1
            have b : kBegins tk p := Classical.not_not.mp nb
            rcases b with b | b | b | b
            · exact absurd b n40
            · have := b.2; omega
            · have := b.2; omega
            · have := b.2; omega
theorem kSent_wf (hS : S.ch ≤ 8) {s : Sn} (e : kSent tk S = .inr s) : Wf s 1 := by
  unfold kSent at e
  split at e
  · cases e
  · rename_i s' p h1
    split at e
    · cases e
      exact kSeq_wf (kSeq_wf (kOne_wf hS 8) (.inr rfl)) (.inl rfl) Sn0 0 s p 0 h1 Wf_0
    · cases e
theorem mCo_sn {X : Nat → Nat → Int} {c : Sn} (hW : Wf c 1) (h39 : c.2.1 ≤ 39) (h0 : X 104 1007 = (c.2.1 : Int)) (hr : ∀ i, i < c.2.1 → X 104 (1008 + 3 * i) = wM (c.2.2 i).1 ∧ X 104 (1009 + 3 * i) = (c.2.2 i).2.1 ∧ X 104 (1010 + 3 * i) = (c.2.2 i).2.2) : mCo X := by
  have e : ∀ j, j < 3 * c.2.1 → X 104 (1008 + j) = gW c j := fun j hj => by
    obtain ⟨h1, h2, h3⟩ := hr (j / 3) (by omega)
    rcases (show j = 3 * (j / 3) ∨ j = 3 * (j / 3) + 1 ∨ j = 3 * (j / 3) + 2 by omega) with q | q | q
    · have e1 : gW c j = wM (c.2.2 (j / 3)).1 := by rw [← gW_0, ← q]
      rw [e1, ← h1, ← q]
    · have e1 : gW c j = (c.2.2 (j / 3)).2.1 := by rw [← gW_1, ← q]
      rw [e1, ← h2, show 1009 + 3 * (j / 3) = 1008 + j by omega]
    · have e1 : gW c j = (c.2.2 (j / 3)).2.2 := by rw [← gW_2, ← q]
      rw [e1, ← h3, show 1010 + 3 * (j / 3) = 1008 + j by omega]
  exact ⟨c.2.1, 1, h0, by omega, mOp_cg e hW.2, by rw [mD_cg (g := gW c) c.2.1 e]; exact hW.1⟩
end Wg
