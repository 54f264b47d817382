/-! PLAN of the class: its answer -/
/-- what PLAN answers -/
def kAnsP (k : Rs (Nat × (Nat → Nat × Int))) : Int := k.elim (fun f => -1 - (f.2 : Int)) (fun x => (x.1 : Int))
/-- what a text says as a PLAN -/
noncomputable def zPl' (t : Nat → Int) (n ch : Nat) (nm : Nat → Int) : Rs (Nat × (Nat → Nat × Int)) := kPlan (tk t n 400) (nLd ch nm) 42 0 (fun _ => (0, 0)) 0
theorem kPlan_bad {tk : Nat → Tk} {n : Nat} {S : Ld} (H : tGo tk n) (P : tPl tk n) (s : ∀ q, q ≤ n → (tk q).1 = 3 → q < (tk q).2.2.2) : ∀ (m : Nat) {c p : Nat} {g : Nat → Nat × Int} {f : Int × Nat}, p ≤ n → kPlan tk S m c g p = .inl f → kBad n f := by
  intro m
  induction m with
  | zero =>
    intro c p g f hp e
    rw [kPlan] at e
    cases e
  | succ m ih =>
    intro c p g f hp e
    rw [kPlan] at e
    split at e
    · cases e
    · split at e
      · rename_i f' h1
        cases e; exact kPst_bad H P hp h1
      · rename_i v p1 h1
        exact ih (kPst_go H hp s h1).2.1 e
section Xo
variable {l : Launch} {D : va_G} {cy : Nat → ClassId} {z d bc bs N : Nat} {T : Nat → Nat × Nat} {R : Nat → Nat → Option Nat} {I : Nat → Nat → Int} {K : yKo} {n ch : Nat} {nm : Nat → Int}
theorem x_27 (hT : yLT T) (hR : yLR R) {p q : Nat} (hp : yAtPlan T R p) (hq : yAtPlan T R q) (h1 : p + 2 ≤ q ∨ q + 2 ≤ p) (hk : ∀ I', (∀ k j, ¬ ((k = p ∧ j = 0) ∨ (k = p + 1 ∧ j < 40)) → I' k j = I k j) → I' p 0 = I q 0 → (∀ j, j < 40 → I' (p + 1) j = I (q + 1) j) → K none (N, T, R, I')) :
    yW l zSS D cy zFk z (d + 1) 27 bc bs K 0 0 0 [(0, yr (some p)), (1, yr (some q))] [] (N, T, R, I) := by
  refine B_27_0 hT hR hp hq (fun I1 e1 I2 e2 => hk I2 (fun k j g => by rw [e2, yC_ne (by omega), e1, yU_ne _ _ (by omega)]) (by rw [e2, yC_ne (by omega), e1, yU_eq]) (fun j hj => ?_))
  rw [e2]
  show (if p + 1 = p + 1 ∧ j < 40 then I1 (q + 1) j else I1 (p + 1) j) = I (q + 1) j
  rw [if_pos ⟨rfl, hj⟩, e1, yU_ne _ _ (by omega)]
theorem x_143 (hT : yLT T) (hR : yLR R) (h0 : I 1 1 = (n : Int)) (hn : n ≤ 940) (L : cNm I 4 ch nm)
    (hk : ∀ r I', r = kAnsP (zPl' (I 2) n ch nm) → (∀ k j, ¬ (k = 1 ∨ k = 29 ∨ k = 30 ∨ k = 61 ∨ k = 62) → I' k j = I k j) → I' 1 1 = 0 → I' 1 10 = kFc (zPl' (I 2) n ch nm) → (∀ f, zPl' (I 2) n ch nm = .inl f → I' 29 0 = I 29 0 ∧ ∀ j, I' 30 j = I 30 j) → (∀ c g, zPl' (I 2) n ch nm = .inr (c, g) → c ≤ 40 ∧ I' 29 0 = (c : Int) ∧ ∀ i, i < c → I' 30 i = 4 * (((g i).1 : Nat) : Int) + (g i).2 ∧ (g i).1 < 8 ∧ 0 ≤ (g i).2 ∧ (g i).2 ≤ 3) → K (some (yi r)) (N, T, R, I')) :
    yW l zSS D cy zFk z (d + 9) 143 bc bs K 0 0 0 [(0, yr (some 0))] [] (N, T, R, I) := by
  obtain ⟨t, ht⟩ : ∃ t, I 2 = t := ⟨_, rfl⟩
  rw [ht] at hk
  refine B_143_0 hT hR (x_40 hT hR (n := n) (lim := 400) h0 hn (by omega) (fun I1 f1 r1 => ⟨_, rfl, rfl, ?_⟩))
  have t1 : I1 2 = t := by rw [← ht]; exact funext fun j => f1 2 j (by omega)
  rw [ht] at r1
  have L1 : cNm I1 4 ch nm := ⟨by rw [f1 4 5 (by omega)]; exact L.1, fun i hi => by rw [f1 8 i (by omega)]; exact L.2 i hi⟩
  refine x_28 (d := d) hT hR (a_Plan61 hT hR) (by omega) r1 hn (by omega) t1 L1 (fun f I2 e f2 fl => ⟨_, _, rfl, rfl, fun I4 e4 => ?_⟩) (fun c g I2 e c40 f2 z2 s2 g2 => ⟨_, _, rfl, rfl, fun I4 e4 => ?_⟩)
  · obtain ⟨b1, b2, b3⟩ := kPlan_bad (tk_go t n 400) (fun q hq => tk_pl hq) (fun q hq w => (tk_ok (t := t) (lim := 400) hq).2.2.2.2.1 w) 42 (Nat.zero_le n) e
    have ez : zPl' t n ch nm = .inl f := e
    have q10 : I4 1 10 = f.1 := by rw [e4, yU_ne _ _ (by omega)]; exact fl.1
    have q11 : I4 1 11 = (f.2 : Int) := by rw [e4, yU_ne _ _ (by omega)]; exact fl.2
    have F4 : ∀ k j, ¬ (k = 1 ∨ k = 61 ∨ k = 62) → I4 k j = I k j := fun k j h => by
      rw [e4, yU_ne _ _ (by omega), f2 k j (by omega) (by omega)]; exact f1 k j (by omega)
    refine ⟨fun c => absurd (q10.symm.trans c) (by omega), fun _ => hk _ I4 ?_ (fun k j h => F4 k j (by omega)) (by rw [e4, yU_eq]) (by rw [q10, ez]; rfl) (fun _ _ => ⟨F4 29 0 (by omega), fun j => F4 30 j (by omega)⟩) (fun c g e2 => by rw [ez] at e2; cases e2)⟩
    rw [q11, ysub_eq (by omega) (by omega), ez]
    rfl
  · have ez : zPl' t n ch nm = .inr (c, g) := e
    have q10 : I4 1 10 = 0 := by rw [e4, yU_ne _ _ (by omega)]; exact z2
    have F4 : ∀ k j, ¬ (k = 1 ∨ k = 61 ∨ k = 62) → I4 k j = I k j := fun k j h => by
      rw [e4, yU_ne _ _ (by omega), f2 k j (by omega) (by omega)]; exact f1 k j (by omega)
    have s4 : I4 61 0 = (c : Int) := by rw [e4, yU_ne _ _ (by omega)]; exact s2
    refine ⟨fun _ => ?_, fun q => absurd q10 q⟩
    refine x_27 (d := d + 7) hT hR (a_Plan29 hT hR) (a_Plan61 hT hR) (by omega) (fun I6 f6 v6 w6 => ⟨_, rfl, rfl, ?_⟩)
    refine hk _ I6 (by rw [v6, s4, ez]; rfl) (fun k j h => by rw [f6 k j (by omega)]; exact F4 k j (by omega)) (by rw [f6 1 1 (by omega), e4, yU_eq]) (by rw [f6 1 10 (by omega), q10, ez]; rfl) (fun f e2 => by rw [ez] at e2; cases e2) (fun c' g' e2 => ?_)
    rw [ez] at e2
    cases e2
    refine ⟨c40, by rw [v6]; exact s4, fun i hi => ?_⟩
    rw [w6 i (by omega), show I4 62 i = I2 62 i by rw [e4, yU_ne _ _ (by omega)]]
    exact g2 i hi
end Xo
