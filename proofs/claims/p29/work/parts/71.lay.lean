/-! printed by wip/whole/y/gen71.py: where the fresh pair lies; weakening; facts by method -/
def yU (I : Nat → Nat → Int) (k j : Nat) (v : Int) : Nat → Nat → Int := fun a b => if a = k ∧ b = j then v else I a b
def yC (I : Nat → Nat → Int) (q q' n : Nat) : Nat → Nat → Int := fun a b => if a = q' ∧ b < n then I q b else I a b
def yT0 (k : Nat) : Nat × Nat := ([(20, 10), (13, 12), (0, 940), (19, 4), (11, 15), (1, 100), (1, 100), (1, 5), (2, 8), (1, 8), (1, 8), (1, 8), (1, 8), (1, 8), (3, 8), (1, 3), (15, 14), (1, 100), (1, 8), (1, 8), (1, 8), (1, 8), (1, 8), (1, 8), (1, 8), (1, 8), (1, 8), (1, 8), (1, 300), (12, 2), (1, 40), (14, 5), (1, 40), (1, 40), (1, 40), (19, 4), (11, 15), (1, 100), (1, 100), (1, 5), (2, 8), (1, 8), (1, 8), (1, 8), (1, 8), (1, 8), (3, 8), (1, 3), (15, 14), (1, 100), (1, 8), (1, 8), (1, 8), (1, 8), (1, 8), (1, 8), (1, 8), (1, 8), (1, 8), (1, 8), (1, 300), (12, 2), (1, 40), (14, 5), (1, 40), (1, 40), (1, 40), (17, 8), (15, 14), (1, 100), (1, 8), (1, 8), (1, 8), (1, 8), (1, 8), (1, 8), (1, 8), (1, 8), (1, 8), (1, 8), (1, 300), (1, 8), (1, 8), (2, 8), (3, 8), (18, 5), (1, 800), (1, 800), (1, 100), (10, 2), (4, 8), (16, 14), (1, 3), (1, 3), (1, 3), (1, 3), (1, 144), (1, 36), (0, 0), (1, 0), (1, 0), (5, 2), (21, 57), (0, 940), (1, 1188), (1, 458), (1, 135), (2, 16), (2, 24), (1, 800), (1, 100), (1, 8), (1, 8), (1, 3744), (1, 468), (1, 50653), (1, 50653), (1, 3), (1, 400), (1, 8), (1, 3), (1, 45), (3, 45), (1, 2376), (2, 16), (3, 2)] : List (Nat × Nat)).getD k (0, 0)
def yR0 (k j : Nat) : Option Nat := (([[some 1, some 3, some 35, some 67, some 89, some 91, some 101, none, none, none], [some 2, none, none, none, none, none, none, none, none, none, none, none], [], [some 4, some 16, some 29, some 31], [none, none, some 5, some 6, some 7, none, some 8, some 9, some 10, some 11, some 12, some 13, some 14, some 15, none], [], [], [], [], [], [], [], [], [], [], [], [none, some 17, some 18, some 19, some 20, some 21, some 22, some 23, some 24, some 25, some 26, some 27, none, some 28], [], [], [], [], [], [], [], [], [], [], [], [], [none, some 30], [], [none, some 32, some 33, some 34, none], [], [], [], [some 36, some 48, some 61, some 63], [none, none, some 37, some 38, some 39, none, some 40, some 41, some 42, some 43, some 44, some 45, some 46, some 47, none], [], [], [], [], [], [], [], [], [], [], [], [none, some 49, some 50, some 51, some 52, some 53, some 54, some 55, some 56, some 57, some 58, some 59, none, some 60], [], [], [], [], [], [], [], [], [], [], [], [], [none, some 62], [], [none, some 64, some 65, some 66, none], [], [], [], [some 4, some 85, some 68, some 81, some 82, some 83, some 84, none], [none, some 69, some 70, some 71, some 72, some 73, some 74, some 75, some 76, some 77, some 78, some 79, none, some 80], [], [], [], [], [], [], [], [], [], [], [], [], [], [], [], [], [some 4, some 86, some 87, some 88, none], [], [], [], [some 90, none], [], [none, none, none, some 92, some 93, some 94, some 95, some 96, some 97, some 98, some 99, none, some 100, none], [], [], [], [], [], [], [], [], [], [], [none, some 103, none, none, none, none, some 104, some 105, some 106, some 107, some 108, none, none, none, none, none, none, none, none, none, none, none, none, none, some 109, some 110, some 111, some 112, none, none, none, none, none, some 113, some 114, none, some 115, some 116, some 117, some 118, none, none, none, some 119, none, some 120, none, some 121, none, none, none, none, none, some 122, some 123, some 124, some 125], [], [], [], [], [], [], [], [], [], [], [], [], [], [], [], [], [], [], [], [], [], [], []] : List (List (Option Nat))).getD k []).getD j none
def yS0 (k j : Nat) : Bool := (([[true, true, true, true, true, true, true, false, false, false], [true, false, false, false, false, false, false, false, false, false, false, false], [], [true, true, true, true], [false, false, true, true, true, false, true, true, true, true, true, true, true, true, false], [], [], [], [], [], [], [], [], [], [], [], [false, true, true, true, true, true, true, true, true, true, true, true, false, true], [], [], [], [], [], [], [], [], [], [], [], [], [false, true], [], [false, true, true, true, false], [], [], [], [true, true, true, true], [false, false, true, true, true, false, true, true, true, true, true, true, true, true, false], [], [], [], [], [], [], [], [], [], [], [], [false, true, true, true, true, true, true, true, true, true, true, true, false, true], [], [], [], [], [], [], [], [], [], [], [], [], [false, true], [], [false, true, true, true, false], [], [], [], [true, true, true, true, true, true, true, false], [false, true, true, true, true, true, true, true, true, true, true, true, false, true], [], [], [], [], [], [], [], [], [], [], [], [], [], [], [], [], [true, true, true, true, false], [], [], [], [true, false], [], [false, false, false, true, true, true, true, true, true, false, false, false, false, false], [], [], [], [], [], [], [], [], [], [], [false, true, false, false, false, false, true, true, true, true, true, false, false, false, false, false, false, false, false, false, false, false, false, false, true, true, true, true, false, false, false, false, false, true, true, false, true, true, true, true, false, false, false, true, false, true, false, true, false, false, false, false, false, true, true, true, true], [], [], [], [], [], [], [], [], [], [], [], [], [], [], [], [], [], [], [], [], [], [], []] : List (List Bool)).getD k []).getD j false
def yTLand (j : Nat) : Nat × Nat := ([(11, 15), (1, 100), (1, 100), (1, 5), (2, 8), (1, 8), (1, 8), (1, 8), (1, 8), (1, 8), (3, 8), (1, 3)] : List (Nat × Nat)).getD j (0, 0)
def yOLand (j : Nat) : Nat := ([0, 0, 1, 2, 3, 0, 4, 5, 6, 7, 8, 9, 10, 11, 0] : List Nat).getD j 0
def ySLand (j : Nat) : Bool := ([false, false, true, true, true, false, true, true, true, true, true, true, true, true, false] : List Bool).getD j false
/-- an object of class Land with its rows lies from p on -/
def yAtLand (T : Nat → Nat × Nat) (R : Nat → Nat → Option Nat) (p : Nat) : Prop := (∀ j, Nat.blt j 12 = true → T (p + j) = yTLand j) ∧ ∀ j, ySLand j = true → R p j = some (p + yOLand j)
def yTState (j : Nat) : Nat × Nat := ([(15, 14), (1, 100), (1, 8), (1, 8), (1, 8), (1, 8), (1, 8), (1, 8), (1, 8), (1, 8), (1, 8), (1, 8), (1, 300)] : List (Nat × Nat)).getD j (0, 0)
def yOState (j : Nat) : Nat := ([0, 1, 2, 3, 4, 5, 6, 7, 8, 9, 10, 11, 0, 12] : List Nat).getD j 0
def ySState (j : Nat) : Bool := ([false, true, true, true, true, true, true, true, true, true, true, true, false, true] : List Bool).getD j false
/-- an object of class State with its rows lies from p on -/
def yAtState (T : Nat → Nat × Nat) (R : Nat → Nat → Option Nat) (p : Nat) : Prop := (∀ j, Nat.blt j 13 = true → T (p + j) = yTState j) ∧ ∀ j, ySState j = true → R p j = some (p + yOState j)
def yTPlan (j : Nat) : Nat × Nat := ([(12, 2), (1, 40)] : List (Nat × Nat)).getD j (0, 0)
def yOPlan (j : Nat) : Nat := ([0, 1] : List Nat).getD j 0
def ySPlan (j : Nat) : Bool := ([false, true] : List Bool).getD j false
/-- an object of class Plan with its rows lies from p on -/
def yAtPlan (T : Nat → Nat × Nat) (R : Nat → Nat → Option Nat) (p : Nat) : Prop := (∀ j, Nat.blt j 2 = true → T (p + j) = yTPlan j) ∧ ∀ j, ySPlan j = true → R p j = some (p + yOPlan j)
def yTSentence (j : Nat) : Nat × Nat := ([(14, 5), (1, 40), (1, 40), (1, 40)] : List (Nat × Nat)).getD j (0, 0)
def yOSentence (j : Nat) : Nat := ([0, 1, 2, 3, 0] : List Nat).getD j 0
def ySSentence (j : Nat) : Bool := ([false, true, true, true, false] : List Bool).getD j false
/-- an object of class Sentence with its rows lies from p on -/
def yAtSentence (T : Nat → Nat × Nat) (R : Nat → Nat → Option Nat) (p : Nat) : Prop := (∀ j, Nat.blt j 4 = true → T (p + j) = yTSentence j) ∧ ∀ j, ySSentence j = true → R p j = some (p + yOSentence j)
def yTWorld (j : Nat) : Nat × Nat := ([(19, 4), (11, 15), (1, 100), (1, 100), (1, 5), (2, 8), (1, 8), (1, 8), (1, 8), (1, 8), (1, 8), (3, 8), (1, 3), (15, 14), (1, 100), (1, 8), (1, 8), (1, 8), (1, 8), (1, 8), (1, 8), (1, 8), (1, 8), (1, 8), (1, 8), (1, 300), (12, 2), (1, 40), (14, 5), (1, 40), (1, 40), (1, 40)] : List (Nat × Nat)).getD j (0, 0)
def yOWorld (j : Nat) : Nat := ([1, 13, 26, 28] : List Nat).getD j 0
def ySWorld (j : Nat) : Bool := ([true, true, true, true] : List Bool).getD j false
/-- an object of class World with its rows lies from p on -/
def yAtWorld (T : Nat → Nat × Nat) (R : Nat → Nat → Option Nat) (p : Nat) : Prop := (∀ j, Nat.blt j 32 = true → T (p + j) = yTWorld j) ∧ ∀ j, ySWorld j = true → R p j = some (p + yOWorld j)
/-- the fresh pair's cells are where they were made, and refer as they did -/
def yLT (T : Nat → Nat × Nat) : Prop := ∀ k, Nat.blt k 126 = true → T k = yT0 k
def yLR (R : Nat → Nat → Option Nat) : Prop := ∀ k j, yS0 k j = true → R k j = yR0 k j
def yPk (lo : yL) : List Nat → Option yL
  | [] => some []
  | i :: t => match yLd lo i, yPk lo t with
    | some v, some l => some ((i, v) :: l)
    | _, _ => none
section Sy
variable {l : Launch} {S : zS} {D : va_G} {cy : Nat → ClassId} {Fk : Nat → Nat → Nat} {z : Nat} {d mi bc bs nc ns pc : Nat} {lo : yL} {st : List yV} {h : yHp} {K : yKo}
theorem yPk_to {ad : Nat → Nat} {bn : Nat} {lo : yL} {lv : List (Nat × Value)} (hg : yGl ad bn lo lv) : ∀ (is : List Nat) (lo' : yL), yPk lo is = some lo' → ∃ lv', yGl ad bn lo' lv' ∧ ∀ q ∈ lv', q ∈ lv := by
  intro is
  induction is with
  | nil => intro lo' h; cases h; exact ⟨[], rfl, fun q h => absurd h List.not_mem_nil⟩
  | cons i t ih =>
    intro lo' h
    simp only [yPk] at h
    split at h
    · rename_i v l hv hl
      cases h
      obtain ⟨lv', g1, g2⟩ := ih l hl
      obtain ⟨k, w, hk, hw⟩ := yGl_at hg hv
      refine ⟨(i, w) :: lv', ⟨w, lv', rfl, hw, g1⟩, fun q hq => ?_⟩
      rcases List.mem_cons.mp hq with e | e
      · rw [e]; exact List.mem_of_getElem? hk
      · exact g2 q e
    · cases h
theorem e_lo (is : List Nat) {lo' : yL} (hp : yPk lo is = some lo') (hk : yW l S D cy Fk z d mi bc bs K nc ns pc lo' st h) : yW l S D cy Fk z d mi bc bs K nc ns pc lo st h := by
  intro p e s m args below meth c C ad0 n0 ad hA hN hB H locs ls lv vs ws hR hP hD hS hl hlo hst
  obtain ⟨lv', g1, g2⟩ := yPk_to hlo is lo' hp
  exact hk p e s m args below meth c C ad0 n0 ad hA hN hB H locs ls lv' vs ws hR hP hD hS ⟨hl.1, hl.2.1, fun q hq => hl.2.2 q (g2 q hq)⟩ g1 hst
theorem e_90r {G : yGl0} {pl : List (List Nat)} (A : yAll S G Fk pl) {a b c x y nx : Nat} (hr : yRowB S G pl mi (pc, 90, a, b, c, x, y, nx) = true) {q n q2 : Nat} {r : Option Nat} (hr' : r = some q) (ht : yTy h q = (10 + a, n)) (hn : ((sCl S)[a]?).map (fun t => t.2.2) = some n) (hs : Fk a b = 2) (hq : yR h q b = some q2) (hk : yW l S D cy Fk z d mi bc bs K nc ns nx lo (yr (some q2) :: st) h) : yW l S D cy Fk z d mi bc bs K nc ns pc lo (yr r :: st) h := by
  refine e_90 A hr hr' ht hn hs ?_
  show yW l S D cy Fk z d mi bc bs K nc ns nx lo (yr (yR h q b) :: st) h
  rw [hq]
  exact hk
theorem e_K {K' : yKo} (hK : ∀ r h', K r h' → K' r h') (hk : yW l S D cy Fk z d mi bc bs K nc ns pc lo st h) : yW l S D cy Fk z d mi bc bs K' nc ns pc lo st h := by
  intro p e s m args below meth c C ad0 n0 ad hA hN hB H locs ls lv vs ws hR hP hD hS hl hlo hst
  have g := hk p e s m args below meth c C ad0 n0 ad hA hN hB H locs ls lv vs ws hR hP hD hS hl hlo hst
  intro X hX Y
  obtain ⟨t, a, o, b1, b2, b3⟩ := g X hX Y
  refine ⟨t, a, o, b1, b2, ?_⟩
  rcases b3 with ⟨⟨r, h', v, ad', ws', q1, q⟩, b4⟩ | ⟨q0, e0, E, ce, L, ⟨u, hu, ⟨eE, hz, h', ad', ws', q1, q⟩, hF⟩, b4⟩
  · exact .inl ⟨⟨r, h', v, ad', ws', ⟨hK _ _ q1.1, q1.2⟩, q⟩, b4⟩
  · exact .inr ⟨q0, e0, E, ce, L, ⟨u, hu, ⟨eE, hz, h', ad', ws', hK _ _ q1, q⟩, hF⟩, b4⟩
end Sy
theorem f_0 {pc : Nat} {e : zE} (h : yFt zc_0 pc = some e) : yRowB zSS zGG zPl 0 e = true := (yFt_ok zr_0 h).1
theorem f_1 {pc : Nat} {e : zE} (h : yFt zc_1 pc = some e) : yRowB zSS zGG zPl 1 e = true := (yFt_ok zr_1 h).1
theorem f_2 {pc : Nat} {e : zE} (h : yFt zc_2 pc = some e) : yRowB zSS zGG zPl 2 e = true := (yFt_ok zr_2 h).1
theorem f_3 {pc : Nat} {e : zE} (h : yFt zc_3 pc = some e) : yRowB zSS zGG zPl 3 e = true := (yFt_ok zr_3 h).1
theorem f_4 {pc : Nat} {e : zE} (h : yFt zc_4 pc = some e) : yRowB zSS zGG zPl 4 e = true := (yFt_ok zr_4 h).1
theorem f_5 {pc : Nat} {e : zE} (h : yFt zc_5 pc = some e) : yRowB zSS zGG zPl 5 e = true := (yFt_ok zr_5 h).1
theorem f_6 {pc : Nat} {e : zE} (h : yFt zc_6 pc = some e) : yRowB zSS zGG zPl 6 e = true := (yFt_ok zr_6 h).1
theorem f_7 {pc : Nat} {e : zE} (h : yFt zc_7 pc = some e) : yRowB zSS zGG zPl 7 e = true := (yFt_ok zr_7 h).1
theorem f_8 {pc : Nat} {e : zE} (h : yFt zc_8 pc = some e) : yRowB zSS zGG zPl 8 e = true := (yFt_ok zr_8 h).1
theorem f_9 {pc : Nat} {e : zE} (h : yFt zc_9 pc = some e) : yRowB zSS zGG zPl 9 e = true := (yFt_ok zr_9 h).1
theorem f_10 {pc : Nat} {e : zE} (h : yFt zc_10 pc = some e) : yRowB zSS zGG zPl 10 e = true := (yFt_ok zr_10 h).1
theorem f_11 {pc : Nat} {e : zE} (h : yFt zc_11 pc = some e) : yRowB zSS zGG zPl 11 e = true := (yFt_ok zr_11 h).1
theorem f_12 {pc : Nat} {e : zE} (h : yFt zc_12 pc = some e) : yRowB zSS zGG zPl 12 e = true := (yFt_ok zr_12 h).1
theorem f_13 {pc : Nat} {e : zE} (h : yFt zc_13 pc = some e) : yRowB zSS zGG zPl 13 e = true := (yFt_ok zr_13 h).1
theorem f_14 {pc : Nat} {e : zE} (h : yFt zc_14 pc = some e) : yRowB zSS zGG zPl 14 e = true := (yFt_ok zr_14 h).1
theorem f_15 {pc : Nat} {e : zE} (h : yFt zc_15 pc = some e) : yRowB zSS zGG zPl 15 e = true := (yFt_ok zr_15 h).1
theorem f_16 {pc : Nat} {e : zE} (h : yFt zc_16 pc = some e) : yRowB zSS zGG zPl 16 e = true := (yFt_ok zr_16 h).1
theorem f_17 {pc : Nat} {e : zE} (h : yFt zc_17 pc = some e) : yRowB zSS zGG zPl 17 e = true := (yFt_ok zr_17 h).1
theorem f_18 {pc : Nat} {e : zE} (h : yFt zc_18 pc = some e) : yRowB zSS zGG zPl 18 e = true := (yFt_ok zr_18 h).1
theorem f_19 {pc : Nat} {e : zE} (h : yFt zc_19 pc = some e) : yRowB zSS zGG zPl 19 e = true := (yFt_ok zr_19 h).1
theorem f_20 {pc : Nat} {e : zE} (h : yFt zc_20 pc = some e) : yRowB zSS zGG zPl 20 e = true := (yFt_ok zr_20 h).1
theorem f_21 {pc : Nat} {e : zE} (h : yFt zc_21 pc = some e) : yRowB zSS zGG zPl 21 e = true := (yFt_ok zr_21 h).1
theorem f_22 {pc : Nat} {e : zE} (h : yFt zc_22 pc = some e) : yRowB zSS zGG zPl 22 e = true := (yFt_ok zr_22 h).1
theorem f_23 {pc : Nat} {e : zE} (h : yFt zc_23 pc = some e) : yRowB zSS zGG zPl 23 e = true := (yFt_ok zr_23 h).1
theorem f_24 {pc : Nat} {e : zE} (h : yFt zc_24 pc = some e) : yRowB zSS zGG zPl 24 e = true := (yFt_ok zr_24 h).1
theorem f_25 {pc : Nat} {e : zE} (h : yFt zc_25 pc = some e) : yRowB zSS zGG zPl 25 e = true := (yFt_ok zr_25 h).1
theorem f_26 {pc : Nat} {e : zE} (h : yFt zc_26 pc = some e) : yRowB zSS zGG zPl 26 e = true := (yFt_ok zr_26 h).1
theorem f_27 {pc : Nat} {e : zE} (h : yFt zc_27 pc = some e) : yRowB zSS zGG zPl 27 e = true := (yFt_ok zr_27 h).1
theorem f_28 {pc : Nat} {e : zE} (h : yFt zc_28 pc = some e) : yRowB zSS zGG zPl 28 e = true := (yFt_ok zr_28 h).1
theorem f_29 {pc : Nat} {e : zE} (h : yFt zc_29 pc = some e) : yRowB zSS zGG zPl 29 e = true := (yFt_ok zr_29 h).1
theorem f_30 {pc : Nat} {e : zE} (h : yFt zc_30 pc = some e) : yRowB zSS zGG zPl 30 e = true := (yFt_ok zr_30 h).1
theorem f_31 {pc : Nat} {e : zE} (h : yFt zc_31 pc = some e) : yRowB zSS zGG zPl 31 e = true := (yFt_ok zr_31 h).1
theorem f_32 {pc : Nat} {e : zE} (h : yFt zc_32 pc = some e) : yRowB zSS zGG zPl 32 e = true := (yFt_ok zr_32 h).1
theorem f_33 {pc : Nat} {e : zE} (h : yFt zc_33 pc = some e) : yRowB zSS zGG zPl 33 e = true := (yFt_ok zr_33 h).1
theorem f_34 {pc : Nat} {e : zE} (h : yFt zc_34 pc = some e) : yRowB zSS zGG zPl 34 e = true := (yFt_ok zr_34 h).1
theorem f_35 {pc : Nat} {e : zE} (h : yFt zc_35 pc = some e) : yRowB zSS zGG zPl 35 e = true := (yFt_ok zr_35 h).1
theorem f_36 {pc : Nat} {e : zE} (h : yFt zc_36 pc = some e) : yRowB zSS zGG zPl 36 e = true := (yFt_ok zr_36 h).1
theorem f_37 {pc : Nat} {e : zE} (h : yFt zc_37 pc = some e) : yRowB zSS zGG zPl 37 e = true := (yFt_ok zr_37 h).1
theorem f_38 {pc : Nat} {e : zE} (h : yFt zc_38 pc = some e) : yRowB zSS zGG zPl 38 e = true := (yFt_ok zr_38 h).1
theorem f_39 {pc : Nat} {e : zE} (h : yFt zc_39 pc = some e) : yRowB zSS zGG zPl 39 e = true := (yFt_ok zr_39 h).1
theorem f_40 {pc : Nat} {e : zE} (h : yFt zc_40 pc = some e) : yRowB zSS zGG zPl 40 e = true := (yFt_ok zr_40 h).1
theorem f_41 {pc : Nat} {e : zE} (h : yFt zc_41 pc = some e) : yRowB zSS zGG zPl 41 e = true := (yFt_ok zr_41 h).1
theorem f_42 {pc : Nat} {e : zE} (h : yFt zc_42 pc = some e) : yRowB zSS zGG zPl 42 e = true := (yFt_ok zr_42 h).1
theorem f_43 {pc : Nat} {e : zE} (h : yFt zc_43 pc = some e) : yRowB zSS zGG zPl 43 e = true := (yFt_ok zr_43 h).1
theorem f_44 {pc : Nat} {e : zE} (h : yFt zc_44 pc = some e) : yRowB zSS zGG zPl 44 e = true := (yFt_ok zr_44 h).1
theorem f_45 {pc : Nat} {e : zE} (h : yFt zc_45 pc = some e) : yRowB zSS zGG zPl 45 e = true := (yFt_ok zr_45 h).1
theorem f_46 {pc : Nat} {e : zE} (h : yFt zc_46 pc = some e) : yRowB zSS zGG zPl 46 e = true := (yFt_ok zr_46 h).1
theorem f_47 {pc : Nat} {e : zE} (h : yFt zc_47 pc = some e) : yRowB zSS zGG zPl 47 e = true := (yFt_ok zr_47 h).1
theorem f_48 {pc : Nat} {e : zE} (h : yFt zc_48 pc = some e) : yRowB zSS zGG zPl 48 e = true := (yFt_ok zr_48 h).1
theorem f_49 {pc : Nat} {e : zE} (h : yFt zc_49 pc = some e) : yRowB zSS zGG zPl 49 e = true := (yFt_ok zr_49 h).1
theorem f_50 {pc : Nat} {e : zE} (h : yFt zc_50 pc = some e) : yRowB zSS zGG zPl 50 e = true := (yFt_ok zr_50 h).1
theorem f_51 {pc : Nat} {e : zE} (h : yFt zc_51 pc = some e) : yRowB zSS zGG zPl 51 e = true := (yFt_ok zr_51 h).1
theorem f_52 {pc : Nat} {e : zE} (h : yFt zc_52 pc = some e) : yRowB zSS zGG zPl 52 e = true := (yFt_ok zr_52 h).1
theorem f_53 {pc : Nat} {e : zE} (h : yFt zc_53 pc = some e) : yRowB zSS zGG zPl 53 e = true := (yFt_ok zr_53 h).1
theorem f_54 {pc : Nat} {e : zE} (h : yFt zc_54 pc = some e) : yRowB zSS zGG zPl 54 e = true := (yFt_ok zr_54 h).1
theorem f_55 {pc : Nat} {e : zE} (h : yFt zc_55 pc = some e) : yRowB zSS zGG zPl 55 e = true := (yFt_ok zr_55 h).1
theorem f_56 {pc : Nat} {e : zE} (h : yFt zc_56 pc = some e) : yRowB zSS zGG zPl 56 e = true := (yFt_ok zr_56 h).1
theorem f_57 {pc : Nat} {e : zE} (h : yFt zc_57 pc = some e) : yRowB zSS zGG zPl 57 e = true := (yFt_ok zr_57 h).1
theorem f_58 {pc : Nat} {e : zE} (h : yFt zc_58 pc = some e) : yRowB zSS zGG zPl 58 e = true := (yFt_ok zr_58 h).1
theorem f_59 {pc : Nat} {e : zE} (h : yFt zc_59 pc = some e) : yRowB zSS zGG zPl 59 e = true := (yFt_ok zr_59 h).1
theorem f_60 {pc : Nat} {e : zE} (h : yFt zc_60 pc = some e) : yRowB zSS zGG zPl 60 e = true := (yFt_ok zr_60 h).1
theorem f_61 {pc : Nat} {e : zE} (h : yFt zc_61 pc = some e) : yRowB zSS zGG zPl 61 e = true := (yFt_ok zr_61 h).1
theorem f_62 {pc : Nat} {e : zE} (h : yFt zc_62 pc = some e) : yRowB zSS zGG zPl 62 e = true := (yFt_ok zr_62 h).1
theorem f_63 {pc : Nat} {e : zE} (h : yFt zc_63 pc = some e) : yRowB zSS zGG zPl 63 e = true := (yFt_ok zr_63 h).1
theorem f_64 {pc : Nat} {e : zE} (h : yFt zc_64 pc = some e) : yRowB zSS zGG zPl 64 e = true := (yFt_ok zr_64 h).1
theorem f_65 {pc : Nat} {e : zE} (h : yFt zc_65 pc = some e) : yRowB zSS zGG zPl 65 e = true := (yFt_ok zr_65 h).1
theorem f_66 {pc : Nat} {e : zE} (h : yFt zc_66 pc = some e) : yRowB zSS zGG zPl 66 e = true := (yFt_ok zr_66 h).1
theorem f_67 {pc : Nat} {e : zE} (h : yFt zc_67 pc = some e) : yRowB zSS zGG zPl 67 e = true := (yFt_ok zr_67 h).1
theorem f_68 {pc : Nat} {e : zE} (h : yFt zc_68 pc = some e) : yRowB zSS zGG zPl 68 e = true := (yFt_ok zr_68 h).1
theorem f_69 {pc : Nat} {e : zE} (h : yFt zc_69 pc = some e) : yRowB zSS zGG zPl 69 e = true := (yFt_ok zr_69 h).1
theorem f_70 {pc : Nat} {e : zE} (h : yFt zc_70 pc = some e) : yRowB zSS zGG zPl 70 e = true := (yFt_ok zr_70 h).1
theorem f_71 {pc : Nat} {e : zE} (h : yFt zc_71 pc = some e) : yRowB zSS zGG zPl 71 e = true := (yFt_ok zr_71 h).1
theorem f_72 {pc : Nat} {e : zE} (h : yFt zc_72 pc = some e) : yRowB zSS zGG zPl 72 e = true := (yFt_ok zr_72 h).1
theorem f_73 {pc : Nat} {e : zE} (h : yFt zc_73 pc = some e) : yRowB zSS zGG zPl 73 e = true := (yFt_ok zr_73 h).1
theorem f_74 {pc : Nat} {e : zE} (h : yFt zc_74 pc = some e) : yRowB zSS zGG zPl 74 e = true := (yFt_ok zr_74 h).1
theorem f_75 {pc : Nat} {e : zE} (h : yFt zc_75 pc = some e) : yRowB zSS zGG zPl 75 e = true := (yFt_ok zr_75 h).1
theorem f_76 {pc : Nat} {e : zE} (h : yFt zc_76 pc = some e) : yRowB zSS zGG zPl 76 e = true := (yFt_ok zr_76 h).1
theorem f_77 {pc : Nat} {e : zE} (h : yFt zc_77 pc = some e) : yRowB zSS zGG zPl 77 e = true := (yFt_ok zr_77 h).1
theorem f_78 {pc : Nat} {e : zE} (h : yFt zc_78 pc = some e) : yRowB zSS zGG zPl 78 e = true := (yFt_ok zr_78 h).1
theorem f_79 {pc : Nat} {e : zE} (h : yFt zc_79 pc = some e) : yRowB zSS zGG zPl 79 e = true := (yFt_ok zr_79 h).1
theorem f_80 {pc : Nat} {e : zE} (h : yFt zc_80 pc = some e) : yRowB zSS zGG zPl 80 e = true := (yFt_ok zr_80 h).1
theorem f_81 {pc : Nat} {e : zE} (h : yFt zc_81 pc = some e) : yRowB zSS zGG zPl 81 e = true := (yFt_ok zr_81 h).1
theorem f_82 {pc : Nat} {e : zE} (h : yFt zc_82 pc = some e) : yRowB zSS zGG zPl 82 e = true := (yFt_ok zr_82 h).1
theorem f_83 {pc : Nat} {e : zE} (h : yFt zc_83 pc = some e) : yRowB zSS zGG zPl 83 e = true := (yFt_ok zr_83 h).1
theorem f_84 {pc : Nat} {e : zE} (h : yFt zc_84 pc = some e) : yRowB zSS zGG zPl 84 e = true := (yFt_ok zr_84 h).1
theorem f_85 {pc : Nat} {e : zE} (h : yFt zc_85 pc = some e) : yRowB zSS zGG zPl 85 e = true := (yFt_ok zr_85 h).1
theorem f_86 {pc : Nat} {e : zE} (h : yFt zc_86 pc = some e) : yRowB zSS zGG zPl 86 e = true := (yFt_ok zr_86 h).1
theorem f_87 {pc : Nat} {e : zE} (h : yFt zc_87 pc = some e) : yRowB zSS zGG zPl 87 e = true := (yFt_ok zr_87 h).1
theorem f_88 {pc : Nat} {e : zE} (h : yFt zc_88 pc = some e) : yRowB zSS zGG zPl 88 e = true := (yFt_ok zr_88 h).1
theorem f_89 {pc : Nat} {e : zE} (h : yFt zc_89 pc = some e) : yRowB zSS zGG zPl 89 e = true := (yFt_ok zr_89 h).1
theorem f_90 {pc : Nat} {e : zE} (h : yFt zc_90 pc = some e) : yRowB zSS zGG zPl 90 e = true := (yFt_ok zr_90 h).1
theorem f_91 {pc : Nat} {e : zE} (h : yFt zc_91 pc = some e) : yRowB zSS zGG zPl 91 e = true := (yFt_ok zr_91 h).1
theorem f_92 {pc : Nat} {e : zE} (h : yFt zc_92 pc = some e) : yRowB zSS zGG zPl 92 e = true := (yFt_ok zr_92 h).1
theorem f_93 {pc : Nat} {e : zE} (h : yFt zc_93 pc = some e) : yRowB zSS zGG zPl 93 e = true := (yFt_ok zr_93 h).1
theorem f_94 {pc : Nat} {e : zE} (h : yFt zc_94 pc = some e) : yRowB zSS zGG zPl 94 e = true := (yFt_ok zr_94 h).1
theorem f_95 {pc : Nat} {e : zE} (h : yFt zc_95 pc = some e) : yRowB zSS zGG zPl 95 e = true := (yFt_ok zr_95 h).1
theorem f_96 {pc : Nat} {e : zE} (h : yFt zc_96 pc = some e) : yRowB zSS zGG zPl 96 e = true := (yFt_ok zr_96 h).1
theorem f_97 {pc : Nat} {e : zE} (h : yFt zc_97 pc = some e) : yRowB zSS zGG zPl 97 e = true := (yFt_ok zr_97 h).1
theorem f_98 {pc : Nat} {e : zE} (h : yFt zc_98 pc = some e) : yRowB zSS zGG zPl 98 e = true := (yFt_ok zr_98 h).1
theorem f_99 {pc : Nat} {e : zE} (h : yFt zc_99 pc = some e) : yRowB zSS zGG zPl 99 e = true := (yFt_ok zr_99 h).1
theorem f_100 {pc : Nat} {e : zE} (h : yFt zc_100 pc = some e) : yRowB zSS zGG zPl 100 e = true := (yFt_ok zr_100 h).1
theorem f_101 {pc : Nat} {e : zE} (h : yFt zc_101 pc = some e) : yRowB zSS zGG zPl 101 e = true := (yFt_ok zr_101 h).1
theorem f_102 {pc : Nat} {e : zE} (h : yFt zc_102 pc = some e) : yRowB zSS zGG zPl 102 e = true := (yFt_ok zr_102 h).1
theorem f_103 {pc : Nat} {e : zE} (h : yFt zc_103 pc = some e) : yRowB zSS zGG zPl 103 e = true := (yFt_ok zr_103 h).1
theorem f_104 {pc : Nat} {e : zE} (h : yFt zc_104 pc = some e) : yRowB zSS zGG zPl 104 e = true := (yFt_ok zr_104 h).1
theorem f_105 {pc : Nat} {e : zE} (h : yFt zc_105 pc = some e) : yRowB zSS zGG zPl 105 e = true := (yFt_ok zr_105 h).1
theorem f_106 {pc : Nat} {e : zE} (h : yFt zc_106 pc = some e) : yRowB zSS zGG zPl 106 e = true := (yFt_ok zr_106 h).1
theorem f_107 {pc : Nat} {e : zE} (h : yFt zc_107 pc = some e) : yRowB zSS zGG zPl 107 e = true := (yFt_ok zr_107 h).1
theorem f_108 {pc : Nat} {e : zE} (h : yFt zc_108 pc = some e) : yRowB zSS zGG zPl 108 e = true := (yFt_ok zr_108 h).1
theorem f_109 {pc : Nat} {e : zE} (h : yFt zc_109 pc = some e) : yRowB zSS zGG zPl 109 e = true := (yFt_ok zr_109 h).1
theorem f_110 {pc : Nat} {e : zE} (h : yFt zc_110 pc = some e) : yRowB zSS zGG zPl 110 e = true := (yFt_ok zr_110 h).1
theorem f_111 {pc : Nat} {e : zE} (h : yFt zc_111 pc = some e) : yRowB zSS zGG zPl 111 e = true := (yFt_ok zr_111 h).1
theorem f_112 {pc : Nat} {e : zE} (h : yFt zc_112 pc = some e) : yRowB zSS zGG zPl 112 e = true := (yFt_ok zr_112 h).1
theorem f_113 {pc : Nat} {e : zE} (h : yFt zc_113 pc = some e) : yRowB zSS zGG zPl 113 e = true := (yFt_ok zr_113 h).1
theorem f_114 {pc : Nat} {e : zE} (h : yFt zc_114 pc = some e) : yRowB zSS zGG zPl 114 e = true := (yFt_ok zr_114 h).1
theorem f_115 {pc : Nat} {e : zE} (h : yFt zc_115 pc = some e) : yRowB zSS zGG zPl 115 e = true := (yFt_ok zr_115 h).1
theorem f_116 {pc : Nat} {e : zE} (h : yFt zc_116 pc = some e) : yRowB zSS zGG zPl 116 e = true := (yFt_ok zr_116 h).1
theorem f_117 {pc : Nat} {e : zE} (h : yFt zc_117 pc = some e) : yRowB zSS zGG zPl 117 e = true := (yFt_ok zr_117 h).1
theorem f_118 {pc : Nat} {e : zE} (h : yFt zc_118 pc = some e) : yRowB zSS zGG zPl 118 e = true := (yFt_ok zr_118 h).1
theorem f_119 {pc : Nat} {e : zE} (h : yFt zc_119 pc = some e) : yRowB zSS zGG zPl 119 e = true := (yFt_ok zr_119 h).1
theorem f_120 {pc : Nat} {e : zE} (h : yFt zc_120 pc = some e) : yRowB zSS zGG zPl 120 e = true := (yFt_ok zr_120 h).1
theorem f_121 {pc : Nat} {e : zE} (h : yFt zc_121 pc = some e) : yRowB zSS zGG zPl 121 e = true := (yFt_ok zr_121 h).1
theorem f_122 {pc : Nat} {e : zE} (h : yFt zc_122 pc = some e) : yRowB zSS zGG zPl 122 e = true := (yFt_ok zr_122 h).1
theorem f_123 {pc : Nat} {e : zE} (h : yFt zc_123 pc = some e) : yRowB zSS zGG zPl 123 e = true := (yFt_ok zr_123 h).1
theorem f_124 {pc : Nat} {e : zE} (h : yFt zc_124 pc = some e) : yRowB zSS zGG zPl 124 e = true := (yFt_ok zr_124 h).1
theorem f_125 {pc : Nat} {e : zE} (h : yFt zc_125 pc = some e) : yRowB zSS zGG zPl 125 e = true := (yFt_ok zr_125 h).1
theorem f_126 {pc : Nat} {e : zE} (h : yFt zc_126 pc = some e) : yRowB zSS zGG zPl 126 e = true := (yFt_ok zr_126 h).1
theorem f_127 {pc : Nat} {e : zE} (h : yFt zc_127 pc = some e) : yRowB zSS zGG zPl 127 e = true := (yFt_ok zr_127 h).1
theorem f_128 {pc : Nat} {e : zE} (h : yFt zc_128 pc = some e) : yRowB zSS zGG zPl 128 e = true := (yFt_ok zr_128 h).1
theorem f_129 {pc : Nat} {e : zE} (h : yFt zc_129 pc = some e) : yRowB zSS zGG zPl 129 e = true := (yFt_ok zr_129 h).1
theorem f_130 {pc : Nat} {e : zE} (h : yFt zc_130 pc = some e) : yRowB zSS zGG zPl 130 e = true := (yFt_ok zr_130 h).1
theorem f_131 {pc : Nat} {e : zE} (h : yFt zc_131 pc = some e) : yRowB zSS zGG zPl 131 e = true := (yFt_ok zr_131 h).1
theorem f_132 {pc : Nat} {e : zE} (h : yFt zc_132 pc = some e) : yRowB zSS zGG zPl 132 e = true := (yFt_ok zr_132 h).1
theorem f_133 {pc : Nat} {e : zE} (h : yFt zc_133 pc = some e) : yRowB zSS zGG zPl 133 e = true := (yFt_ok zr_133 h).1
theorem f_134 {pc : Nat} {e : zE} (h : yFt zc_134 pc = some e) : yRowB zSS zGG zPl 134 e = true := (yFt_ok zr_134 h).1
theorem f_135 {pc : Nat} {e : zE} (h : yFt zc_135 pc = some e) : yRowB zSS zGG zPl 135 e = true := (yFt_ok zr_135 h).1
theorem f_136 {pc : Nat} {e : zE} (h : yFt zc_136 pc = some e) : yRowB zSS zGG zPl 136 e = true := (yFt_ok zr_136 h).1
theorem f_137 {pc : Nat} {e : zE} (h : yFt zc_137 pc = some e) : yRowB zSS zGG zPl 137 e = true := (yFt_ok zr_137 h).1
theorem f_138 {pc : Nat} {e : zE} (h : yFt zc_138 pc = some e) : yRowB zSS zGG zPl 138 e = true := (yFt_ok zr_138 h).1
theorem f_139 {pc : Nat} {e : zE} (h : yFt zc_139 pc = some e) : yRowB zSS zGG zPl 139 e = true := (yFt_ok zr_139 h).1
theorem f_140 {pc : Nat} {e : zE} (h : yFt zc_140 pc = some e) : yRowB zSS zGG zPl 140 e = true := (yFt_ok zr_140 h).1
theorem f_141 {pc : Nat} {e : zE} (h : yFt zc_141 pc = some e) : yRowB zSS zGG zPl 141 e = true := (yFt_ok zr_141 h).1
theorem f_142 {pc : Nat} {e : zE} (h : yFt zc_142 pc = some e) : yRowB zSS zGG zPl 142 e = true := (yFt_ok zr_142 h).1
theorem f_143 {pc : Nat} {e : zE} (h : yFt zc_143 pc = some e) : yRowB zSS zGG zPl 143 e = true := (yFt_ok zr_143 h).1
theorem f_144 {pc : Nat} {e : zE} (h : yFt zc_144 pc = some e) : yRowB zSS zGG zPl 144 e = true := (yFt_ok zr_144 h).1
theorem f_145 {pc : Nat} {e : zE} (h : yFt zc_145 pc = some e) : yRowB zSS zGG zPl 145 e = true := (yFt_ok zr_145 h).1
theorem f_146 {pc : Nat} {e : zE} (h : yFt zc_146 pc = some e) : yRowB zSS zGG zPl 146 e = true := (yFt_ok zr_146 h).1
theorem f_147 {pc : Nat} {e : zE} (h : yFt zc_147 pc = some e) : yRowB zSS zGG zPl 147 e = true := (yFt_ok zr_147 h).1
theorem f_148 {pc : Nat} {e : zE} (h : yFt zc_148 pc = some e) : yRowB zSS zGG zPl 148 e = true := (yFt_ok zr_148 h).1
theorem f_149 {pc : Nat} {e : zE} (h : yFt zc_149 pc = some e) : yRowB zSS zGG zPl 149 e = true := (yFt_ok zr_149 h).1
theorem f_150 {pc : Nat} {e : zE} (h : yFt zc_150 pc = some e) : yRowB zSS zGG zPl 150 e = true := (yFt_ok zr_150 h).1
theorem f_151 {pc : Nat} {e : zE} (h : yFt zc_151 pc = some e) : yRowB zSS zGG zPl 151 e = true := (yFt_ok zr_151 h).1
theorem f_152 {pc : Nat} {e : zE} (h : yFt zc_152 pc = some e) : yRowB zSS zGG zPl 152 e = true := (yFt_ok zr_152 h).1
theorem f_153 {pc : Nat} {e : zE} (h : yFt zc_153 pc = some e) : yRowB zSS zGG zPl 153 e = true := (yFt_ok zr_153 h).1
theorem f_154 {pc : Nat} {e : zE} (h : yFt zc_154 pc = some e) : yRowB zSS zGG zPl 154 e = true := (yFt_ok zr_154 h).1
theorem f_155 {pc : Nat} {e : zE} (h : yFt zc_155 pc = some e) : yRowB zSS zGG zPl 155 e = true := (yFt_ok zr_155 h).1
theorem f_156 {pc : Nat} {e : zE} (h : yFt zc_156 pc = some e) : yRowB zSS zGG zPl 156 e = true := (yFt_ok zr_156 h).1
theorem f_157 {pc : Nat} {e : zE} (h : yFt zc_157 pc = some e) : yRowB zSS zGG zPl 157 e = true := (yFt_ok zr_157 h).1
theorem f_158 {pc : Nat} {e : zE} (h : yFt zc_158 pc = some e) : yRowB zSS zGG zPl 158 e = true := (yFt_ok zr_158 h).1
theorem f_159 {pc : Nat} {e : zE} (h : yFt zc_159 pc = some e) : yRowB zSS zGG zPl 159 e = true := (yFt_ok zr_159 h).1
theorem f_160 {pc : Nat} {e : zE} (h : yFt zc_160 pc = some e) : yRowB zSS zGG zPl 160 e = true := (yFt_ok zr_160 h).1
theorem f_161 {pc : Nat} {e : zE} (h : yFt zc_161 pc = some e) : yRowB zSS zGG zPl 161 e = true := (yFt_ok zr_161 h).1
theorem f_162 {pc : Nat} {e : zE} (h : yFt zc_162 pc = some e) : yRowB zSS zGG zPl 162 e = true := (yFt_ok zr_162 h).1
theorem f_163 {pc : Nat} {e : zE} (h : yFt zc_163 pc = some e) : yRowB zSS zGG zPl 163 e = true := (yFt_ok zr_163 h).1
theorem f_164 {pc : Nat} {e : zE} (h : yFt zc_164 pc = some e) : yRowB zSS zGG zPl 164 e = true := (yFt_ok zr_164 h).1
theorem f_165 {pc : Nat} {e : zE} (h : yFt zc_165 pc = some e) : yRowB zSS zGG zPl 165 e = true := (yFt_ok zr_165 h).1
theorem f_166 {pc : Nat} {e : zE} (h : yFt zc_166 pc = some e) : yRowB zSS zGG zPl 166 e = true := (yFt_ok zr_166 h).1
theorem f_167 {pc : Nat} {e : zE} (h : yFt zc_167 pc = some e) : yRowB zSS zGG zPl 167 e = true := (yFt_ok zr_167 h).1
theorem f_168 {pc : Nat} {e : zE} (h : yFt zc_168 pc = some e) : yRowB zSS zGG zPl 168 e = true := (yFt_ok zr_168 h).1
theorem f_169 {pc : Nat} {e : zE} (h : yFt zc_169 pc = some e) : yRowB zSS zGG zPl 169 e = true := (yFt_ok zr_169 h).1
theorem f_170 {pc : Nat} {e : zE} (h : yFt zc_170 pc = some e) : yRowB zSS zGG zPl 170 e = true := (yFt_ok zr_170 h).1
theorem f_171 {pc : Nat} {e : zE} (h : yFt zc_171 pc = some e) : yRowB zSS zGG zPl 171 e = true := (yFt_ok zr_171 h).1
theorem f_172 {pc : Nat} {e : zE} (h : yFt zc_172 pc = some e) : yRowB zSS zGG zPl 172 e = true := (yFt_ok zr_172 h).1
theorem f_173 {pc : Nat} {e : zE} (h : yFt zc_173 pc = some e) : yRowB zSS zGG zPl 173 e = true := (yFt_ok zr_173 h).1
theorem f_174 {pc : Nat} {e : zE} (h : yFt zc_174 pc = some e) : yRowB zSS zGG zPl 174 e = true := (yFt_ok zr_174 h).1
theorem f_175 {pc : Nat} {e : zE} (h : yFt zc_175 pc = some e) : yRowB zSS zGG zPl 175 e = true := (yFt_ok zr_175 h).1
theorem f_176 {pc : Nat} {e : zE} (h : yFt zc_176 pc = some e) : yRowB zSS zGG zPl 176 e = true := (yFt_ok zr_176 h).1
theorem f_177 {pc : Nat} {e : zE} (h : yFt zc_177 pc = some e) : yRowB zSS zGG zPl 177 e = true := (yFt_ok zr_177 h).1
theorem f_178 {pc : Nat} {e : zE} (h : yFt zc_178 pc = some e) : yRowB zSS zGG zPl 178 e = true := (yFt_ok zr_178 h).1
theorem f_179 {pc : Nat} {e : zE} (h : yFt zc_179 pc = some e) : yRowB zSS zGG zPl 179 e = true := (yFt_ok zr_179 h).1
theorem f_180 {pc : Nat} {e : zE} (h : yFt zc_180 pc = some e) : yRowB zSS zGG zPl 180 e = true := (yFt_ok zr_180 h).1
theorem f_181 {pc : Nat} {e : zE} (h : yFt zc_181 pc = some e) : yRowB zSS zGG zPl 181 e = true := (yFt_ok zr_181 h).1
theorem f_182 {pc : Nat} {e : zE} (h : yFt zc_182 pc = some e) : yRowB zSS zGG zPl 182 e = true := (yFt_ok zr_182 h).1
theorem f_183 {pc : Nat} {e : zE} (h : yFt zc_183 pc = some e) : yRowB zSS zGG zPl 183 e = true := (yFt_ok zr_183 h).1
theorem f_184 {pc : Nat} {e : zE} (h : yFt zc_184 pc = some e) : yRowB zSS zGG zPl 184 e = true := (yFt_ok zr_184 h).1
theorem f_185 {pc : Nat} {e : zE} (h : yFt zc_185 pc = some e) : yRowB zSS zGG zPl 185 e = true := (yFt_ok zr_185 h).1
theorem f_186 {pc : Nat} {e : zE} (h : yFt zc_186 pc = some e) : yRowB zSS zGG zPl 186 e = true := (yFt_ok zr_186 h).1
theorem f_187 {pc : Nat} {e : zE} (h : yFt zc_187 pc = some e) : yRowB zSS zGG zPl 187 e = true := (yFt_ok zr_187 h).1
theorem f_188 {pc : Nat} {e : zE} (h : yFt zc_188 pc = some e) : yRowB zSS zGG zPl 188 e = true := (yFt_ok zr_188 h).1
theorem f_189 {pc : Nat} {e : zE} (h : yFt zc_189 pc = some e) : yRowB zSS zGG zPl 189 e = true := (yFt_ok zr_189 h).1
theorem f_190 {pc : Nat} {e : zE} (h : yFt zc_190 pc = some e) : yRowB zSS zGG zPl 190 e = true := (yFt_ok zr_190 h).1
theorem f_191 {pc : Nat} {e : zE} (h : yFt zc_191 pc = some e) : yRowB zSS zGG zPl 191 e = true := (yFt_ok zr_191 h).1
theorem f_192 {pc : Nat} {e : zE} (h : yFt zc_192 pc = some e) : yRowB zSS zGG zPl 192 e = true := (yFt_ok zr_192 h).1
theorem f_193 {pc : Nat} {e : zE} (h : yFt zc_193 pc = some e) : yRowB zSS zGG zPl 193 e = true := (yFt_ok zr_193 h).1
theorem f_194 {pc : Nat} {e : zE} (h : yFt zc_194 pc = some e) : yRowB zSS zGG zPl 194 e = true := (yFt_ok zr_194 h).1
theorem f_195 {pc : Nat} {e : zE} (h : yFt zc_195 pc = some e) : yRowB zSS zGG zPl 195 e = true := (yFt_ok zr_195 h).1
theorem f_196 {pc : Nat} {e : zE} (h : yFt zc_196 pc = some e) : yRowB zSS zGG zPl 196 e = true := (yFt_ok zr_196 h).1
theorem f_197 {pc : Nat} {e : zE} (h : yFt zc_197 pc = some e) : yRowB zSS zGG zPl 197 e = true := (yFt_ok zr_197 h).1
theorem f_198 {pc : Nat} {e : zE} (h : yFt zc_198 pc = some e) : yRowB zSS zGG zPl 198 e = true := (yFt_ok zr_198 h).1
theorem f_199 {pc : Nat} {e : zE} (h : yFt zc_199 pc = some e) : yRowB zSS zGG zPl 199 e = true := (yFt_ok zr_199 h).1
theorem f_200 {pc : Nat} {e : zE} (h : yFt zc_200 pc = some e) : yRowB zSS zGG zPl 200 e = true := (yFt_ok zr_200 h).1
theorem f_201 {pc : Nat} {e : zE} (h : yFt zc_201 pc = some e) : yRowB zSS zGG zPl 201 e = true := (yFt_ok zr_201 h).1
theorem f_202 {pc : Nat} {e : zE} (h : yFt zc_202 pc = some e) : yRowB zSS zGG zPl 202 e = true := (yFt_ok zr_202 h).1
theorem f_203 {pc : Nat} {e : zE} (h : yFt zc_203 pc = some e) : yRowB zSS zGG zPl 203 e = true := (yFt_ok zr_203 h).1
theorem f_204 {pc : Nat} {e : zE} (h : yFt zc_204 pc = some e) : yRowB zSS zGG zPl 204 e = true := (yFt_ok zr_204 h).1
theorem f_205 {pc : Nat} {e : zE} (h : yFt zc_205 pc = some e) : yRowB zSS zGG zPl 205 e = true := (yFt_ok zr_205 h).1
theorem f_206 {pc : Nat} {e : zE} (h : yFt zc_206 pc = some e) : yRowB zSS zGG zPl 206 e = true := (yFt_ok zr_206 h).1
theorem f_207 {pc : Nat} {e : zE} (h : yFt zc_207 pc = some e) : yRowB zSS zGG zPl 207 e = true := (yFt_ok zr_207 h).1
theorem f_208 {pc : Nat} {e : zE} (h : yFt zc_208 pc = some e) : yRowB zSS zGG zPl 208 e = true := (yFt_ok zr_208 h).1
theorem f_209 {pc : Nat} {e : zE} (h : yFt zc_209 pc = some e) : yRowB zSS zGG zPl 209 e = true := (yFt_ok zr_209 h).1
theorem f_210 {pc : Nat} {e : zE} (h : yFt zc_210 pc = some e) : yRowB zSS zGG zPl 210 e = true := (yFt_ok zr_210 h).1
theorem f_211 {pc : Nat} {e : zE} (h : yFt zc_211 pc = some e) : yRowB zSS zGG zPl 211 e = true := (yFt_ok zr_211 h).1
theorem f_212 {pc : Nat} {e : zE} (h : yFt zc_212 pc = some e) : yRowB zSS zGG zPl 212 e = true := (yFt_ok zr_212 h).1
theorem f_213 {pc : Nat} {e : zE} (h : yFt zc_213 pc = some e) : yRowB zSS zGG zPl 213 e = true := (yFt_ok zr_213 h).1
theorem f_214 {pc : Nat} {e : zE} (h : yFt zc_214 pc = some e) : yRowB zSS zGG zPl 214 e = true := (yFt_ok zr_214 h).1
theorem f_215 {pc : Nat} {e : zE} (h : yFt zc_215 pc = some e) : yRowB zSS zGG zPl 215 e = true := (yFt_ok zr_215 h).1
theorem f_216 {pc : Nat} {e : zE} (h : yFt zc_216 pc = some e) : yRowB zSS zGG zPl 216 e = true := (yFt_ok zr_216 h).1
theorem f_217 {pc : Nat} {e : zE} (h : yFt zc_217 pc = some e) : yRowB zSS zGG zPl 217 e = true := (yFt_ok zr_217 h).1
theorem f_218 {pc : Nat} {e : zE} (h : yFt zc_218 pc = some e) : yRowB zSS zGG zPl 218 e = true := (yFt_ok zr_218 h).1
theorem f_219 {pc : Nat} {e : zE} (h : yFt zc_219 pc = some e) : yRowB zSS zGG zPl 219 e = true := (yFt_ok zr_219 h).1
theorem f_220 {pc : Nat} {e : zE} (h : yFt zc_220 pc = some e) : yRowB zSS zGG zPl 220 e = true := (yFt_ok zr_220 h).1
theorem f_221 {pc : Nat} {e : zE} (h : yFt zc_221 pc = some e) : yRowB zSS zGG zPl 221 e = true := (yFt_ok zr_221 h).1
theorem f_222 {pc : Nat} {e : zE} (h : yFt zc_222 pc = some e) : yRowB zSS zGG zPl 222 e = true := (yFt_ok zr_222 h).1
theorem f_223 {pc : Nat} {e : zE} (h : yFt zc_223 pc = some e) : yRowB zSS zGG zPl 223 e = true := (yFt_ok zr_223 h).1
theorem f_224 {pc : Nat} {e : zE} (h : yFt zc_224 pc = some e) : yRowB zSS zGG zPl 224 e = true := (yFt_ok zr_224 h).1
theorem f_225 {pc : Nat} {e : zE} (h : yFt zc_225 pc = some e) : yRowB zSS zGG zPl 225 e = true := (yFt_ok zr_225 h).1
theorem f_226 {pc : Nat} {e : zE} (h : yFt zc_226 pc = some e) : yRowB zSS zGG zPl 226 e = true := (yFt_ok zr_226 h).1
theorem f_227 {pc : Nat} {e : zE} (h : yFt zc_227 pc = some e) : yRowB zSS zGG zPl 227 e = true := (yFt_ok zr_227 h).1
theorem f_228 {pc : Nat} {e : zE} (h : yFt zc_228 pc = some e) : yRowB zSS zGG zPl 228 e = true := (yFt_ok zr_228 h).1
theorem f_229 {pc : Nat} {e : zE} (h : yFt zc_229 pc = some e) : yRowB zSS zGG zPl 229 e = true := (yFt_ok zr_229 h).1
theorem f_230 {pc : Nat} {e : zE} (h : yFt zc_230 pc = some e) : yRowB zSS zGG zPl 230 e = true := (yFt_ok zr_230 h).1
theorem f_231 {pc : Nat} {e : zE} (h : yFt zc_231 pc = some e) : yRowB zSS zGG zPl 231 e = true := (yFt_ok zr_231 h).1
theorem f_232 {pc : Nat} {e : zE} (h : yFt zc_232 pc = some e) : yRowB zSS zGG zPl 232 e = true := (yFt_ok zr_232 h).1
theorem f_233 {pc : Nat} {e : zE} (h : yFt zc_233 pc = some e) : yRowB zSS zGG zPl 233 e = true := (yFt_ok zr_233 h).1
theorem f_234 {pc : Nat} {e : zE} (h : yFt zc_234 pc = some e) : yRowB zSS zGG zPl 234 e = true := (yFt_ok zr_234 h).1
theorem f_235 {pc : Nat} {e : zE} (h : yFt zc_235 pc = some e) : yRowB zSS zGG zPl 235 e = true := (yFt_ok zr_235 h).1
theorem f_236 {pc : Nat} {e : zE} (h : yFt zc_236 pc = some e) : yRowB zSS zGG zPl 236 e = true := (yFt_ok zr_236 h).1
theorem f_237 {pc : Nat} {e : zE} (h : yFt zc_237 pc = some e) : yRowB zSS zGG zPl 237 e = true := (yFt_ok zr_237 h).1
theorem f_238 {pc : Nat} {e : zE} (h : yFt zc_238 pc = some e) : yRowB zSS zGG zPl 238 e = true := (yFt_ok zr_238 h).1
theorem f_239 {pc : Nat} {e : zE} (h : yFt zc_239 pc = some e) : yRowB zSS zGG zPl 239 e = true := (yFt_ok zr_239 h).1
theorem f_240 {pc : Nat} {e : zE} (h : yFt zc_240 pc = some e) : yRowB zSS zGG zPl 240 e = true := (yFt_ok zr_240 h).1
theorem f_241 {pc : Nat} {e : zE} (h : yFt zc_241 pc = some e) : yRowB zSS zGG zPl 241 e = true := (yFt_ok zr_241 h).1
theorem f_242 {pc : Nat} {e : zE} (h : yFt zc_242 pc = some e) : yRowB zSS zGG zPl 242 e = true := (yFt_ok zr_242 h).1
theorem f_243 {pc : Nat} {e : zE} (h : yFt zc_243 pc = some e) : yRowB zSS zGG zPl 243 e = true := (yFt_ok zr_243 h).1
theorem f_244 {pc : Nat} {e : zE} (h : yFt zc_244 pc = some e) : yRowB zSS zGG zPl 244 e = true := (yFt_ok zr_244 h).1
theorem f_245 {pc : Nat} {e : zE} (h : yFt zc_245 pc = some e) : yRowB zSS zGG zPl 245 e = true := (yFt_ok zr_245 h).1
theorem f_246 {pc : Nat} {e : zE} (h : yFt zc_246 pc = some e) : yRowB zSS zGG zPl 246 e = true := (yFt_ok zr_246 h).1
theorem f_247 {pc : Nat} {e : zE} (h : yFt zc_247 pc = some e) : yRowB zSS zGG zPl 247 e = true := (yFt_ok zr_247 h).1
theorem f_248 {pc : Nat} {e : zE} (h : yFt zc_248 pc = some e) : yRowB zSS zGG zPl 248 e = true := (yFt_ok zr_248 h).1
theorem f_249 {pc : Nat} {e : zE} (h : yFt zc_249 pc = some e) : yRowB zSS zGG zPl 249 e = true := (yFt_ok zr_249 h).1
theorem f_250 {pc : Nat} {e : zE} (h : yFt zc_250 pc = some e) : yRowB zSS zGG zPl 250 e = true := (yFt_ok zr_250 h).1
theorem f_251 {pc : Nat} {e : zE} (h : yFt zc_251 pc = some e) : yRowB zSS zGG zPl 251 e = true := (yFt_ok zr_251 h).1
theorem f_252 {pc : Nat} {e : zE} (h : yFt zc_252 pc = some e) : yRowB zSS zGG zPl 252 e = true := (yFt_ok zr_252 h).1
theorem f_253 {pc : Nat} {e : zE} (h : yFt zc_253 pc = some e) : yRowB zSS zGG zPl 253 e = true := (yFt_ok zr_253 h).1
theorem f_254 {pc : Nat} {e : zE} (h : yFt zc_254 pc = some e) : yRowB zSS zGG zPl 254 e = true := (yFt_ok zr_254 h).1
theorem f_255 {pc : Nat} {e : zE} (h : yFt zc_255 pc = some e) : yRowB zSS zGG zPl 255 e = true := (yFt_ok zr_255 h).1
theorem f_256 {pc : Nat} {e : zE} (h : yFt zc_256 pc = some e) : yRowB zSS zGG zPl 256 e = true := (yFt_ok zr_256 h).1
theorem f_257 {pc : Nat} {e : zE} (h : yFt zc_257 pc = some e) : yRowB zSS zGG zPl 257 e = true := (yFt_ok zr_257 h).1
