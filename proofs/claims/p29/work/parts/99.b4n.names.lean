/-! NAMES of a land -/
/-- a land of which the NAMES alone are told -/
def nLd (ch : Nat) (nm : Nat → Int) : Ld := (0, 0, fun _ _ => false, fun _ => 0, fun _ => -1, ch, nm, fun _ => 0, fun _ => 0, fun _ => 0, fun _ => 0, fun _ => -1, fun _ => false, fun _ => 0, 0)
/-- the class's land bears these NAMES -/
def cNm (I : Nat → Nat → Int) (p : Nat) (ch : Nat) (nm : Nat → Int) : Prop := (I p 5 = (ch : Int) ∧ ch ≤ 8) ∧ ∀ i, i < ch → I (p + 4) i = cv 7 (nm i) ∧ isW (nm i)
/-- the reference's, from b on in its row -/
def mNm (I : Nat → Nat → Int) (b ch : Nat) (nm : Nat → Int) : Prop := ch ≤ 8 ∧ ∀ i, i < ch → I 107 (b + i) = nm i ∧ isW (nm i)
