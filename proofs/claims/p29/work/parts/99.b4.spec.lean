/-! ALLEYS: what the text says (pure): TOKENS, a LINE, the whole -/
/-- a TOKEN: its sort (0 the end, 1 a WORD, 2 a NUMBER, 3 a sign, 4 none), where it begins, its value, where it ends -/
abbrev Tk : Type := Nat × Nat × Int × Nat
def kTok (t : Nat → Int) (n lim p : Nat) (x : Tk) : Prop :=
  ∃ q, tSk t n p q ∧
    ((min n lim ≤ q ∧ x = (if n ≤ lim then 0 else 4, min n lim, 0, q)) ∨
     (q < min n lim ∧ ∃ k, tRun t n q k ∧
       ((k = 0 ∧ x = (if tS (t q) then 3 else 4, q, if tS (t q) then t q else 0, q + 1)) ∨
        (0 < k ∧ x = (if tKd t q k = 2 then 1 else if tKd t q k = 3 then 2 else 4, q, if tKd t q k = 2 then tF 256 t q k else if tKd t q k = 3 then tF 10 (fun j => t j - 48) q k else 0, q + k)))))
theorem kTok_un {t : Nat → Int} {n lim p : Nat} {x y : Tk} (hx : kTok t n lim p x) (hy : kTok t n lim p y) : x = y := by
  obtain ⟨q, s, a⟩ := hx
  obtain ⟨q', s', a'⟩ := hy
  cases tSk_un s s'
  rcases a with ⟨a1, a2⟩ | ⟨a1, k, r, a2⟩
  · rcases a' with ⟨b1, b2⟩ | ⟨b1, k', r', b2⟩
    · rw [a2, b2]
    · exact absurd a1 (Nat.not_le.mpr b1)
  · rcases a' with ⟨b1, b2⟩ | ⟨b1, k', r', b2⟩
    · exact absurd b1 (Nat.not_le.mpr a1)
    · cases tRun_un r r'
      rcases a2 with ⟨c1, c2⟩ | ⟨c1, c2⟩
      · rcases b2 with ⟨d1, d2⟩ | ⟨d1, d2⟩
        · rw [c2, d2]
        · exact absurd c1 (Nat.pos_iff_ne_zero.mp d1)
      · rcases b2 with ⟨d1, d2⟩ | ⟨d1, d2⟩
        · exact absurd d1 (Nat.pos_iff_ne_zero.mp c1)
        · rw [c2, d2]
/-- the TOKEN that is next from p on -/
noncomputable def tk (t : Nat → Int) (n lim p : Nat) : Tk := Classical.epsilon (kTok t n lim p)
theorem tk_eq {t : Nat → Int} {n lim p : Nat} {x : Tk} (h : kTok t n lim p x) : tk t n lim p = x :=
  kTok_un (Classical.epsilon_spec (p := kTok t n lim p) ⟨x, h⟩) h
/-- a WORD's code by its letters' places in the ABC, out of its code by bytes -/
def cv : Nat → Int → Int
  | 0, _ => 0
  | f + 1, v => if v ≤ 0 then 0 else 32 * cv f (v / 256) + (v % 256 - 96)
theorem cv_tF {t : Nat → Int} {q : Nat} : ∀ (k f : Nat), k ≤ f → (∀ i, i < k → tL (t (q + i))) → cv f (tF 256 t q k) = tF 32 (fun j => t j - 96) q k := by
  intro k
  induction k with
  | zero =>
    intro f _ _
    cases f with
    | zero => rfl
    | succ f => show (if (0 : Int) ≤ 0 then 0 else _) = _; rw [if_pos (Int.le_refl _)]; rfl
  | succ k ih =>
    intro f hf h
    obtain ⟨f, rfl⟩ : ∃ g, f = g + 1 := ⟨f - 1, by omega⟩
    have h1 := tF_nn (b := 256) (by omega) (g := t) (q := q) k (fun i hi => by have := h i (by omega); omega)
    have h2 := h k (Nat.lt_succ_self k)
    have e : tF 256 t q (k + 1) = 256 * tF 256 t q k + t (q + k) := rfl
    rw [e]
    show (if 256 * tF 256 t q k + t (q + k) ≤ 0 then 0 else 32 * cv f ((256 * tF 256 t q k + t (q + k)) / 256) + ((256 * tF 256 t q k + t (q + k)) % 256 - 96)) = 32 * tF 32 (fun j => t j - 96) q k + (t (q + k) - 96)
    rw [if_neg (by omega), show (256 * tF 256 t q k + t (q + k)) / 256 = tF 256 t q k by omega, show (256 * tF 256 t q k + t (q + k)) % 256 = t (q + k) by omega, ih f (by omega) (fun i hi => h i (by omega))]
/-- a WORD's code -/
def isW (v : Int) : Prop := ∃ (t : Nat → Int) (q k : Nat), 0 < k ∧ k ≤ 7 ∧ (∀ i, i < k → tL (t (q + i))) ∧ v = tF 256 t q k
theorem cv_inj {v w : Int} (hv : isW v) (hw : isW w) : cv 7 v = cv 7 w ↔ v = w := by
  obtain ⟨t, q, k, _, k7, h, rfl⟩ := hv
  obtain ⟨t', q', k', _, k7', h', rfl⟩ := hw
  rw [cv_tF k 7 k7 h, cv_tF k' 7 k7' h']
  constructor
  · intro e
    obtain ⟨rfl, g⟩ := tF_inj (.inl rfl) k k' (fun i hi => by have := h i hi; show 0 < t (q + i) - 96 ∧ t (q + i) - 96 < 32; omega) (fun i hi => by have := h' i hi; show 0 < t' (q' + i) - 96 ∧ t' (q' + i) - 96 < 32; omega) e
    exact tF_cg k (fun i hi => by have := g i hi; have g : t (q + i) - 96 = t' (q' + i) - 96 := this; omega)
  · intro e
    obtain ⟨rfl, g⟩ := tF_inj (.inr rfl) k k' (fun i hi => by have := h i hi; omega) (fun i hi => by have := h' i hi; omega) e
    exact tF_cg k (fun i hi => by show t (q + i) - 96 = t' (q' + i) - 96; rw [g i hi])
/-- which of them a WORD is; -1: none -/
def rIx (v : Int) : Int := ((List.range 24).find? (fun i => decide (rCd i = v))).elim (-1) (fun i => (i : Int))
/-- what the ALLEYS say -/
abbrev Ld : Type := Int × Int × (Nat → Nat → Bool) × (Nat → Nat) × (Nat → Int) × Nat × (Nat → Int) × (Nat → Int) × (Nat → Int) × (Nat → Int) × (Nat → Int) × (Nat → Int) × (Nat → Bool) × (Nat → Int) × Nat
abbrev Ld.w (S : Ld) : Int := S.1
abbrev Ld.h (S : Ld) : Int := S.2.1
abbrev Ld.mk (S : Ld) : Nat → Nat → Bool := S.2.2.1
abbrev Ld.told (S : Ld) : Nat → Nat := S.2.2.2.1
abbrev Ld.lane (S : Ld) : Nat → Int := S.2.2.2.2.1
abbrev Ld.ch (S : Ld) : Nat := S.2.2.2.2.2.1
abbrev Ld.nm (S : Ld) : Nat → Int := S.2.2.2.2.2.2.1
abbrev Ld.fr (S : Ld) : Nat → Int := S.2.2.2.2.2.2.2.1
abbrev Ld.rk (S : Ld) : Nat → Int := S.2.2.2.2.2.2.2.2.1
abbrev Ld.ld (S : Ld) : Nat → Int := S.2.2.2.2.2.2.2.2.2.1
abbrev Ld.bd (S : Ld) : Nat → Int := S.2.2.2.2.2.2.2.2.2.2.1
abbrev Ld.st (S : Ld) : Nat → Int := S.2.2.2.2.2.2.2.2.2.2.2.1
abbrev Ld.sk (S : Ld) : Nat → Bool := S.2.2.2.2.2.2.2.2.2.2.2.2.1
abbrev Ld.law (S : Ld) : Nat → Int := S.2.2.2.2.2.2.2.2.2.2.2.2.2.1
abbrev Ld.laws (S : Ld) : Nat := S.2.2.2.2.2.2.2.2.2.2.2.2.2.2
def Ld0 : Ld := (0, 0, fun _ _ => false, fun _ => 0, fun _ => -1, 0, fun _ => 0, fun _ => 0, fun _ => 0, fun _ => 0, fun _ => 0, fun _ => -1, fun _ => false, fun _ => 0, 0)
/-- what a LINE changes -/
def uMark (S : Ld) (sort a : Nat) : Ld := (S.w, S.h, fun s b => if s = sort ∧ b = a then true else S.mk s b, fun s => if s = sort then S.told s + 1 else S.told s, S.lane, S.ch, S.nm, S.fr, S.rk, S.ld, S.bd, S.st, S.sk, S.law, S.laws)
def uLane (S : Ld) (a : Nat) (d : Int) : Ld := (S.w, S.h, S.mk, fun s => if s = 4 then S.told s + 1 else S.told s, fun b => if b = a then d else S.lane b, S.ch, S.nm, S.fr, S.rk, S.ld, S.bd, S.st, S.sk, S.law, S.laws)
def uChair (S : Ld) (v f r d b : Int) : Ld := (S.w, S.h, S.mk, S.told, S.lane, S.ch + 1, fun i => if i = S.ch then v else S.nm i, fun i => if i = S.ch then f else S.fr i, fun i => if i = S.ch then r else S.rk i, fun i => if i = S.ch then d else S.ld i, fun i => if i = S.ch then b else S.bd i, S.st, S.sk, S.law, S.laws)
def uStart (S : Ld) (c : Nat) (v : Int) : Ld := (S.w, S.h, S.mk, S.told, S.lane, S.ch, S.nm, S.fr, S.rk, S.ld, S.bd, fun i => if i = c then v else S.st i, S.sk, S.law, S.laws)
def uSick (S : Ld) (c : Nat) : Ld := (S.w, S.h, S.mk, S.told, S.lane, S.ch, S.nm, S.fr, S.rk, S.ld, S.bd, S.st, fun i => if i = c then true else S.sk i, S.law, S.laws)
def uWay (S : Ld) (v : Int) : Ld := (S.w, S.h, S.mk, S.told, S.lane, S.ch, S.nm, S.fr, S.rk, S.ld, S.bd, S.st, S.sk, fun i => if i = S.laws then v else S.law i, S.laws + 1)
def uSize (S : Ld) (w h : Int) : Ld := (w, h, S.mk, S.told, S.lane, S.ch, S.nm, S.fr, S.rk, S.ld, S.bd, S.st, S.sk, S.law, S.laws)
/-- a FAULT (sort, place), or what is read and where it goes on -/
abbrev Rs (α : Type) : Type := (Int × Nat) ⊕ α
section Sp
variable (tk : Nat → Tk)
def kNum (lo hi : Int) (p : Nat) : Rs (Int × Nat) :=
  if (tk p).1 = 2 then (if lo ≤ (tk p).2.2.1 ∧ (tk p).2.2.1 ≤ hi then .inr ((tk p).2.2.1, (tk p).2.2.2) else .inl (2, (tk p).2.1)) else .inl (1, (tk p).2.1)
/-- X is read, Y looked at: the CELL, and where Y stands -/
def kCell (S : Ld) (p : Nat) : Rs (Int × Nat) :=
  match kNum tk 0 (S.w - 1) p with
  | .inl f => .inl f
  | .inr (x, p1) => match kNum tk 0 (S.h - 1) p1 with
    | .inl f => .inl f
    | .inr (y, _) => .inr (10 * y + x, p1)
def kMark (S : Ld) (sort most : Nat) (p : Nat) : Rs (Ld × Nat) :=
  if most ≤ S.told sort then .inl (4, (tk p).2.1) else
  match kCell tk S (tk p).2.2.2 with
  | .inl f => .inl f
  | .inr (c, p1) => if S.mk sort c.toNat then .inl (3, (tk p1).2.1) else
    .inr (uMark S sort c.toNat, (tk p1).2.2.2)
def kDir (p : Nat) : Rs (Int × Nat) :=
  if (tk p).1 = 1 ∧ 12 ≤ rIx (tk p).2.2.1 ∧ rIx (tk p).2.2.1 ≤ 15 then .inr (rIx (tk p).2.2.1 - 12, (tk p).2.2.2) else .inl (1, (tk p).2.1)
def kLane (S : Ld) (p : Nat) : Rs (Ld × Nat) :=
  if 20 ≤ S.told 4 then .inl (4, (tk p).2.1) else
  match kCell tk S (tk p).2.2.2 with
  | .inl f => .inl f
  | .inr (c, p1) => if S.lane c.toNat ≠ -1 then .inl (3, (tk p1).2.1) else
    match kDir tk (tk p1).2.2.2 with
    | .inl f => .inl f
    | .inr (d, p2) => .inr (uLane S c.toNat d, p2)
/-- which CHAIR bears the NAME; -1: none -/
def kFind (S : Ld) (v : Int) : Int := ((List.range S.ch).find? (fun i => decide (S.nm i = v))).elim (-1) (fun i => (i : Int))
abbrev kIsName (p : Nat) : Prop := (tk p).1 = 1 ∧ rIx (tk p).2.2.1 = -1
/-- a CELL where no WALL is, read to its end -/
def kOpen (S : Ld) (p : Nat) : Rs (Int × Nat) :=
  match kCell tk S p with
  | .inl f => .inl f
  | .inr (c, p1) => if S.mk 1 c.toNat then .inl (5, (tk p1).2.1) else .inr (c, (tk p1).2.2.2)
/-- behind NAME and place: RANK, load, where it is bound -/
def kChair3 (S : Ld) (v f : Int) (p : Nat) : Rs (Ld × Nat) :=
  match kNum tk 0 9 p with
  | .inl f => .inl f
  | .inr (r, p2) => match kNum tk 0 9 p2 with
    | .inl f => .inl f
    | .inr (d, p3) => match kOpen tk S p3 with
      | .inl f => .inl f
      | .inr (b, p4) => .inr (uChair S v f r d b, p4)
def kChair2 (S : Ld) (v : Int) (p : Nat) : Rs (Ld × Nat) :=
  match kOpen tk S p with
  | .inl f => .inl f
  | .inr (f, p1) => kChair3 tk S v f p1
def kChair (S : Ld) (p : Nat) : Rs (Ld × Nat) :=
  if 8 ≤ S.ch then .inl (4, (tk p).2.1) else
  if ¬ kIsName tk (tk p).2.2.2 then .inl (1, (tk (tk p).2.2.2).2.1) else
  if kFind S (tk (tk p).2.2.2).2.2.1 ≠ -1 then .inl (3, (tk (tk p).2.2.2).2.1) else
  kChair2 tk S (tk (tk p).2.2.2).2.2.1 (tk (tk p).2.2.2).2.2.2
def kName (S : Ld) (p : Nat) : Rs Nat :=
  if ¬ kIsName tk p then .inl (1, (tk p).2.1) else
  if kFind S (tk p).2.2.1 = -1 then .inl (3, (tk p).2.1) else .inr (kFind S (tk p).2.2.1).toNat
def kStart (S : Ld) (p : Nat) : Rs (Ld × Nat) :=
  match kName tk S (tk p).2.2.2 with
  | .inl f => .inl f
  | .inr c => if S.st c ≠ -1 then .inl (3, (tk (tk p).2.2.2).2.1) else
    match kNum tk 0 99 (tk (tk p).2.2.2).2.2.2 with
    | .inl f => .inl f
    | .inr (v, p1) => .inr (uStart S c v, p1)
def kSick (S : Ld) (p : Nat) : Rs (Ld × Nat) :=
  match kName tk S (tk p).2.2.2 with
  | .inl f => .inl f
  | .inr c => if S.sk c then .inl (3, (tk (tk p).2.2.2).2.1) else
    .inr (uSick S c, (tk (tk p).2.2.2).2.2.2)
/-- is the WAY told? -/
def kHas (S : Ld) (v : Int) : Bool := (List.range S.laws).any (fun i => decide (S.law i = v))
/-- the WAYS of the LAW from p on; m: so many more may come -/
def kWays : Nat → Ld → Nat → Rs (Ld × Nat)
  | 0, S, p => .inr (S, p)
  | m + 1, S, p =>
    if 0 < S.laws ∧ (tk p).1 = 3 ∧ (tk p).2.2.1 = 59 then .inr (S, p) else
    if ¬ ((tk p).1 = 1 ∧ 9 ≤ rIx (tk p).2.2.1 ∧ rIx (tk p).2.2.1 ≤ 11) then .inl (1, (tk p).2.1) else
    if 3 ≤ S.laws ∨ kHas S (rIx (tk p).2.2.1) = true then .inl (3, (tk p).2.1) else
    kWays m (uWay S (rIx (tk p).2.2.1)) (tk p).2.2.2
def kLaw (S : Ld) (p : Nat) : Rs (Ld × Nat) :=
  if S.laws ≠ 0 then .inl (3, (tk p).2.1) else kWays tk 4 S (tk p).2.2.2
def kSize (S : Ld) (p : Nat) : Rs (Ld × Nat) :=
  if S.w ≠ 0 then .inl (3, (tk p).2.1) else
  match kNum tk 2 10 (tk p).2.2.2 with
  | .inl f => .inl f
  | .inr (w, p1) => match kNum tk 2 10 p1 with
    | .inl f => .inl f
    | .inr (h, p2) => .inr (uSize S w h, p2)
def kLine (S : Ld) (p : Nat) : Rs (Ld × Nat) :=
  if (tk p).1 ≠ 1 then .inl (1, (tk p).2.1) else
  if rIx (tk p).2.2.1 = 0 then kSize tk S p else
  if rIx (tk p).2.2.1 = 1 then kMark tk S 1 40 p else
  if rIx (tk p).2.2.1 = 2 then kMark tk S 2 12 p else
  if rIx (tk p).2.2.1 = 3 then kMark tk S 3 12 p else
  if rIx (tk p).2.2.1 = 4 then kLane tk S p else
  if rIx (tk p).2.2.1 = 5 then kChair tk S p else
  if rIx (tk p).2.2.1 = 6 then kStart tk S p else
  if rIx (tk p).2.2.1 = 7 then kSick tk S p else
  if rIx (tk p).2.2.1 = 8 then kLaw tk S p else .inl (1, (tk p).2.1)
/-- a sign, which is passed -/
def kSign (c : Int) (p : Nat) : Rs Nat := if (tk p).1 = 3 ∧ (tk p).2.2.1 = c then .inr (tk p).2.2.2 else .inl (1, (tk p).2.1)
/-- all LINES from p on: what they say, and how many; m: no more than so many are left -/
def kAll : Nat → Ld → Nat → Nat → Rs (Ld × Nat)
  | 0, S, c, _ => .inr (S, c)
  | m + 1, S, c, p => if (tk p).1 = 0 then .inr (S, c) else
    match kLine tk S p with
    | .inl f => .inl f
    | .inr (S1, p1) => match kSign tk 59 p1 with
      | .inl f => .inl f
      | .inr p2 => kAll m S1 (c + 1) p2
end Sp
