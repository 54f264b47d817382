/-! THE EXACT MACHINE, 1: values and heaps in numbers. A value: int, long (by their signed numbers), reference by place. A heap: how many cells; of each its sort and length (0 byte[], 1 int[], 2 long[], 3 boolean[], 4 State[], 5 World[], 10 + c an object of class c); what refers; what counts. -/
abbrev yV : Type := Int ⊕ (Int ⊕ Option Nat)
abbrev yi (x : Int) : yV := .inl x
abbrev yj (x : Int) : yV := .inr (.inl x)
abbrev yr (r : Option Nat) : yV := .inr (.inr r)
abbrev yL : Type := List (Nat × yV)
abbrev yHp : Type := Nat × (Nat → Nat × Nat) × (Nat → Nat → Option Nat) × (Nat → Nat → Int)
abbrev yTy (h : yHp) (k : Nat) : Nat × Nat := h.2.1 k
abbrev yR (h : yHp) (k j : Nat) : Option Nat := h.2.2.1 k j
abbrev yI (h : yHp) (k j : Nat) : Int := h.2.2.2 k j
def ySI (h : yHp) (k j : Nat) (v : Int) : yHp := (h.1, h.2.1, h.2.2.1, fun a b => if a = k ∧ b = j then v else h.2.2.2 a b)
def ySR (h : yHp) (k j : Nat) (r : Option Nat) : yHp := (h.1, h.2.1, fun a b => if a = k ∧ b = j then r else h.2.2.1 a b, h.2.2.2)
/-- a cell more, of sort c with n places -/
def yNw (h : yHp) (c n : Nat) : yHp := (h.1 + 1, fun a => if a = h.1 then (c, n) else h.2.1 a, fun a b => if a = h.1 then none else h.2.2.1 a b, fun a b => if a = h.1 then 0 else h.2.2.2 a b)
/-- an int, a long by its number -/
abbrev y32 (x : Int) : Int32 := Int32.ofInt x
abbrev y64 (x : Int) : Int64 := Int64.ofInt x
def yadd (x y : Int) : Int := (y32 x + y32 y).toInt
def ysub (x y : Int) : Int := (y32 x - y32 y).toInt
def ymul (x y : Int) : Int := (y32 x * y32 y).toInt
def ydiv (x y : Int) : Int := (y32 x / y32 y).toInt
def yrem (x y : Int) : Int := (y32 x - y32 x / y32 y * y32 y).toInt
def yand (x y : Int) : Int := (y32 x &&& y32 y).toInt
def yor (x y : Int) : Int := (y32 x ||| y32 y).toInt
def yxor (x y : Int) : Int := (y32 x ^^^ y32 y).toInt
/-- what a row of sort c keeps of an int -/
def ynar (c : Nat) (x : Int) : Int := (vp_nar (match c with | 0 => .byte | 3 => .boolean | _ => .int) (y32 x)).toInt
def yLd : yL → Nat → Option yV
  | [], _ => none
  | a :: t, i => cond (Nat.beq a.1 i) (some a.2) (yLd t i)
def yIsL (v : yV) : Bool := match v with
  | .inr (.inl _) => true
  | _ => false
/-- locals, with a value of one word (two words) at i -/
def yRm (i : Nat) : yL → yL
  | [] => []
  | a :: t => cond (Nat.beq a.1 i || (Nat.beq (Nat.succ a.1) i && yIsL a.2)) (yRm i t) (a :: yRm i t)
def yRm2 (i : Nat) : yL → yL
  | [] => []
  | a :: t => cond (Nat.beq a.1 i || (Nat.beq a.1 (i + 1) || (Nat.beq (Nat.succ a.1) i && yIsL a.2))) (yRm2 i t) (a :: yRm2 i t)
def ySt (i : Nat) (v : yV) (lo : yL) : yL := (i, v) :: yRm i lo
def ySt2 (i : Nat) (v : yV) (lo : yL) : yL := (i, v) :: yRm2 i lo
abbrev yKo : Type := Option yV → yHp → Prop

/-! what they stand for -/
def yG (ad : Nat → Nat) (bn : Nat) (a : yV) (v : Value) : Prop := match a with
  | .inl x => ∃ i : Int32, v = .int i ∧ i.toInt = x
  | .inr (.inl x) => ∃ i : Int64, v = .long i ∧ i.toInt = x
  | .inr (.inr r) => v = va_rf (r.map ad) ∧ ∀ k, r = some k → k < bn
def yGs (ad : Nat → Nat) (bn : Nat) : List yV → List Value → Prop
  | [], vs => vs = []
  | a :: t, vs => ∃ v vt, vs = v :: vt ∧ yG ad bn a v ∧ yGs ad bn t vt
def yGl (ad : Nat → Nat) (bn : Nat) : yL → List (Nat × Value) → Prop
  | [], vs => vs = []
  | a :: t, vs => ∃ v vt, vs = (a.1, v) :: vt ∧ yG ad bn a.2 v ∧ yGl ad bn t vt
/-- the field j of an object of class c, by its sort (0 int or boolean, 1 long, 2 reference) -/
def yFd (h : yHp) (k j s : Nat) : yV := match s with
  | 0 => yi (yI h k j)
  | 1 => yj (yI h k j)
  | _ => yr (yR h k j)
/-- a cell stands for a cell of a world; cy: the classes of the kinds of arrays; Fk: the sorts of fields -/
def yGc (ad : Nat → Nat) (cy : Nat → ClassId) (Fk : Nat → Nat → Nat) (h : yHp) (k : Nat) (e : va_E) : Prop :=
  (((yTy h k).1 = 0 ∨ (yTy h k).1 = 1 ∨ (yTy h k).1 = 3) → ∃ f : Nat → Int32, e = .inl (cy (yTy h k).1, (yTy h k).2, .inl f) ∧ ∀ j, j < (yTy h k).2 → (f j).toInt = yI h k j) ∧
  ((yTy h k).1 = 2 → ∃ f : Nat → Int64, e = .inl (cy 2, (yTy h k).2, .inr (.inl f)) ∧ ∀ j, j < (yTy h k).2 → (f j).toInt = yI h k j) ∧
  (((yTy h k).1 = 4 ∨ (yTy h k).1 = 5) → ∃ f : Nat → Option Nat, e = .inl (cy (yTy h k).1, (yTy h k).2, .inr (.inr (.inr (.inr f)))) ∧ ∀ j, j < (yTy h k).2 → f j = (yR h k j).map ad ∧ ∀ q, yR h k j = some q → q < h.1) ∧
  (∀ c, (yTy h k).1 = 10 + c → ∃ vs, e = .inr (c, vs) ∧ vs.length = (yTy h k).2 ∧ ∀ j, j < (yTy h k).2 → ∃ v, vs[j]? = some v ∧ yG ad h.1 (yFd h k j (Fk c j)) v) ∧
  (∀ n, yTy h k = (3, n) → ∀ j, j < n → yI h k j = 0 ∨ yI h k j = 1)
def yRel (ad : Nat → Nat) (cy : Nat → ClassId) (Fk : Nat → Nat → Nat) (h : yHp) (ws : va_W) : Prop :=
  ws.length = h.1 ∧ (∀ k p, ws[k]? = some p → p.1 = ad k) ∧ ∀ k, k < h.1 → ∃ e, ws[k]? = some (ad k, e) ∧ yGc ad cy Fk h k e

theorem y32_to (i : Int32) : y32 i.toInt = i := Int32.ofInt_toInt i
theorem y64_to (i : Int64) : y64 i.toInt = i := Int64.ofInt_toInt i
theorem yG_up {ad ad' : Nat → Nat} {bn bn' : Nat} (h1 : ∀ k, k < bn → ad' k = ad k) (h2 : bn ≤ bn') {a : yV} {v : Value} (h : yG ad bn a v) : yG ad' bn' a v := by
  match a, h with
  | .inl _, h => exact h
  | .inr (.inl _), h => exact h
  | .inr (.inr none), h => exact ⟨h.1, fun k q => by cases q⟩
  | .inr (.inr (some k)), h =>
    have hk := h.2 k rfl
    refine ⟨?_, fun k' q => by cases q; omega⟩
    rw [h.1]
    show Value.ref (ad k) = Value.ref (ad' k)
    rw [h1 k hk]
theorem yGs_up {ad ad' : Nat → Nat} {bn bn' : Nat} (h1 : ∀ k, k < bn → ad' k = ad k) (h2 : bn ≤ bn') : ∀ {fs : List yV} {vs : List Value}, yGs ad bn fs vs → yGs ad' bn' fs vs := by
  intro fs
  induction fs with
  | nil => intro vs h; exact h
  | cons a t ih =>
    intro vs h
    obtain ⟨v, vt, rfl, g1, g2⟩ := h
    exact ⟨v, vt, rfl, yG_up h1 h2 g1, ih g2⟩
theorem yGl_up {ad ad' : Nat → Nat} {bn bn' : Nat} (h1 : ∀ k, k < bn → ad' k = ad k) (h2 : bn ≤ bn') : ∀ {fs : yL} {vs : List (Nat × Value)}, yGl ad bn fs vs → yGl ad' bn' fs vs := by
  intro fs
  induction fs with
  | nil => intro vs h; exact h
  | cons a t ih =>
    intro vs h
    obtain ⟨v, vt, rfl, g1, g2⟩ := h
    exact ⟨v, vt, rfl, yG_up h1 h2 g1, ih g2⟩
theorem yG_cat {ad : Nat → Nat} {bn : Nat} {a : yV} {v : Value} (h : yG ad bn a v) : v.category = cond (yIsL a) 2 1 := by
  match a, h with
  | .inl _, h => obtain ⟨i, rfl, _⟩ := h; rfl
  | .inr (.inl _), h => obtain ⟨i, rfl, _⟩ := h; rfl
  | .inr (.inr none), h => rw [h.1]; rfl
  | .inr (.inr (some k)), h => rw [h.1]; rfl
def yCat : List yV → Nat
  | [] => 0
  | a :: t => cond (yIsL a) 2 1 + yCat t
theorem yGs_cat {ad : Nat → Nat} {bn : Nat} : ∀ {fs : List yV} {vs : List Value}, yGs ad bn fs vs → (vs.map fun v => v.category).sum = yCat fs := by
  intro fs
  induction fs with
  | nil => intro vs h; rw [show vs = [] from h]; rfl
  | cons a t ih =>
    intro vs h
    obtain ⟨v, vt, rfl, g1, g2⟩ := h
    simp only [List.map_cons, List.sum_cons, yCat, yG_cat g1, ih g2]
theorem yGs_len {ad : Nat → Nat} {bn : Nat} : ∀ {fs : List yV} {vs : List Value}, yGs ad bn fs vs → vs.length = fs.length := by
  intro fs
  induction fs with
  | nil => intro vs h; rw [show vs = [] from h]; rfl
  | cons a t ih =>
    intro vs h
    obtain ⟨v, vt, rfl, _, g2⟩ := h
    simp [ih g2]
theorem yGl_at {ad : Nat → Nat} {bn : Nat} : ∀ {lo : yL} {lv : List (Nat × Value)} {i : Nat} {a : yV}, yGl ad bn lo lv → yLd lo i = some a → ∃ (k : Nat) (v : Value), lv[k]? = some (i, v) ∧ yG ad bn a v := by
  intro lo
  induction lo with
  | nil => intro lv i a _ h; cases h
  | cons b t ih =>
    intro lv i a hg h
    obtain ⟨v, vt, rfl, g1, g2⟩ := hg
    simp only [yLd] at h
    cases hb : Nat.beq b.1 i with
    | true =>
      rw [hb] at h
      cases h
      have e := Nat.eq_of_beq_eq_true hb
      exact ⟨0, v, by rw [← e]; rfl, g1⟩
    | false =>
      rw [hb] at h
      obtain ⟨k, w, h1, h2⟩ := ih g2 h
      exact ⟨k + 1, w, h1, h2⟩
theorem y_beq (a b : Nat) : Nat.beq a b = (a == b) := by rw [Bool.eq_iff_iff]; simp [Nat.beq_eq]
theorem ySt_to {ad : Nat → Nat} {bn : Nat} {i : Nat} {v : yV} {w : Value} {lo : yL} {lv : List (Nat × Value)} (hg : yGl ad bn lo lv) (hv : yG ad bn v w) : yGl ad bn (ySt i v lo) ((i, w) :: lv.filter (fun q => !(q.1 == i) && !(q.1 + 1 == i && q.2.category == 2))) := by
  refine ⟨w, _, rfl, hv, ?_⟩
  clear hv
  induction lo generalizing lv with
  | nil => rw [show lv = [] from hg]; rfl
  | cons b t ih =>
    obtain ⟨x, vt, rfl, h1, h2⟩ := hg
    have hc : x.category = cond (yIsL b.2) 2 1 := yG_cat h1
    have hq : (!(b.1 == i) && !(b.1 + 1 == i && x.category == 2)) = !(Nat.beq b.1 i || (Nat.beq (Nat.succ b.1) i && yIsL b.2)) := by
      rw [y_beq, y_beq, hc]
      cases b.1 == i <;> cases (b.1.succ == i) <;> cases yIsL b.2 <;> rfl
    rw [List.filter_cons]
    simp only [hq, yRm]
    cases (Nat.beq b.1 i || (Nat.beq (Nat.succ b.1) i && yIsL b.2)) with
    | true => exact ih h2
    | false => exact ⟨x, _, rfl, h1, ih h2⟩
theorem ySt2_to {ad : Nat → Nat} {bn : Nat} {i : Nat} {v : yV} {w : Value} {lo : yL} {lv : List (Nat × Value)} (hg : yGl ad bn lo lv) (hv : yG ad bn v w) : yGl ad bn (ySt2 i v lo) ((i, w) :: lv.filter (fun q => !(q.1 == i) && (!(q.1 == i + 1) && !(q.1 + 1 == i && q.2.category == 2)))) := by
  refine ⟨w, _, rfl, hv, ?_⟩
  clear hv
  induction lo generalizing lv with
  | nil => rw [show lv = [] from hg]; rfl
  | cons b t ih =>
    obtain ⟨x, vt, rfl, h1, h2⟩ := hg
    have hc : x.category = cond (yIsL b.2) 2 1 := yG_cat h1
    have hq : (!(b.1 == i) && (!(b.1 == i + 1) && !(b.1 + 1 == i && x.category == 2))) = !(Nat.beq b.1 i || (Nat.beq b.1 (i + 1) || (Nat.beq (Nat.succ b.1) i && yIsL b.2))) := by
      rw [y_beq, y_beq, y_beq, hc]
      cases b.1 == i <;> cases (b.1.succ == i) <;> cases b.1 == i + 1 <;> cases yIsL b.2 <;> rfl
    rw [List.filter_cons]
    simp only [hq, yRm2]
    cases (Nat.beq b.1 i || (Nat.beq b.1 (i + 1) || (Nat.beq (Nat.succ b.1) i && yIsL b.2))) with
    | true => exact ih h2
    | false => exact ⟨x, _, rfl, h1, ih h2⟩
/-- a cell changed -/
theorem yRel_set {ad : Nat → Nat} {cy : Nat → ClassId} {Fk : Nat → Nat → Nat} {h h' : yHp} {ws : va_W} {k : Nat} {e : va_E} (hR : yRel ad cy Fk h ws) (hk : k < h.1) (h1 : h'.1 = h.1) (h2 : h'.2.1 = h.2.1) (h3 : ∀ a, a ≠ k → ∀ b, yR h' a b = yR h a b ∧ yI h' a b = yI h a b) (hc : yGc ad cy Fk h' k e) : yRel ad cy Fk h' (ws.set k (ad k, e)) := by
  have hlt : k < ws.length := by rw [hR.1]; exact hk
  refine ⟨by rw [List.length_set, hR.1, h1], fun j p hj => ?_, fun j hj => ?_⟩
  · by_cases hjk : j = k
    · subst hjk
      rw [List.getElem?_set_self hlt] at hj
      cases hj
      rfl
    · rw [List.getElem?_set_ne (fun q => hjk q.symm)] at hj
      exact hR.2.1 j p hj
  · rw [h1] at hj
    by_cases hjk : j = k
    · subst hjk
      exact ⟨e, List.getElem?_set_self hlt, hc⟩
    · obtain ⟨e', g1, g2⟩ := hR.2.2 j hj
      rw [List.getElem?_set_ne (fun q => hjk q.symm)]
      refine ⟨e', g1, ?_⟩
      have hT : yTy h' j = yTy h j := by show h'.2.1 j = h.2.1 j; rw [h2]
      obtain ⟨p1, p2, p3, p4, p5⟩ := g2
      unfold yGc
      rw [hT]
      refine ⟨fun q => ?_, fun q => ?_, fun q => ?_, fun c q => ?_, fun n q i hi => by rw [(h3 j hjk i).2]; exact p5 n q i hi⟩
      · obtain ⟨f, f1, f2⟩ := p1 q
        exact ⟨f, f1, fun i hi => by rw [(h3 j hjk i).2]; exact f2 i hi⟩
      · obtain ⟨f, f1, f2⟩ := p2 q
        exact ⟨f, f1, fun i hi => by rw [(h3 j hjk i).2]; exact f2 i hi⟩
      · obtain ⟨f, f1, f2⟩ := p3 q
        exact ⟨f, f1, fun i hi => by rw [(h3 j hjk i).1, h1]; exact f2 i hi⟩
      · obtain ⟨vs, f1, f2, f3⟩ := p4 c q
        refine ⟨vs, f1, f2, fun i hi => ?_⟩
        obtain ⟨v, v1, v2⟩ := f3 i hi
        refine ⟨v, v1, ?_⟩
        rw [h1]
        have : yFd h' j i (Fk c i) = yFd h j i (Fk c i) := by unfold yFd; rw [(h3 j hjk i).1, (h3 j hjk i).2]
        rw [this]; exact v2
/-- the addresses, with one more -/
def yAd (ad : Nat → Nat) (n q : Nat) : Nat → Nat := fun k => if k = n then q else ad k
theorem yAd_old {ad : Nat → Nat} {n q : Nat} : ∀ k, k < n → yAd ad n q k = ad k := fun k hk => if_neg (Nat.ne_of_lt hk)
theorem yAd_new {ad : Nat → Nat} {n q : Nat} : yAd ad n q n = q := if_pos rfl
theorem y_map {ad ad' : Nat → Nat} {bn : Nat} (h1 : ∀ k, k < bn → ad' k = ad k) {r : Option Nat} (h : ∀ q, r = some q → q < bn) : r.map ad' = r.map ad := by
  cases r with
  | none => rfl
  | some k => show some (ad' k) = some (ad k); rw [h1 k (h k rfl)]
theorem yRel_add {ad : Nat → Nat} {cy : Nat → ClassId} {Fk : Nat → Nat → Nat} {h : yHp} {c n : Nat} {ws : va_W} {e : va_E} {q : Nat} (hR : yRel ad cy Fk h ws) (hc : yGc (yAd ad h.1 q) cy Fk (yNw h c n) h.1 e) : yRel (yAd ad h.1 q) cy Fk (yNw h c n) (ws ++ [(q, e)]) := by
  have hl : ws.length = h.1 := hR.1
  refine ⟨by simp [hl, yNw], fun j p hj => ?_, fun j hj => ?_⟩
  · by_cases hlt : j < ws.length
    · rw [List.getElem?_append_left hlt] at hj
      rw [hR.2.1 j p hj, yAd_old j (by omega)]
    · have hj2 : j < (ws ++ [(q, e)]).length := (List.getElem?_eq_some_iff.mp hj).1
      have : j = ws.length := by simp at hj2; omega
      subst this
      rw [List.getElem?_append_right (Nat.le_refl _)] at hj
      simp at hj
      rw [← hj, hl, yAd_new]
  · have hj' : j < h.1 + 1 := hj
    by_cases hlt : j < h.1
    · obtain ⟨e', g1, g2⟩ := hR.2.2 j hlt
      refine ⟨e', by rw [List.getElem?_append_left (by omega), yAd_old j hlt]; exact g1, ?_⟩
      have hjn : ¬ j = h.1 := by omega
      have hT : yTy (yNw h c n) j = yTy h j := by show (if j = h.1 then (c, n) else h.2.1 j) = h.2.1 j; rw [if_neg hjn]
      have hRr : ∀ b, yR (yNw h c n) j b = yR h j b := fun b => by show (if j = h.1 then none else h.2.2.1 j b) = h.2.2.1 j b; rw [if_neg hjn]
      have hIi : ∀ b, yI (yNw h c n) j b = yI h j b := fun b => by show (if j = h.1 then 0 else h.2.2.2 j b) = h.2.2.2 j b; rw [if_neg hjn]
      obtain ⟨p1, p2, p3, p4, p5⟩ := g2
      unfold yGc
      rw [hT]
      refine ⟨fun q => ?_, fun q => ?_, fun q => ?_, fun c' q' => ?_, fun n q i hi => by rw [hIi]; exact p5 n q i hi⟩
      · obtain ⟨f, f1, f2⟩ := p1 q
        exact ⟨f, f1, fun i hi => by rw [hIi]; exact f2 i hi⟩
      · obtain ⟨f, f1, f2⟩ := p2 q
        exact ⟨f, f1, fun i hi => by rw [hIi]; exact f2 i hi⟩
      · obtain ⟨f, f1, f2⟩ := p3 q
        refine ⟨f, f1, fun i hi => ?_⟩
        obtain ⟨q1, q2⟩ := f2 i hi
        rw [hRr]
        exact ⟨by rw [q1]; exact (y_map yAd_old q2).symm, fun a ha => Nat.lt_of_lt_of_le (q2 a ha) (Nat.le_succ _)⟩
      · obtain ⟨vs, f1, f2, f3⟩ := p4 c' q'
        refine ⟨vs, f1, f2, fun i hi => ?_⟩
        obtain ⟨v, v1, v2⟩ := f3 i hi
        refine ⟨v, v1, ?_⟩
        have : yFd (yNw h c n) j i (Fk c' i) = yFd h j i (Fk c' i) := by unfold yFd; rw [hRr, hIi]
        rw [this]; exact yG_up yAd_old (Nat.le_succ _) v2
    · have : j = h.1 := by omega
      subst this
      exact ⟨e, by rw [← hl, List.getElem?_append_right (Nat.le_refl _)]; simp [hl, yAd_new], hc⟩
