/-! THE ROWS OF CODE ARE THE METHODS' OWN: a check that the kernel runs; and one step of the abstract machine -/
def zIx (S : zS) (i : Nat) (w : Jvm.Cond) : Bool := decide ((sW S)[i]? = some w)
theorem zIx_in {S : zS} {i : Nat} {w : Jvm.Cond} (h : zIx S i w = true) : w ∈ sW S := List.mem_of_getElem? (of_decide_eq_true h)
/-- a callee's words by their places: initialized (the second), instanceMethod or static, selects; its code's word is told apart -/
def zMtB (S : zS) (pl : List (List Nat)) (a ml : Nat) : Bool := match pl[a]? with
  | some (_ :: p1 :: _) => plainName (sY S a).cls && (decide (sM S a = ml) && (decide (ml ≤ 21) && (zIx S p1 (.initialized (sY S a).cls) && (decide ((sY S a).cls ≠ "java/lang/invoke/MethodHandle") && decide ((sY S a).cls ≠ "java/lang/invoke/VarHandle")))))
  | _ => false
theorem zMtB_to {S : zS} {pl : List (List Nat)} {a ml : Nat} (h : zMtB S pl a ml = true) (hc : Jvm.Cond.code (sY S a) (sC S a) (sM S a) (sR S a) ∈ sW S) : zMt S a ml := by
  unfold zMtB at h
  split at h
  · simp only [Bool.and_eq_true, decide_eq_true_eq] at h
    exact ⟨h.1, h.2.1, h.2.2.1, hc, zIx_in h.2.2.2.1, h.2.2.2.2⟩
  · cases h
def zLkB (S : zS) (G : zG0) (pl : List (List Nat)) (mi a eb ec x y : Nat) : Bool := match pl[a]?, G.1[a]? with
  | some [_, _, p2, p3], some ((an, _), _) => (match eb with
    | 0 => zIx S y (.methodLink (sY S mi).cls x (sY S a)) && (zIx S p2 (.instanceMethod (sY S a)) && (zIx S p3 (.selects (sY S a).cls (sY S a) (sY S a)) && (decide (((sCl S)[ec]?).map (fun q => q.1) = some (sY S a).cls) && decide ((parseMethodDescriptor (sY S a).desc).map (fun d => d.parameters.length + 1) = some an))))
    | 1 => (zIx S y (.methodLink (sY S mi).cls x (sY S a)) || (match (sNw S)[ec]? with | some q => decide (q.1 = (sY S mi).cls) && (decide (q.2.1 = x) && decide (q.2.2.1 = sY S a)) | none => false)) && (zIx S p2 (.instanceMethod (sY S a)) && (decide ((sY S a).name = "<init>") && (decide (sR S a = none) && decide ((parseMethodDescriptor (sY S a).desc).map (fun d => d.parameters.length + 1) = some an))))
    | _ => zIx S y (.methodLink (sY S mi).cls x (sY S a)) && (zIx S p2 (.static (sY S a)) && decide ((parseMethodDescriptor (sY S a).desc).map (fun d => d.parameters.length) = some an)))
  | _, _ => false
theorem zs_par {o : Option MethodDescriptor} {an : Nat} (h : o.map (fun d => d.parameters.length + 1) = some an) : ∃ n, o.map (fun d => d.parameters.length) = some n ∧ an = n + 1 := by
  cases o with
  | none => cases h
  | some q => cases h; exact ⟨_, rfl, rfl⟩
theorem zLkB_to {S : zS} {G : zG0} {pl : List (List Nat)} {mi a eb ec x y : Nat} (h : zLkB S G pl mi a eb ec x y = true) : ∀ an ml mc ms tb', zN G.1 a = some ((an, ml), mc, ms, tb') → zLk S mi a an eb ec x := by
  intro an ml mc ms tb' hG
  rw [zN_eq] at hG
  unfold zLkB at h
  rw [hG] at h
  split at h
  · rename_i p0 p1 p2 p3 an' ml' rr hpl hgg
    cases hgg
    match eb, h with
    | 0, h =>
      simp only [Bool.and_eq_true, decide_eq_true_eq] at h
      obtain ⟨h1, h2, h3, h4, h5⟩ := h
      refine Or.inl ⟨rfl, zIx_in h1, zIx_in h2, zIx_in h3, ?_, zs_par h5⟩
      cases hc : (sCl S)[ec]? with
      | none => rw [hc] at h4; cases h4
      | some q =>
        rw [hc] at h4
        obtain ⟨C, T, N⟩ := q
        have h4 : C = _ := Option.some.inj h4
        exact ⟨T, N, by rw [h4]⟩
    | 1, h =>
      simp only [Bool.and_eq_true, Bool.or_eq_true, decide_eq_true_eq] at h
      obtain ⟨h1, h2, h3, h4, h5⟩ := h
      refine Or.inr (Or.inl ⟨rfl, ?_, zIx_in h2, h3, h4, zs_par h5⟩)
      rcases h1 with h1 | h1
      · exact Or.inl (zIx_in h1)
      · cases hq : (sNw S)[ec]? with
        | none => rw [hq] at h1; cases h1
        | some q =>
          rw [hq] at h1
          simp only [Bool.and_eq_true, decide_eq_true_eq] at h1
          obtain ⟨q1, q2, q3, q4⟩ := q
          obtain ⟨k1, k2, k3⟩ := h1
          dsimp only at k1 k2 k3
          refine Or.inr ⟨q4, ?_⟩
          rw [← k1, ← k2, ← k3]
          exact List.mem_of_getElem? hq
    | e + 2, h =>
      have h : (zIx S y (.methodLink (sY S mi).cls x (sY S a)) && (zIx S p2 (.static (sY S a)) && decide ((parseMethodDescriptor (sY S a).desc).map (fun d => d.parameters.length) = some an))) = true := h
      simp only [Bool.and_eq_true, decide_eq_true_eq] at h
      exact Or.inr (Or.inr ⟨by omega, zIx_in h.1, zIx_in h.2.1, h.2.2⟩)
  · cases h
/-- the targets of a switch -/
def zSwB (pc : Nat) (offs : Array Int) (tg : List Nat) (n : Nat) : Bool := (List.range n).all (fun j => match offs[j]?, tg[j]? with | some off, some t => decide ((pc : Int) + off = (t : Int)) | _, _ => false)
/-- a row of code is this instruction -/
def zInsB (S : zS) (G : zG0) (pl : List (List Nat)) (mi pc op a b c x y nx : Nat) (ins : Instr) (len : Nat) : Bool := match ins with
  | .iconst n => decide (op = 0 ∧ len = 1 ∧ nx = pc + 1 ∧ Int32.ofInt n = nI a)
  | .bipush n => decide (op = 1 ∧ len = 2 ∧ nx = pc + 2 ∧ (Int8.ofInt n).toInt32 = nI a)
  | .sipush n => decide (op = 2 ∧ len = 3 ∧ nx = pc + 3 ∧ (Int16.ofInt n).toInt32 = nI a)
  | .ldc i => decide (op = 3 ∧ len = 2 ∧ nx = pc + 2 ∧ i = x) && zIx S y (.constant (sY S mi).cls x (nI a))
  | .ldc_w i => decide (op = 4 ∧ len = 3 ∧ nx = pc + 3 ∧ i = x) && zIx S y (.constant (sY S mi).cls x (nI a))
  | .ldc2_w i => decide (op = 5 ∧ len = 3 ∧ nx = pc + 3 ∧ i = x) && zIx S y (.constantLong (sY S mi).cls x (Int64.ofNat a))
  | .iload_n k => decide (op = 10 ∧ len = 1 ∧ nx = pc + 1 ∧ (k : Nat) = a)
  | .iload k => decide (op = 11 ∧ len = 2 ∧ nx = pc + 2 ∧ k = a)
  | .aload_n k => decide (op = 12 ∧ len = 1 ∧ nx = pc + 1 ∧ (k : Nat) = a)
  | .aload k => decide (op = 13 ∧ len = 2 ∧ nx = pc + 2 ∧ k = a)
  | .lload_n k => decide (op = 14 ∧ len = 1 ∧ nx = pc + 1 ∧ (k : Nat) = a)
  | .lload k => decide (op = 15 ∧ len = 2 ∧ nx = pc + 2 ∧ k = a)
  | .istore_n k => decide (op = 20 ∧ len = 1 ∧ nx = pc + 1 ∧ (k : Nat) = a ∧ a < sM S mi)
  | .istore k => decide (op = 21 ∧ len = 2 ∧ nx = pc + 2 ∧ k = a ∧ a < sM S mi)
  | .astore_n k => decide (op = 22 ∧ len = 1 ∧ nx = pc + 1 ∧ (k : Nat) = a ∧ a < sM S mi)
  | .astore k => decide (op = 23 ∧ len = 2 ∧ nx = pc + 2 ∧ k = a ∧ a < sM S mi)
  | .iinc k n => decide (op = 26 ∧ len = 3 ∧ nx = pc + 3 ∧ k = a ∧ a < sM S mi ∧ Int32.ofInt n = nI b)
  | .iadd => decide (op = 30 ∧ len = 1 ∧ nx = pc + 1)
  | .isub => decide (op = 31 ∧ len = 1 ∧ nx = pc + 1)
  | .imul => decide (op = 32 ∧ len = 1 ∧ nx = pc + 1)
  | .idiv => decide (op = 33 ∧ len = 1 ∧ nx = pc + 1)
  | .irem => decide (op = 34 ∧ len = 1 ∧ nx = pc + 1)
  | .ishr => decide (op = 39 ∧ len = 1 ∧ nx = pc + 1)
  | .i2b => decide (op = 40 ∧ len = 1 ∧ nx = pc + 1)
  | .dup => decide (op = 50 ∧ len = 1 ∧ nx = pc + 1)
  | .dup2 => decide (op = 51 ∧ len = 1 ∧ nx = pc + 1)
  | .pop => decide (op = 52 ∧ len = 1 ∧ nx = pc + 1)
  | .ifCond k off => decide (60 ≤ op ∧ op < 66 ∧ k = zCn (op - 60) ∧ len = 3 ∧ nx = pc + 3 ∧ (pc : Int) + off = (a : Int))
  | .if_icmp k off => decide (70 ≤ op ∧ op < 76 ∧ k = zCn (op - 70) ∧ len = 3 ∧ nx = pc + 3 ∧ (pc : Int) + off = (a : Int))
  | .goto off => decide (op = 80 ∧ len = 3 ∧ (pc : Int) + off = (a : Int))
  | .ifnonnull off => decide (op = 82 ∧ len = 3 ∧ nx = pc + 3 ∧ (pc : Int) + off = (a : Int))
  | .tableswitch dflt lo hi offs => (match G.2.2[c]? with
    | some tg => decide (op = 83 ∧ (a : Int) = lo + 2147483648 ∧ (a + b : Int) = hi + 2147483649 ∧ (pc : Int) + dflt = (nx : Int)) && zSwB pc offs tg b
    | none => false)
  | .getfield i => (match (sCl S)[a]? with
    | some (_, T, N) => decide (op = 90 ∧ len = 3 ∧ nx = pc + 3 ∧ i = x ∧ b < N) && zIx S y (.fieldLink (sY S mi).cls x (T b).1 (T b).2.1 (T b).2.2.1)
    | none => false)
  | .putfield i => (match (sCl S)[a]? with
    | some (_, T, N) => (match parseFieldDescriptor (T b).2.2.1 with
      | some ty => decide ((op = 91 ∨ op = 92) ∧ len = 3 ∧ nx = pc + 3 ∧ i = x ∧ b < N ∧ c = zKd ty ∧ ((T b).2.2.2 = false ∨ ((T b).2.2.2 = true ∧ (sY S mi).name = "<init>" ∧ (T b).1 = (sY S mi).cls))) && zIx S y (.fieldLink (sY S mi).cls x (T b).1 (T b).2.1 (T b).2.2.1)
      | none => false)
    | none => false)
  | .new i => (match (sCl S)[a]? with
    | some (C, _, N) => decide (op = 100 ∧ len = 3 ∧ nx = pc + 3 ∧ i = x ∧ N = b) && zIx S y (.classLink (sY S mi).cls x C)
    | none => false)
  | .newarray t => decide (op = 101 ∧ len = 2 ∧ nx = pc + 2 ∧ ((a = 0 ∧ t = .byte) ∨ (a = 1 ∧ t = .int) ∨ (a = 2 ∧ t = .long) ∨ (a = 3 ∧ t = .boolean)))
  | .anewarray i => decide (op = 102 ∧ len = 3 ∧ nx = pc + 3 ∧ i = x) && ((decide (a = 4 ∧ "ChairAlley$State" ∈ sAo S) && zIx S y (.classLink (sY S mi).cls x "ChairAlley$State")) || (decide (a = 5 ∧ "ChairAlley$World" ∈ sAo S) && zIx S y (.classLink (sY S mi).cls x "ChairAlley$World")))
  | .arraylength => decide (op = 103 ∧ len = 1 ∧ nx = pc + 1)
  | .iaload => decide (op = 110 ∧ len = 1 ∧ nx = pc + 1)
  | .iastore => decide (op = 111 ∧ len = 1 ∧ nx = pc + 1)
  | .baload => decide (op = 112 ∧ len = 1 ∧ nx = pc + 1)
  | .bastore => decide (op = 113 ∧ len = 1 ∧ nx = pc + 1)
  | .laload => decide (op = 114 ∧ len = 1 ∧ nx = pc + 1)
  | .lastore => decide (op = 115 ∧ len = 1 ∧ nx = pc + 1)
  | .aaload => decide (op = 116 ∧ len = 1 ∧ nx = pc + 1)
  | .aastore => decide (op = 117 ∧ len = 1 ∧ nx = pc + 1)
  | .ireturn => decide (len = 1 ∧ ((op = 120 ∧ sR S mi = some .int) ∨ (op = 121 ∧ sR S mi = some .boolean)))
  | .return_ => decide (op = 122 ∧ len = 1 ∧ sR S mi = none)
  | .invokevirtual i => decide (op = 130 ∧ len = 3 ∧ nx = pc + 3 ∧ i = x ∧ b = 0) && zLkB S G pl mi a b c x y
  | .invokespecial i => (decide (op = 131 ∧ len = 3 ∧ nx = pc + 3 ∧ i = x ∧ b = 1) && zLkB S G pl mi a b c x y) || (decide (op = 133 ∧ len = 3 ∧ nx = pc + 3 ∧ i = x) && zIx S y (.methodLink (sY S mi).cls x Lib.objectInit))
  | .invokestatic i => (decide (op = 132 ∧ len = 3 ∧ nx = pc + 3 ∧ i = x ∧ b = 2) && zLkB S G pl mi a b c x y) || ((decide (op = 135 ∧ len = 3 ∧ nx = pc + 3 ∧ i = x) && zIx S y (.methodLink (sY S mi).cls x arraycopyName)) || ((decide (op = 136 ∧ len = 3 ∧ nx = pc + 3 ∧ i = x) && zIx S y (.methodLink (sY S mi).cls x Lib.Math.min.name)) || (decide (op = 137 ∧ len = 3 ∧ nx = pc + 3 ∧ i = x) && zIx S y (.methodLink (sY S mi).cls x Lib.Math.max.name))))
  | _ => false
def zRowB (S : zS) (G : zG0) (pl : List (List Nat)) (mi : Nat) (e : zE) : Bool := match decode (sC S mi) e.1 with
  | .ok (ins, len) => zInsB S G pl mi e.1 e.2.1 e.2.2.1 e.2.2.2.1 e.2.2.2.2.1 e.2.2.2.2.2.1 e.2.2.2.2.2.2.1 e.2.2.2.2.2.2.2 ins len
  | .error _ => false
/-- all that is known of the program -/
def zAll (S : zS) (G : zG0) (pl : List (List Nat)) : Prop := (∀ w ∈ sW S, goodWord w = true) ∧ zCls S ∧ zMk S G ∧ zRaOk S ∧ zNt S ∧ (Jvm.Cond.arrayClass .byte ∈ sW S ∧ Jvm.Cond.arrayClass .int ∈ sW S ∧ Jvm.Cond.arrayClass .long ∈ sW S ∧ Jvm.Cond.arrayClass .boolean ∈ sW S) ∧
  ∀ (a : Nat) (mt : zM), G.1[a]? = some mt → (zMtB S pl a mt.1.2 = true ∧ Jvm.Cond.code (sY S a) (sC S a) (sM S a) (sR S a) ∈ sW S) ∧ ∀ l ∈ mt.2.2.2, ∀ e ∈ l, zRowB S G pl a e = true
