/-! THE EXACT MACHINE, 7: rows of code are the methods' own (a check that the kernel runs); a rule an op. Printed by wip/whole/y/gen66.py. -/
def zIx (S : zS) (i : Nat) (w : Jvm.Cond) : Bool := decide ((sW S)[i]? = some w)
theorem zIx_in {S : zS} {i : Nat} {w : Jvm.Cond} (h : zIx S i w = true) : w ∈ sW S := List.mem_of_getElem? (of_decide_eq_true h)
/-- a callee's words by their places: code, initialized, instanceMethod or static, selects -/
def zMtB (S : zS) (pl : List (List Nat)) (a ml : Nat) : Bool := match pl[a]? with
  | some (p0 :: p1 :: _) => plainName (sY S a).cls && (decide (sM S a = ml) && (decide (ml ≤ 21) && (zIx S p0 (.code (sY S a) (sC S a) (sM S a) (sR S a)) && (zIx S p1 (.initialized (sY S a).cls) && (decide ((sY S a).cls ≠ "java/lang/invoke/MethodHandle") && decide ((sY S a).cls ≠ "java/lang/invoke/VarHandle"))))))
  | _ => false
theorem zMtB_to {S : zS} {pl : List (List Nat)} {a ml : Nat} (h : zMtB S pl a ml = true) : zMt S a ml := by
  unfold zMtB at h
  split at h
  · simp only [Bool.and_eq_true, decide_eq_true_eq] at h
    exact ⟨h.1, h.2.1, h.2.2.1, zIx_in h.2.2.2.1, zIx_in h.2.2.2.2.1, h.2.2.2.2.2⟩
  · cases h
def zLkB (S : zS) (G : yGl0) (pl : List (List Nat)) (mi a eb ec x y : Nat) : Bool := match pl[a]?, G.1[a]? with
  | some [_, _, p2, p3], some ((an, _), _) => (match eb with
    | 0 => zIx S y (.methodLink (sY S mi).cls x (sY S a)) && (zIx S p2 (.instanceMethod (sY S a)) && (zIx S p3 (.selects (sY S a).cls (sY S a) (sY S a)) && (decide (((sCl S)[ec]?).map (fun q => q.1) = some (sY S a).cls) && decide ((parseMethodDescriptor (sY S a).desc).map (fun d => d.parameters.length + 1) = some an))))
    | 1 => (zIx S y (.methodLink (sY S mi).cls x (sY S a)) || (match (sNw S)[ec]? with | some q => decide (q.1 = (sY S mi).cls) && (decide (q.2.1 = x) && decide (q.2.2.1 = sY S a)) | none => false)) && (zIx S p2 (.instanceMethod (sY S a)) && (decide ((sY S a).name = "<init>") && (decide (sR S a = none) && decide ((parseMethodDescriptor (sY S a).desc).map (fun d => d.parameters.length + 1) = some an))))
    | _ => zIx S y (.methodLink (sY S mi).cls x (sY S a)) && (zIx S p2 (.static (sY S a)) && decide ((parseMethodDescriptor (sY S a).desc).map (fun d => d.parameters.length) = some an)))
  | _, _ => false
theorem zs_par {o : Option MethodDescriptor} {an : Nat} (h : o.map (fun d => d.parameters.length + 1) = some an) : ∃ n, o.map (fun d => d.parameters.length) = some n ∧ an = n + 1 := by
  cases o with
  | none => cases h
  | some q => cases h; exact ⟨_, rfl, rfl⟩
theorem zLkB_to {S : zS} {G : yGl0} {pl : List (List Nat)} {mi a eb ec x y : Nat} (h : zLkB S G pl mi a eb ec x y = true) : ∀ an ml tb', G.1[a]? = some ((an, ml), tb') → zLk S mi a an eb ec x := by
  intro an ml tb' hG
  unfold zLkB at h
  rw [hG] at h
  split at h
  · rename_i p0 p1 p2 p3 an' ml' rr hpl hgg
    cases hgg
    match eb, h with
    | 0, h =>
      simp only [Bool.and_eq_true, decide_eq_true_eq] at h
      obtain ⟨h1, h2, h3, h4, h5⟩ := h
      refine Or.inl ⟨rfl, zIx_in h1, zIx_in h2, zIx_in h3, ?_, zs_par h5⟩
      cases hc : (sCl S)[ec]? with
      | none => rw [hc] at h4; cases h4
      | some q =>
        rw [hc] at h4
        obtain ⟨C, T, N⟩ := q
        have h4 : C = _ := Option.some.inj h4
        exact ⟨T, N, by rw [h4]⟩
    | 1, h =>
      simp only [Bool.and_eq_true, Bool.or_eq_true, decide_eq_true_eq] at h
      obtain ⟨h1, h2, h3, h4, h5⟩ := h
      refine Or.inr (Or.inl ⟨rfl, ?_, zIx_in h2, h3, h4, zs_par h5⟩)
      rcases h1 with h1 | h1
      · exact Or.inl (zIx_in h1)
      · cases hq : (sNw S)[ec]? with
        | none => rw [hq] at h1; cases h1
        | some q =>
          rw [hq] at h1
          simp only [Bool.and_eq_true, decide_eq_true_eq] at h1
          obtain ⟨q1, q2, q3, q4⟩ := q
          obtain ⟨k1, k2, k3⟩ := h1
          dsimp only at k1 k2 k3
          refine Or.inr ⟨q4, ?_⟩
          rw [← k1, ← k2, ← k3]
          exact List.mem_of_getElem? hq
    | e + 2, h =>
      have h : (zIx S y (.methodLink (sY S mi).cls x (sY S a)) && (zIx S p2 (.static (sY S a)) && decide ((parseMethodDescriptor (sY S a).desc).map (fun d => d.parameters.length) = some an))) = true := h
      simp only [Bool.and_eq_true, decide_eq_true_eq] at h
      exact Or.inr (Or.inr ⟨by omega, zIx_in h.1, zIx_in h.2.1, h.2.2⟩)
  · cases h
def yc_0 (S : zS) (G : yGl0) (pl : List (List Nat)) (mi pc a b c x y nx : Nat) : Bool := match decode (sC S mi) pc with
  | .ok (.iconst n, len) => decide (len = 1 ∧ nx = pc + 1 ∧ Int32.ofInt n = nI a)
  | _ => false
def yc_1 (S : zS) (G : yGl0) (pl : List (List Nat)) (mi pc a b c x y nx : Nat) : Bool := match decode (sC S mi) pc with
  | .ok (.bipush n, len) => decide (len = 2 ∧ nx = pc + 2 ∧ (Int8.ofInt n).toInt32 = nI a)
  | _ => false
def yc_2 (S : zS) (G : yGl0) (pl : List (List Nat)) (mi pc a b c x y nx : Nat) : Bool := match decode (sC S mi) pc with
  | .ok (.sipush n, len) => decide (len = 3 ∧ nx = pc + 3 ∧ (Int16.ofInt n).toInt32 = nI a)
  | _ => false
def yc_3 (S : zS) (G : yGl0) (pl : List (List Nat)) (mi pc a b c x y nx : Nat) : Bool := match decode (sC S mi) pc with
  | .ok (.ldc i, len) => decide (len = 2 ∧ nx = pc + 2 ∧ i = x) && zIx S y (.constant (sY S mi).cls x (nI a))
  | _ => false
def yc_4 (S : zS) (G : yGl0) (pl : List (List Nat)) (mi pc a b c x y nx : Nat) : Bool := match decode (sC S mi) pc with
  | .ok (.ldc_w i, len) => decide (len = 3 ∧ nx = pc + 3 ∧ i = x) && zIx S y (.constant (sY S mi).cls x (nI a))
  | _ => false
def yc_5 (S : zS) (G : yGl0) (pl : List (List Nat)) (mi pc a b c x y nx : Nat) : Bool := match decode (sC S mi) pc with
  | .ok (.ldc2_w i, len) => decide (len = 3 ∧ nx = pc + 3 ∧ i = x) && zIx S y (.constantLong (sY S mi).cls x (Int64.ofNat a))
  | _ => false
def yc_6 (S : zS) (G : yGl0) (pl : List (List Nat)) (mi pc a b c x y nx : Nat) : Bool := match decode (sC S mi) pc with
  | .ok (.lconst n, len) => decide (len = 1 ∧ nx = pc + 1 ∧ (n : Nat) = a)
  | _ => false
def yc_10 (S : zS) (G : yGl0) (pl : List (List Nat)) (mi pc a b c x y nx : Nat) : Bool := match decode (sC S mi) pc with
  | .ok (.iload_n k, len) => decide (len = 1 ∧ nx = pc + 1 ∧ (k : Nat) = a)
  | _ => false
def yc_11 (S : zS) (G : yGl0) (pl : List (List Nat)) (mi pc a b c x y nx : Nat) : Bool := match decode (sC S mi) pc with
  | .ok (.iload k, len) => decide (len = 2 ∧ nx = pc + 2 ∧ k = a)
  | _ => false
def yc_12 (S : zS) (G : yGl0) (pl : List (List Nat)) (mi pc a b c x y nx : Nat) : Bool := match decode (sC S mi) pc with
  | .ok (.aload_n k, len) => decide (len = 1 ∧ nx = pc + 1 ∧ (k : Nat) = a)
  | _ => false
def yc_13 (S : zS) (G : yGl0) (pl : List (List Nat)) (mi pc a b c x y nx : Nat) : Bool := match decode (sC S mi) pc with
  | .ok (.aload k, len) => decide (len = 2 ∧ nx = pc + 2 ∧ k = a)
  | _ => false
def yc_14 (S : zS) (G : yGl0) (pl : List (List Nat)) (mi pc a b c x y nx : Nat) : Bool := match decode (sC S mi) pc with
  | .ok (.lload_n k, len) => decide (len = 1 ∧ nx = pc + 1 ∧ (k : Nat) = a)
  | _ => false
def yc_15 (S : zS) (G : yGl0) (pl : List (List Nat)) (mi pc a b c x y nx : Nat) : Bool := match decode (sC S mi) pc with
  | .ok (.lload k, len) => decide (len = 2 ∧ nx = pc + 2 ∧ k = a)
  | _ => false
def yc_20 (S : zS) (G : yGl0) (pl : List (List Nat)) (mi pc a b c x y nx : Nat) : Bool := match decode (sC S mi) pc with
  | .ok (.istore_n k, len) => decide (len = 1 ∧ nx = pc + 1 ∧ (k : Nat) = a ∧ a < sM S mi)
  | _ => false
def yc_21 (S : zS) (G : yGl0) (pl : List (List Nat)) (mi pc a b c x y nx : Nat) : Bool := match decode (sC S mi) pc with
  | .ok (.istore k, len) => decide (len = 2 ∧ nx = pc + 2 ∧ k = a ∧ a < sM S mi)
  | _ => false
def yc_22 (S : zS) (G : yGl0) (pl : List (List Nat)) (mi pc a b c x y nx : Nat) : Bool := match decode (sC S mi) pc with
  | .ok (.astore_n k, len) => decide (len = 1 ∧ nx = pc + 1 ∧ (k : Nat) = a ∧ a < sM S mi)
  | _ => false
def yc_23 (S : zS) (G : yGl0) (pl : List (List Nat)) (mi pc a b c x y nx : Nat) : Bool := match decode (sC S mi) pc with
  | .ok (.astore k, len) => decide (len = 2 ∧ nx = pc + 2 ∧ k = a ∧ a < sM S mi)
  | _ => false
def yc_24 (S : zS) (G : yGl0) (pl : List (List Nat)) (mi pc a b c x y nx : Nat) : Bool := match decode (sC S mi) pc with
  | .ok (.lstore_n k, len) => decide (len = 1 ∧ nx = pc + 1 ∧ (k : Nat) = a ∧ a + 1 < sM S mi)
  | _ => false
def yc_25 (S : zS) (G : yGl0) (pl : List (List Nat)) (mi pc a b c x y nx : Nat) : Bool := match decode (sC S mi) pc with
  | .ok (.lstore k, len) => decide (len = 2 ∧ nx = pc + 2 ∧ k = a ∧ a + 1 < sM S mi)
  | _ => false
def yc_26 (S : zS) (G : yGl0) (pl : List (List Nat)) (mi pc a b c x y nx : Nat) : Bool := match decode (sC S mi) pc with
  | .ok (.iinc k n, len) => decide (len = 3 ∧ nx = pc + 3 ∧ k = a ∧ a < sM S mi ∧ Int32.ofInt n = nI b)
  | _ => false
def yc_30 (S : zS) (G : yGl0) (pl : List (List Nat)) (mi pc a b c x y nx : Nat) : Bool := match decode (sC S mi) pc with
  | .ok (.iadd, len) => decide (len = 1 ∧ nx = pc + 1)
  | _ => false
def yc_31 (S : zS) (G : yGl0) (pl : List (List Nat)) (mi pc a b c x y nx : Nat) : Bool := match decode (sC S mi) pc with
  | .ok (.isub, len) => decide (len = 1 ∧ nx = pc + 1)
  | _ => false
def yc_32 (S : zS) (G : yGl0) (pl : List (List Nat)) (mi pc a b c x y nx : Nat) : Bool := match decode (sC S mi) pc with
  | .ok (.imul, len) => decide (len = 1 ∧ nx = pc + 1)
  | _ => false
def yc_33 (S : zS) (G : yGl0) (pl : List (List Nat)) (mi pc a b c x y nx : Nat) : Bool := match decode (sC S mi) pc with
  | .ok (.idiv, len) => decide (len = 1 ∧ nx = pc + 1)
  | _ => false
def yc_34 (S : zS) (G : yGl0) (pl : List (List Nat)) (mi pc a b c x y nx : Nat) : Bool := match decode (sC S mi) pc with
  | .ok (.irem, len) => decide (len = 1 ∧ nx = pc + 1)
  | _ => false
def yc_35 (S : zS) (G : yGl0) (pl : List (List Nat)) (mi pc a b c x y nx : Nat) : Bool := match decode (sC S mi) pc with
  | .ok (.iand, len) => decide (len = 1 ∧ nx = pc + 1)
  | _ => false
def yc_36 (S : zS) (G : yGl0) (pl : List (List Nat)) (mi pc a b c x y nx : Nat) : Bool := match decode (sC S mi) pc with
  | .ok (.ior, len) => decide (len = 1 ∧ nx = pc + 1)
  | _ => false
def yc_37 (S : zS) (G : yGl0) (pl : List (List Nat)) (mi pc a b c x y nx : Nat) : Bool := match decode (sC S mi) pc with
  | .ok (.ixor, len) => decide (len = 1 ∧ nx = pc + 1)
  | _ => false
def yc_38 (S : zS) (G : yGl0) (pl : List (List Nat)) (mi pc a b c x y nx : Nat) : Bool := match decode (sC S mi) pc with
  | .ok (.ishl, len) => decide (len = 1 ∧ nx = pc + 1)
  | _ => false
def yc_39 (S : zS) (G : yGl0) (pl : List (List Nat)) (mi pc a b c x y nx : Nat) : Bool := match decode (sC S mi) pc with
  | .ok (.ishr, len) => decide (len = 1 ∧ nx = pc + 1)
  | _ => false
def yc_40 (S : zS) (G : yGl0) (pl : List (List Nat)) (mi pc a b c x y nx : Nat) : Bool := match decode (sC S mi) pc with
  | .ok (.i2b, len) => decide (len = 1 ∧ nx = pc + 1)
  | _ => false
def yc_41 (S : zS) (G : yGl0) (pl : List (List Nat)) (mi pc a b c x y nx : Nat) : Bool := match decode (sC S mi) pc with
  | .ok (.iushr, len) => decide (len = 1 ∧ nx = pc + 1)
  | _ => false
def yc_42 (S : zS) (G : yGl0) (pl : List (List Nat)) (mi pc a b c x y nx : Nat) : Bool := match decode (sC S mi) pc with
  | .ok (.i2l, len) => decide (len = 1 ∧ nx = pc + 1)
  | _ => false
def yc_43 (S : zS) (G : yGl0) (pl : List (List Nat)) (mi pc a b c x y nx : Nat) : Bool := match decode (sC S mi) pc with
  | .ok (.ladd, len) => decide (len = 1 ∧ nx = pc + 1)
  | _ => false
def yc_44 (S : zS) (G : yGl0) (pl : List (List Nat)) (mi pc a b c x y nx : Nat) : Bool := match decode (sC S mi) pc with
  | .ok (.lmul, len) => decide (len = 1 ∧ nx = pc + 1)
  | _ => false
def yc_45 (S : zS) (G : yGl0) (pl : List (List Nat)) (mi pc a b c x y nx : Nat) : Bool := match decode (sC S mi) pc with
  | .ok (.land, len) => decide (len = 1 ∧ nx = pc + 1)
  | _ => false
def yc_46 (S : zS) (G : yGl0) (pl : List (List Nat)) (mi pc a b c x y nx : Nat) : Bool := match decode (sC S mi) pc with
  | .ok (.lor, len) => decide (len = 1 ∧ nx = pc + 1)
  | _ => false
def yc_47 (S : zS) (G : yGl0) (pl : List (List Nat)) (mi pc a b c x y nx : Nat) : Bool := match decode (sC S mi) pc with
  | .ok (.lxor, len) => decide (len = 1 ∧ nx = pc + 1)
  | _ => false
def yc_48 (S : zS) (G : yGl0) (pl : List (List Nat)) (mi pc a b c x y nx : Nat) : Bool := match decode (sC S mi) pc with
  | .ok (.lshl, len) => decide (len = 1 ∧ nx = pc + 1)
  | _ => false
def yc_49 (S : zS) (G : yGl0) (pl : List (List Nat)) (mi pc a b c x y nx : Nat) : Bool := match decode (sC S mi) pc with
  | .ok (.lshr, len) => decide (len = 1 ∧ nx = pc + 1)
  | _ => false
def yc_50 (S : zS) (G : yGl0) (pl : List (List Nat)) (mi pc a b c x y nx : Nat) : Bool := match decode (sC S mi) pc with
  | .ok (.dup, len) => decide (len = 1 ∧ nx = pc + 1)
  | _ => false
def yc_51 (S : zS) (G : yGl0) (pl : List (List Nat)) (mi pc a b c x y nx : Nat) : Bool := match decode (sC S mi) pc with
  | .ok (.dup2, len) => decide (len = 1 ∧ nx = pc + 1)
  | _ => false
def yc_52 (S : zS) (G : yGl0) (pl : List (List Nat)) (mi pc a b c x y nx : Nat) : Bool := match decode (sC S mi) pc with
  | .ok (.pop, len) => decide (len = 1 ∧ nx = pc + 1)
  | _ => false
def yc_55 (S : zS) (G : yGl0) (pl : List (List Nat)) (mi pc a b c x y nx : Nat) : Bool := match decode (sC S mi) pc with
  | .ok (.lcmp, len) => decide (len = 1 ∧ nx = pc + 1)
  | _ => false
def yc_103 (S : zS) (G : yGl0) (pl : List (List Nat)) (mi pc a b c x y nx : Nat) : Bool := match decode (sC S mi) pc with
  | .ok (.arraylength, len) => decide (len = 1 ∧ nx = pc + 1)
  | _ => false
def yc_110 (S : zS) (G : yGl0) (pl : List (List Nat)) (mi pc a b c x y nx : Nat) : Bool := match decode (sC S mi) pc with
  | .ok (.iaload, len) => decide (len = 1 ∧ nx = pc + 1)
  | _ => false
def yc_111 (S : zS) (G : yGl0) (pl : List (List Nat)) (mi pc a b c x y nx : Nat) : Bool := match decode (sC S mi) pc with
  | .ok (.iastore, len) => decide (len = 1 ∧ nx = pc + 1)
  | _ => false
def yc_112 (S : zS) (G : yGl0) (pl : List (List Nat)) (mi pc a b c x y nx : Nat) : Bool := match decode (sC S mi) pc with
  | .ok (.baload, len) => decide (len = 1 ∧ nx = pc + 1)
  | _ => false
def yc_113 (S : zS) (G : yGl0) (pl : List (List Nat)) (mi pc a b c x y nx : Nat) : Bool := match decode (sC S mi) pc with
  | .ok (.bastore, len) => decide (len = 1 ∧ nx = pc + 1)
  | _ => false
def yc_114 (S : zS) (G : yGl0) (pl : List (List Nat)) (mi pc a b c x y nx : Nat) : Bool := match decode (sC S mi) pc with
  | .ok (.laload, len) => decide (len = 1 ∧ nx = pc + 1)
  | _ => false
def yc_115 (S : zS) (G : yGl0) (pl : List (List Nat)) (mi pc a b c x y nx : Nat) : Bool := match decode (sC S mi) pc with
  | .ok (.lastore, len) => decide (len = 1 ∧ nx = pc + 1)
  | _ => false
def yc_116 (S : zS) (G : yGl0) (pl : List (List Nat)) (mi pc a b c x y nx : Nat) : Bool := match decode (sC S mi) pc with
  | .ok (.aaload, len) => decide (len = 1 ∧ nx = pc + 1)
  | _ => false
def yc_117 (S : zS) (G : yGl0) (pl : List (List Nat)) (mi pc a b c x y nx : Nat) : Bool := match decode (sC S mi) pc with
  | .ok (.aastore, len) => decide (len = 1 ∧ nx = pc + 1)
  | _ => false
def yc_60 (S : zS) (G : yGl0) (pl : List (List Nat)) (mi pc a b c x y nx : Nat) : Bool := match decode (sC S mi) pc with
  | .ok (.ifCond .eq off, len) => decide (len = 3 ∧ nx = pc + 3 ∧ (pc : Int) + off = (a : Int))
  | _ => false
def yc_61 (S : zS) (G : yGl0) (pl : List (List Nat)) (mi pc a b c x y nx : Nat) : Bool := match decode (sC S mi) pc with
  | .ok (.ifCond .ne off, len) => decide (len = 3 ∧ nx = pc + 3 ∧ (pc : Int) + off = (a : Int))
  | _ => false
def yc_62 (S : zS) (G : yGl0) (pl : List (List Nat)) (mi pc a b c x y nx : Nat) : Bool := match decode (sC S mi) pc with
  | .ok (.ifCond .lt off, len) => decide (len = 3 ∧ nx = pc + 3 ∧ (pc : Int) + off = (a : Int))
  | _ => false
def yc_63 (S : zS) (G : yGl0) (pl : List (List Nat)) (mi pc a b c x y nx : Nat) : Bool := match decode (sC S mi) pc with
  | .ok (.ifCond .ge off, len) => decide (len = 3 ∧ nx = pc + 3 ∧ (pc : Int) + off = (a : Int))
  | _ => false
def yc_64 (S : zS) (G : yGl0) (pl : List (List Nat)) (mi pc a b c x y nx : Nat) : Bool := match decode (sC S mi) pc with
  | .ok (.ifCond .gt off, len) => decide (len = 3 ∧ nx = pc + 3 ∧ (pc : Int) + off = (a : Int))
  | _ => false
def yc_65 (S : zS) (G : yGl0) (pl : List (List Nat)) (mi pc a b c x y nx : Nat) : Bool := match decode (sC S mi) pc with
  | .ok (.ifCond .le off, len) => decide (len = 3 ∧ nx = pc + 3 ∧ (pc : Int) + off = (a : Int))
  | _ => false
def yc_70 (S : zS) (G : yGl0) (pl : List (List Nat)) (mi pc a b c x y nx : Nat) : Bool := match decode (sC S mi) pc with
  | .ok (.if_icmp .eq off, len) => decide (len = 3 ∧ nx = pc + 3 ∧ (pc : Int) + off = (a : Int))
  | _ => false
def yc_71 (S : zS) (G : yGl0) (pl : List (List Nat)) (mi pc a b c x y nx : Nat) : Bool := match decode (sC S mi) pc with
  | .ok (.if_icmp .ne off, len) => decide (len = 3 ∧ nx = pc + 3 ∧ (pc : Int) + off = (a : Int))
  | _ => false
def yc_72 (S : zS) (G : yGl0) (pl : List (List Nat)) (mi pc a b c x y nx : Nat) : Bool := match decode (sC S mi) pc with
  | .ok (.if_icmp .lt off, len) => decide (len = 3 ∧ nx = pc + 3 ∧ (pc : Int) + off = (a : Int))
  | _ => false
def yc_73 (S : zS) (G : yGl0) (pl : List (List Nat)) (mi pc a b c x y nx : Nat) : Bool := match decode (sC S mi) pc with
  | .ok (.if_icmp .ge off, len) => decide (len = 3 ∧ nx = pc + 3 ∧ (pc : Int) + off = (a : Int))
  | _ => false
def yc_74 (S : zS) (G : yGl0) (pl : List (List Nat)) (mi pc a b c x y nx : Nat) : Bool := match decode (sC S mi) pc with
  | .ok (.if_icmp .gt off, len) => decide (len = 3 ∧ nx = pc + 3 ∧ (pc : Int) + off = (a : Int))
  | _ => false
def yc_75 (S : zS) (G : yGl0) (pl : List (List Nat)) (mi pc a b c x y nx : Nat) : Bool := match decode (sC S mi) pc with
  | .ok (.if_icmp .le off, len) => decide (len = 3 ∧ nx = pc + 3 ∧ (pc : Int) + off = (a : Int))
  | _ => false
def yc_80 (S : zS) (G : yGl0) (pl : List (List Nat)) (mi pc a b c x y nx : Nat) : Bool := match decode (sC S mi) pc with
  | .ok (.goto off, len) => decide (len = 3 ∧ (pc : Int) + off = (a : Int))
  | _ => false
def yc_82 (S : zS) (G : yGl0) (pl : List (List Nat)) (mi pc a b c x y nx : Nat) : Bool := match decode (sC S mi) pc with
  | .ok (.ifnonnull off, len) => decide (len = 3 ∧ nx = pc + 3 ∧ (pc : Int) + off = (a : Int))
  | _ => false
def ySwB (pc : Nat) (offs : Array Int) (tg : List Nat) : Bool := (List.range tg.length).all (fun j => match offs[j]?, tg[j]? with | some off, some t => decide ((pc : Int) + off = (t : Int)) | _, _ => false)
/-- the targets of the switch c -/
def yTg (G : yGl0) (c : Nat) : List Nat := G.2.1.getD c []
def yc_83 (S : zS) (G : yGl0) (pl : List (List Nat)) (mi pc a b c x y nx : Nat) : Bool := match decode (sC S mi) pc with
  | .ok (.tableswitch dflt low hi offs, len) => decide ((a : Int) = low + 2147483648 ∧ low + (yTg G c).length = hi + 1 ∧ (pc : Int) + dflt = (nx : Int)) && ySwB pc offs (yTg G c)
  | _ => false
def yc_90 (S : zS) (G : yGl0) (pl : List (List Nat)) (mi pc a b c x y nx : Nat) : Bool := match decode (sC S mi) pc with
  | .ok (.getfield i, len) => (match (sCl S)[a]? with
    | some (_, T, N) => decide (len = 3 ∧ nx = pc + 3 ∧ i = x ∧ b < N) && zIx S y (.fieldLink (sY S mi).cls x (T b).1 (T b).2.1 (T b).2.2.1)
    | none => false)
  | _ => false
def yc_91 (S : zS) (G : yGl0) (pl : List (List Nat)) (mi pc a b c x y nx : Nat) : Bool := match decode (sC S mi) pc with
  | .ok (.putfield i, len) => (match (sCl S)[a]? with
    | some (_, T, N) => (match parseFieldDescriptor (T b).2.2.1 with
      | some ty => decide (len = 3 ∧ nx = pc + 3 ∧ i = x ∧ b < N ∧ c = zKd ty ∧ ((T b).2.2.2 = false ∨ ((T b).2.2.2 = true ∧ (sY S mi).name = "<init>" ∧ (T b).1 = (sY S mi).cls))) && zIx S y (.fieldLink (sY S mi).cls x (T b).1 (T b).2.1 (T b).2.2.1)
      | none => false)
    | none => false)
  | _ => false
def yc_100 (S : zS) (G : yGl0) (pl : List (List Nat)) (mi pc a b c x y nx : Nat) : Bool := match decode (sC S mi) pc with
  | .ok (.new i, len) => (match (sCl S)[a]? with
    | some (C, _, N) => decide (len = 3 ∧ nx = pc + 3 ∧ i = x ∧ N = b) && zIx S y (.classLink (sY S mi).cls x C)
    | none => false)
  | _ => false
def yc_101 (S : zS) (G : yGl0) (pl : List (List Nat)) (mi pc a b c x y nx : Nat) : Bool := match decode (sC S mi) pc with
  | .ok (.newarray t, len) => decide (len = 2 ∧ nx = pc + 2 ∧ ((a = 0 ∧ t = .byte) ∨ (a = 1 ∧ t = .int) ∨ (a = 2 ∧ t = .long) ∨ (a = 3 ∧ t = .boolean)))
  | _ => false
def yc_102 (S : zS) (G : yGl0) (pl : List (List Nat)) (mi pc a b c x y nx : Nat) : Bool := match decode (sC S mi) pc with
  | .ok (.anewarray i, len) => decide (len = 3 ∧ nx = pc + 3 ∧ i = x) && ((decide (a = 4 ∧ "ChairAlley$State" ∈ sAo S) && zIx S y (.classLink (sY S mi).cls x "ChairAlley$State")) || (decide (a = 5 ∧ "ChairAlley$World" ∈ sAo S) && zIx S y (.classLink (sY S mi).cls x "ChairAlley$World")))
  | _ => false
def yc_120 (S : zS) (G : yGl0) (pl : List (List Nat)) (mi pc a b c x y nx : Nat) : Bool := match decode (sC S mi) pc with
  | .ok (.ireturn, len) => decide (len = 1 ∧ sR S mi = some .int)
  | _ => false
def yc_121 (S : zS) (G : yGl0) (pl : List (List Nat)) (mi pc a b c x y nx : Nat) : Bool := match decode (sC S mi) pc with
  | .ok (.ireturn, len) => decide (len = 1 ∧ sR S mi = some .boolean)
  | _ => false
def yc_122 (S : zS) (G : yGl0) (pl : List (List Nat)) (mi pc a b c x y nx : Nat) : Bool := match decode (sC S mi) pc with
  | .ok (.return_, len) => decide (len = 1 ∧ sR S mi = none)
  | _ => false
def yc_123 (S : zS) (G : yGl0) (pl : List (List Nat)) (mi pc a b c x y nx : Nat) : Bool := match decode (sC S mi) pc with
  | .ok (.lreturn, len) => decide (len = 1 ∧ sR S mi = some .long)
  | _ => false
def yc_130 (S : zS) (G : yGl0) (pl : List (List Nat)) (mi pc a b c x y nx : Nat) : Bool := match decode (sC S mi) pc with
  | .ok (.invokevirtual i, len) => decide (len = 3 ∧ nx = pc + 3 ∧ i = x ∧ b = 0 ∧ zThr a = false) && zLkB S G pl mi a b c x y
  | _ => false
def yc_131 (S : zS) (G : yGl0) (pl : List (List Nat)) (mi pc a b c x y nx : Nat) : Bool := match decode (sC S mi) pc with
  | .ok (.invokespecial i, len) => decide (len = 3 ∧ nx = pc + 3 ∧ i = x ∧ b = 1 ∧ zThr a = false) && zLkB S G pl mi a b c x y
  | _ => false
def yc_132 (S : zS) (G : yGl0) (pl : List (List Nat)) (mi pc a b c x y nx : Nat) : Bool := match decode (sC S mi) pc with
  | .ok (.invokestatic i, len) => decide (len = 3 ∧ nx = pc + 3 ∧ i = x ∧ b = 2 ∧ zThr a = false) && zLkB S G pl mi a b c x y
  | _ => false
def yc_133 (S : zS) (G : yGl0) (pl : List (List Nat)) (mi pc a b c x y nx : Nat) : Bool := match decode (sC S mi) pc with
  | .ok (.invokespecial i, len) => decide (len = 3 ∧ nx = pc + 3 ∧ i = x) && zIx S y (.methodLink (sY S mi).cls x Lib.objectInit)
  | _ => false
def yc_135 (S : zS) (G : yGl0) (pl : List (List Nat)) (mi pc a b c x y nx : Nat) : Bool := match decode (sC S mi) pc with
  | .ok (.invokestatic i, len) => decide (len = 3 ∧ nx = pc + 3 ∧ i = x) && zIx S y (.methodLink (sY S mi).cls x arraycopyName)
  | _ => false
def yc_136 (S : zS) (G : yGl0) (pl : List (List Nat)) (mi pc a b c x y nx : Nat) : Bool := match decode (sC S mi) pc with
  | .ok (.invokestatic i, len) => decide (len = 3 ∧ nx = pc + 3 ∧ i = x) && zIx S y (.methodLink (sY S mi).cls x Lib.Math.min.name)
  | _ => false
def yc_137 (S : zS) (G : yGl0) (pl : List (List Nat)) (mi pc a b c x y nx : Nat) : Bool := match decode (sC S mi) pc with
  | .ok (.invokestatic i, len) => decide (len = 3 ∧ nx = pc + 3 ∧ i = x) && zIx S y (.methodLink (sY S mi).cls x Lib.Math.max.name)
  | _ => false
def yd_0 (S : zS) (G : yGl0) (pl : List (List Nat)) (mi pc a b c x y nx : Nat) (o : Nat) : Bool := (cond (Nat.beq o 0) (yc_0 S G pl mi pc a b c x y nx) (cond (Nat.beq o 1) (yc_1 S G pl mi pc a b c x y nx) (cond (Nat.beq o 2) (yc_2 S G pl mi pc a b c x y nx) (cond (Nat.beq o 3) (yc_3 S G pl mi pc a b c x y nx) (cond (Nat.beq o 4) (yc_4 S G pl mi pc a b c x y nx) (cond (Nat.beq o 5) (yc_5 S G pl mi pc a b c x y nx) (cond (Nat.beq o 6) (yc_6 S G pl mi pc a b c x y nx) (cond (Nat.beq o 10) (yc_10 S G pl mi pc a b c x y nx) (cond (Nat.beq o 11) (yc_11 S G pl mi pc a b c x y nx) (cond (Nat.beq o 12) (yc_12 S G pl mi pc a b c x y nx) (cond (Nat.beq o 13) (yc_13 S G pl mi pc a b c x y nx) (cond (Nat.beq o 14) (yc_14 S G pl mi pc a b c x y nx) (cond (Nat.beq o 15) (yc_15 S G pl mi pc a b c x y nx) false)))))))))))))
def yd_1 (S : zS) (G : yGl0) (pl : List (List Nat)) (mi pc a b c x y nx : Nat) (o : Nat) : Bool := (cond (Nat.beq o 20) (yc_20 S G pl mi pc a b c x y nx) (cond (Nat.beq o 21) (yc_21 S G pl mi pc a b c x y nx) (cond (Nat.beq o 22) (yc_22 S G pl mi pc a b c x y nx) (cond (Nat.beq o 23) (yc_23 S G pl mi pc a b c x y nx) (cond (Nat.beq o 24) (yc_24 S G pl mi pc a b c x y nx) (cond (Nat.beq o 25) (yc_25 S G pl mi pc a b c x y nx) (cond (Nat.beq o 26) (yc_26 S G pl mi pc a b c x y nx) (cond (Nat.beq o 30) (yc_30 S G pl mi pc a b c x y nx) (cond (Nat.beq o 31) (yc_31 S G pl mi pc a b c x y nx) (cond (Nat.beq o 32) (yc_32 S G pl mi pc a b c x y nx) (cond (Nat.beq o 33) (yc_33 S G pl mi pc a b c x y nx) (cond (Nat.beq o 34) (yc_34 S G pl mi pc a b c x y nx) (cond (Nat.beq o 35) (yc_35 S G pl mi pc a b c x y nx) (cond (Nat.beq o 36) (yc_36 S G pl mi pc a b c x y nx) (cond (Nat.beq o 37) (yc_37 S G pl mi pc a b c x y nx) (cond (Nat.beq o 38) (yc_38 S G pl mi pc a b c x y nx) (cond (Nat.beq o 39) (yc_39 S G pl mi pc a b c x y nx) false)))))))))))))))))
def yd_2 (S : zS) (G : yGl0) (pl : List (List Nat)) (mi pc a b c x y nx : Nat) (o : Nat) : Bool := (cond (Nat.beq o 40) (yc_40 S G pl mi pc a b c x y nx) (cond (Nat.beq o 41) (yc_41 S G pl mi pc a b c x y nx) (cond (Nat.beq o 42) (yc_42 S G pl mi pc a b c x y nx) (cond (Nat.beq o 43) (yc_43 S G pl mi pc a b c x y nx) (cond (Nat.beq o 44) (yc_44 S G pl mi pc a b c x y nx) (cond (Nat.beq o 45) (yc_45 S G pl mi pc a b c x y nx) (cond (Nat.beq o 46) (yc_46 S G pl mi pc a b c x y nx) (cond (Nat.beq o 47) (yc_47 S G pl mi pc a b c x y nx) (cond (Nat.beq o 48) (yc_48 S G pl mi pc a b c x y nx) (cond (Nat.beq o 49) (yc_49 S G pl mi pc a b c x y nx) (cond (Nat.beq o 50) (yc_50 S G pl mi pc a b c x y nx) (cond (Nat.beq o 51) (yc_51 S G pl mi pc a b c x y nx) (cond (Nat.beq o 52) (yc_52 S G pl mi pc a b c x y nx) (cond (Nat.beq o 55) (yc_55 S G pl mi pc a b c x y nx) false))))))))))))))
def yd_3 (S : zS) (G : yGl0) (pl : List (List Nat)) (mi pc a b c x y nx : Nat) (o : Nat) : Bool := (cond (Nat.beq o 60) (yc_60 S G pl mi pc a b c x y nx) (cond (Nat.beq o 61) (yc_61 S G pl mi pc a b c x y nx) (cond (Nat.beq o 62) (yc_62 S G pl mi pc a b c x y nx) (cond (Nat.beq o 63) (yc_63 S G pl mi pc a b c x y nx) (cond (Nat.beq o 64) (yc_64 S G pl mi pc a b c x y nx) (cond (Nat.beq o 65) (yc_65 S G pl mi pc a b c x y nx) (cond (Nat.beq o 70) (yc_70 S G pl mi pc a b c x y nx) (cond (Nat.beq o 71) (yc_71 S G pl mi pc a b c x y nx) (cond (Nat.beq o 72) (yc_72 S G pl mi pc a b c x y nx) (cond (Nat.beq o 73) (yc_73 S G pl mi pc a b c x y nx) (cond (Nat.beq o 74) (yc_74 S G pl mi pc a b c x y nx) (cond (Nat.beq o 75) (yc_75 S G pl mi pc a b c x y nx) false))))))))))))
def yd_4 (S : zS) (G : yGl0) (pl : List (List Nat)) (mi pc a b c x y nx : Nat) (o : Nat) : Bool := (cond (Nat.beq o 80) (yc_80 S G pl mi pc a b c x y nx) (cond (Nat.beq o 82) (yc_82 S G pl mi pc a b c x y nx) (cond (Nat.beq o 83) (yc_83 S G pl mi pc a b c x y nx) (cond (Nat.beq o 90) (yc_90 S G pl mi pc a b c x y nx) (cond (Nat.beq o 91) (yc_91 S G pl mi pc a b c x y nx) false)))))
def yd_5 (S : zS) (G : yGl0) (pl : List (List Nat)) (mi pc a b c x y nx : Nat) (o : Nat) : Bool := (cond (Nat.beq o 103) (yc_103 S G pl mi pc a b c x y nx) (cond (Nat.beq o 110) (yc_110 S G pl mi pc a b c x y nx) (cond (Nat.beq o 111) (yc_111 S G pl mi pc a b c x y nx) (cond (Nat.beq o 112) (yc_112 S G pl mi pc a b c x y nx) (cond (Nat.beq o 113) (yc_113 S G pl mi pc a b c x y nx) (cond (Nat.beq o 114) (yc_114 S G pl mi pc a b c x y nx) (cond (Nat.beq o 115) (yc_115 S G pl mi pc a b c x y nx) (cond (Nat.beq o 116) (yc_116 S G pl mi pc a b c x y nx) (cond (Nat.beq o 117) (yc_117 S G pl mi pc a b c x y nx) (cond (Nat.beq o 100) (yc_100 S G pl mi pc a b c x y nx) (cond (Nat.beq o 101) (yc_101 S G pl mi pc a b c x y nx) (cond (Nat.beq o 102) (yc_102 S G pl mi pc a b c x y nx) false))))))))))))
def yd_6 (S : zS) (G : yGl0) (pl : List (List Nat)) (mi pc a b c x y nx : Nat) (o : Nat) : Bool := (cond (Nat.beq o 120) (yc_120 S G pl mi pc a b c x y nx) (cond (Nat.beq o 121) (yc_121 S G pl mi pc a b c x y nx) (cond (Nat.beq o 122) (yc_122 S G pl mi pc a b c x y nx) (cond (Nat.beq o 123) (yc_123 S G pl mi pc a b c x y nx) (cond (Nat.beq o 130) (yc_130 S G pl mi pc a b c x y nx) (cond (Nat.beq o 131) (yc_131 S G pl mi pc a b c x y nx) (cond (Nat.beq o 132) (yc_132 S G pl mi pc a b c x y nx) (cond (Nat.beq o 133) (yc_133 S G pl mi pc a b c x y nx) (cond (Nat.beq o 135) (yc_135 S G pl mi pc a b c x y nx) (cond (Nat.beq o 136) (yc_136 S G pl mi pc a b c x y nx) (cond (Nat.beq o 137) (yc_137 S G pl mi pc a b c x y nx) false)))))))))))
def yRowB (S : zS) (G : yGl0) (pl : List (List Nat)) (mi : Nat) (e : zE) : Bool := match e with
  | (pc, o, a, b, c, x, y, nx) => (cond (Nat.blt o 20) (yd_0 S G pl mi pc a b c x y nx o) (cond (Nat.blt o 40) (yd_1 S G pl mi pc a b c x y nx o) (cond (Nat.blt o 60) (yd_2 S G pl mi pc a b c x y nx o) (cond (Nat.blt o 80) (yd_3 S G pl mi pc a b c x y nx o) (cond (Nat.blt o 100) (yd_4 S G pl mi pc a b c x y nx o) (cond (Nat.blt o 120) (yd_5 S G pl mi pc a b c x y nx o) (cond (Nat.blt o 140) (yd_6 S G pl mi pc a b c x y nx o) false)))))))
/-- all that is known of the program -/
def yAll (S : zS) (G : yGl0) (Fk : Nat → Nat → Nat) (pl : List (List Nat)) : Prop := (∀ w ∈ sW S, goodWord w = true) ∧ zCls S ∧ (∀ ci, ci < (sCl S).length → yMk S Fk ci) ∧ zRaOk S ∧ zNt S ∧ (Jvm.Cond.arrayClass .byte ∈ sW S ∧ Jvm.Cond.arrayClass .int ∈ sW S ∧ Jvm.Cond.arrayClass .long ∈ sW S ∧ Jvm.Cond.arrayClass .boolean ∈ sW S) ∧
  ∀ (a : Nat) (mt : yM), G.1[a]? = some mt → zMtB S pl a mt.1.2 = true
/-- the row at pc -/
noncomputable def yFt (tb : zT) (pc : Nat) : Option zE := match tb[pc / 16]? with
  | some l => zFe l pc
  | none => none
theorem yFt_ok {S : zS} {G : yGl0} {pl : List (List Nat)} {mi : Nat} {tb : zT} (h : tb.all (fun l => l.all (yRowB S G pl mi)) = true) {pc : Nat} {e : zE} (hf : yFt tb pc = some e) : yRowB S G pl mi e = true ∧ e.1 = pc := by
  unfold yFt at hf
  cases hl : tb[pc / 16]? with
  | none => rw [hl] at hf; cases hf
  | some l =>
    rw [hl] at hf
    obtain ⟨h1, h2⟩ := zFe_mem _ _ hf
    exact ⟨List.all_eq_true.mp (List.all_eq_true.mp h l (List.mem_of_getElem? hl)) e h1, h2⟩
section Sy
variable {l : Launch} {S : zS} {G : yGl0} {pl : List (List Nat)} {D : va_G} {cy : Nat → ClassId} {Fk : Nat → Nat → Nat} {z : Nat} {d mi bc bs nc ns pc a b c x y nx : Nat} {lo : yL} {st : List yV} {h : yHp} {K : yKo}
theorem e_0 (hr : yRowB S G pl mi (pc, 0, a, b, c, x, y, nx) = true) {v : Int} (hv : (nI a).toInt = v) (hk : yW l S D cy Fk z d mi bc bs K nc ns nx lo (yi v :: st) h) : yW l S D cy Fk z d mi bc bs K nc ns pc lo st h := by
  have hr : yc_0 S G pl mi pc a b c x y nx = true := hr
  unfold yc_0 at hr
  split at hr
  · rename_i n len hd
    simp only [Bool.and_eq_true, decide_eq_true_eq] at hr
    obtain ⟨rfl, rfl, h3⟩ := hr
    subst hv
    exact ys_iconst hd h3 hk
  · cases hr
theorem e_1 (hr : yRowB S G pl mi (pc, 1, a, b, c, x, y, nx) = true) {v : Int} (hv : (nI a).toInt = v) (hk : yW l S D cy Fk z d mi bc bs K nc ns nx lo (yi v :: st) h) : yW l S D cy Fk z d mi bc bs K nc ns pc lo st h := by
  have hr : yc_1 S G pl mi pc a b c x y nx = true := hr
  unfold yc_1 at hr
  split at hr
  · rename_i n len hd
    simp only [Bool.and_eq_true, decide_eq_true_eq] at hr
    obtain ⟨rfl, rfl, h3⟩ := hr
    subst hv
    exact ys_bipush hd h3 hk
  · cases hr
theorem e_2 (hr : yRowB S G pl mi (pc, 2, a, b, c, x, y, nx) = true) {v : Int} (hv : (nI a).toInt = v) (hk : yW l S D cy Fk z d mi bc bs K nc ns nx lo (yi v :: st) h) : yW l S D cy Fk z d mi bc bs K nc ns pc lo st h := by
  have hr : yc_2 S G pl mi pc a b c x y nx = true := hr
  unfold yc_2 at hr
  split at hr
  · rename_i n len hd
    simp only [Bool.and_eq_true, decide_eq_true_eq] at hr
    obtain ⟨rfl, rfl, h3⟩ := hr
    subst hv
    exact ys_sipush hd h3 hk
  · cases hr
theorem e_3 (hr : yRowB S G pl mi (pc, 3, a, b, c, x, y, nx) = true) {v : Int} (hv : (nI a).toInt = v) (hk : yW l S D cy Fk z d mi bc bs K nc ns nx lo (yi v :: st) h) : yW l S D cy Fk z d mi bc bs K nc ns pc lo st h := by
  have hr : yc_3 S G pl mi pc a b c x y nx = true := hr
  unfold yc_3 at hr
  split at hr
  · rename_i n len hd
    simp only [Bool.and_eq_true, decide_eq_true_eq] at hr
    obtain ⟨⟨rfl, rfl, rfl⟩, h4⟩ := hr
    subst hv
    exact ys_ldc hd (of_decide_eq_true h4) hk
  · cases hr
theorem e_4 (hr : yRowB S G pl mi (pc, 4, a, b, c, x, y, nx) = true) {v : Int} (hv : (nI a).toInt = v) (hk : yW l S D cy Fk z d mi bc bs K nc ns nx lo (yi v :: st) h) : yW l S D cy Fk z d mi bc bs K nc ns pc lo st h := by
  have hr : yc_4 S G pl mi pc a b c x y nx = true := hr
  unfold yc_4 at hr
  split at hr
  · rename_i n len hd
    simp only [Bool.and_eq_true, decide_eq_true_eq] at hr
    obtain ⟨⟨rfl, rfl, rfl⟩, h4⟩ := hr
    subst hv
    exact ys_ldcw hd (of_decide_eq_true h4) hk
  · cases hr
theorem e_5 (hr : yRowB S G pl mi (pc, 5, a, b, c, x, y, nx) = true) {v : Int} (hv : (Int64.ofNat a).toInt = v) (hk : yW l S D cy Fk z d mi bc bs K nc ns nx lo (yj v :: st) h) : yW l S D cy Fk z d mi bc bs K nc ns pc lo st h := by
  have hr : yc_5 S G pl mi pc a b c x y nx = true := hr
  unfold yc_5 at hr
  split at hr
  · rename_i n len hd
    simp only [Bool.and_eq_true, decide_eq_true_eq] at hr
    obtain ⟨⟨rfl, rfl, rfl⟩, h4⟩ := hr
    subst hv
    exact ys_ldc2 hd (of_decide_eq_true h4) hk
  · cases hr
theorem e_6 (hr : yRowB S G pl mi (pc, 6, a, b, c, x, y, nx) = true) {v : Int} (hv : (Int64.ofNat a).toInt = v) (hk : yW l S D cy Fk z d mi bc bs K nc ns nx lo (yj v :: st) h) : yW l S D cy Fk z d mi bc bs K nc ns pc lo st h := by
  have hr : yc_6 S G pl mi pc a b c x y nx = true := hr
  unfold yc_6 at hr
  split at hr
  · rename_i n len hd
    simp only [Bool.and_eq_true, decide_eq_true_eq] at hr
    obtain ⟨rfl, rfl, h3⟩ := hr
    subst hv h3
    exact ys_lconst hd rfl hk
  · cases hr
theorem e_10 (hr : yRowB S G pl mi (pc, 10, a, b, c, x, y, nx) = true) {v : Int} (hv : yLd lo a = some (yi v)) (hk : yW l S D cy Fk z d mi bc bs K nc ns nx lo (yi v :: st) h) : yW l S D cy Fk z d mi bc bs K nc ns pc lo st h := by
  have hr : yc_10 S G pl mi pc a b c x y nx = true := hr
  unfold yc_10 at hr
  split at hr
  · rename_i n len hd
    simp only [Bool.and_eq_true, decide_eq_true_eq] at hr
    obtain ⟨rfl, rfl, h3⟩ := hr
    exact ys_iload (.inl ⟨n, hd, h3, rfl⟩) hv hk
  · cases hr
theorem e_11 (hr : yRowB S G pl mi (pc, 11, a, b, c, x, y, nx) = true) {v : Int} (hv : yLd lo a = some (yi v)) (hk : yW l S D cy Fk z d mi bc bs K nc ns nx lo (yi v :: st) h) : yW l S D cy Fk z d mi bc bs K nc ns pc lo st h := by
  have hr : yc_11 S G pl mi pc a b c x y nx = true := hr
  unfold yc_11 at hr
  split at hr
  · rename_i n len hd
    simp only [Bool.and_eq_true, decide_eq_true_eq] at hr
    obtain ⟨rfl, rfl, rfl⟩ := hr
    exact ys_iload (.inr ⟨hd, rfl⟩) hv hk
  · cases hr
theorem e_12 (hr : yRowB S G pl mi (pc, 12, a, b, c, x, y, nx) = true) {v : Option Nat} (hv : yLd lo a = some (yr v)) (hk : yW l S D cy Fk z d mi bc bs K nc ns nx lo (yr v :: st) h) : yW l S D cy Fk z d mi bc bs K nc ns pc lo st h := by
  have hr : yc_12 S G pl mi pc a b c x y nx = true := hr
  unfold yc_12 at hr
  split at hr
  · rename_i n len hd
    simp only [Bool.and_eq_true, decide_eq_true_eq] at hr
    obtain ⟨rfl, rfl, h3⟩ := hr
    exact ys_aload (.inl ⟨n, hd, h3, rfl⟩) hv hk
  · cases hr
theorem e_13 (hr : yRowB S G pl mi (pc, 13, a, b, c, x, y, nx) = true) {v : Option Nat} (hv : yLd lo a = some (yr v)) (hk : yW l S D cy Fk z d mi bc bs K nc ns nx lo (yr v :: st) h) : yW l S D cy Fk z d mi bc bs K nc ns pc lo st h := by
  have hr : yc_13 S G pl mi pc a b c x y nx = true := hr
  unfold yc_13 at hr
  split at hr
  · rename_i n len hd
    simp only [Bool.and_eq_true, decide_eq_true_eq] at hr
    obtain ⟨rfl, rfl, rfl⟩ := hr
    exact ys_aload (.inr ⟨hd, rfl⟩) hv hk
  · cases hr
theorem e_14 (hr : yRowB S G pl mi (pc, 14, a, b, c, x, y, nx) = true) {v : Int} (hv : yLd lo a = some (yj v)) (hk : yW l S D cy Fk z d mi bc bs K nc ns nx lo (yj v :: st) h) : yW l S D cy Fk z d mi bc bs K nc ns pc lo st h := by
  have hr : yc_14 S G pl mi pc a b c x y nx = true := hr
  unfold yc_14 at hr
  split at hr
  · rename_i n len hd
    simp only [Bool.and_eq_true, decide_eq_true_eq] at hr
    obtain ⟨rfl, rfl, h3⟩ := hr
    exact ys_lload (.inl ⟨n, hd, h3, rfl⟩) hv hk
  · cases hr
theorem e_15 (hr : yRowB S G pl mi (pc, 15, a, b, c, x, y, nx) = true) {v : Int} (hv : yLd lo a = some (yj v)) (hk : yW l S D cy Fk z d mi bc bs K nc ns nx lo (yj v :: st) h) : yW l S D cy Fk z d mi bc bs K nc ns pc lo st h := by
  have hr : yc_15 S G pl mi pc a b c x y nx = true := hr
  unfold yc_15 at hr
  split at hr
  · rename_i n len hd
    simp only [Bool.and_eq_true, decide_eq_true_eq] at hr
    obtain ⟨rfl, rfl, rfl⟩ := hr
    exact ys_lload (.inr ⟨hd, rfl⟩) hv hk
  · cases hr
theorem e_20 (hr : yRowB S G pl mi (pc, 20, a, b, c, x, y, nx) = true) {v : Int} (hk : yW l S D cy Fk z d mi bc bs K nc ns nx (ySt a (yi v) lo) st h) : yW l S D cy Fk z d mi bc bs K nc ns pc lo (yi v :: st) h := by
  have hr : yc_20 S G pl mi pc a b c x y nx = true := hr
  unfold yc_20 at hr
  split at hr
  · rename_i n len hd
    simp only [Bool.and_eq_true, decide_eq_true_eq] at hr
    obtain ⟨rfl, rfl, h3, h4⟩ := hr
    exact ys_istore (.inl ⟨n, hd, h3, rfl⟩) h4 hk
  · cases hr
theorem e_21 (hr : yRowB S G pl mi (pc, 21, a, b, c, x, y, nx) = true) {v : Int} (hk : yW l S D cy Fk z d mi bc bs K nc ns nx (ySt a (yi v) lo) st h) : yW l S D cy Fk z d mi bc bs K nc ns pc lo (yi v :: st) h := by
  have hr : yc_21 S G pl mi pc a b c x y nx = true := hr
  unfold yc_21 at hr
  split at hr
  · rename_i n len hd
    simp only [Bool.and_eq_true, decide_eq_true_eq] at hr
    obtain ⟨rfl, rfl, rfl, h4⟩ := hr
    exact ys_istore (.inr ⟨hd, rfl⟩) h4 hk
  · cases hr
theorem e_22 (hr : yRowB S G pl mi (pc, 22, a, b, c, x, y, nx) = true) {v : Option Nat} (hk : yW l S D cy Fk z d mi bc bs K nc ns nx (ySt a (yr v) lo) st h) : yW l S D cy Fk z d mi bc bs K nc ns pc lo (yr v :: st) h := by
  have hr : yc_22 S G pl mi pc a b c x y nx = true := hr
  unfold yc_22 at hr
  split at hr
  · rename_i n len hd
    simp only [Bool.and_eq_true, decide_eq_true_eq] at hr
    obtain ⟨rfl, rfl, h3, h4⟩ := hr
    exact ys_astore (.inl ⟨n, hd, h3, rfl⟩) h4 hk
  · cases hr
theorem e_23 (hr : yRowB S G pl mi (pc, 23, a, b, c, x, y, nx) = true) {v : Option Nat} (hk : yW l S D cy Fk z d mi bc bs K nc ns nx (ySt a (yr v) lo) st h) : yW l S D cy Fk z d mi bc bs K nc ns pc lo (yr v :: st) h := by
  have hr : yc_23 S G pl mi pc a b c x y nx = true := hr
  unfold yc_23 at hr
  split at hr
  · rename_i n len hd
    simp only [Bool.and_eq_true, decide_eq_true_eq] at hr
    obtain ⟨rfl, rfl, rfl, h4⟩ := hr
    exact ys_astore (.inr ⟨hd, rfl⟩) h4 hk
  · cases hr
theorem e_24 (hr : yRowB S G pl mi (pc, 24, a, b, c, x, y, nx) = true) {v : Int} (hk : yW l S D cy Fk z d mi bc bs K nc ns nx (ySt2 a (yj v) lo) st h) : yW l S D cy Fk z d mi bc bs K nc ns pc lo (yj v :: st) h := by
  have hr : yc_24 S G pl mi pc a b c x y nx = true := hr
  unfold yc_24 at hr
  split at hr
  · rename_i n len hd
    simp only [Bool.and_eq_true, decide_eq_true_eq] at hr
    obtain ⟨rfl, rfl, h3, h4⟩ := hr
    exact ys_lstore (.inl ⟨n, hd, h3, rfl⟩) h4 hk
  · cases hr
theorem e_25 (hr : yRowB S G pl mi (pc, 25, a, b, c, x, y, nx) = true) {v : Int} (hk : yW l S D cy Fk z d mi bc bs K nc ns nx (ySt2 a (yj v) lo) st h) : yW l S D cy Fk z d mi bc bs K nc ns pc lo (yj v :: st) h := by
  have hr : yc_25 S G pl mi pc a b c x y nx = true := hr
  unfold yc_25 at hr
  split at hr
  · rename_i n len hd
    simp only [Bool.and_eq_true, decide_eq_true_eq] at hr
    obtain ⟨rfl, rfl, rfl, h4⟩ := hr
    exact ys_lstore (.inr ⟨hd, rfl⟩) h4 hk
  · cases hr
theorem e_26 (hr : yRowB S G pl mi (pc, 26, a, b, c, x, y, nx) = true) {v w : Int} (hv : yLd lo a = some (yi v)) (hw : (nI b).toInt = w) (hk : yW l S D cy Fk z d mi bc bs K nc ns nx (ySt a (yi (yadd v w)) lo) st h) : yW l S D cy Fk z d mi bc bs K nc ns pc lo st h := by
  have hr : yc_26 S G pl mi pc a b c x y nx = true := hr
  unfold yc_26 at hr
  split at hr
  · rename_i n i len hd
    simp only [Bool.and_eq_true, decide_eq_true_eq] at hr
    obtain ⟨rfl, rfl, rfl, h4, h5⟩ := hr
    subst hw
    exact ys_iinc hd h5 h4 hv hk
  · cases hr
theorem e_30 (hr : yRowB S G pl mi (pc, 30, a, b, c, x, y, nx) = true) {v w : Int} (hk : yW l S D cy Fk z d mi bc bs K nc ns nx lo (yi (yadd v w) :: st) h) : yW l S D cy Fk z d mi bc bs K nc ns pc lo (yi w :: yi v :: st) h := by
  have hr : yc_30 S G pl mi pc a b c x y nx = true := hr
  unfold yc_30 at hr
  split at hr
  · rename_i len hd
    simp only [Bool.and_eq_true, decide_eq_true_eq] at hr
    obtain ⟨rfl, rfl⟩ := hr
    exact ys_iadd hd hk
  · cases hr
theorem e_31 (hr : yRowB S G pl mi (pc, 31, a, b, c, x, y, nx) = true) {v w : Int} (hk : yW l S D cy Fk z d mi bc bs K nc ns nx lo (yi (ysub v w) :: st) h) : yW l S D cy Fk z d mi bc bs K nc ns pc lo (yi w :: yi v :: st) h := by
  have hr : yc_31 S G pl mi pc a b c x y nx = true := hr
  unfold yc_31 at hr
  split at hr
  · rename_i len hd
    simp only [Bool.and_eq_true, decide_eq_true_eq] at hr
    obtain ⟨rfl, rfl⟩ := hr
    exact ys_isub hd hk
  · cases hr
theorem e_32 (hr : yRowB S G pl mi (pc, 32, a, b, c, x, y, nx) = true) {v w : Int} (hk : yW l S D cy Fk z d mi bc bs K nc ns nx lo (yi (ymul v w) :: st) h) : yW l S D cy Fk z d mi bc bs K nc ns pc lo (yi w :: yi v :: st) h := by
  have hr : yc_32 S G pl mi pc a b c x y nx = true := hr
  unfold yc_32 at hr
  split at hr
  · rename_i len hd
    simp only [Bool.and_eq_true, decide_eq_true_eq] at hr
    obtain ⟨rfl, rfl⟩ := hr
    exact ys_imul hd hk
  · cases hr
theorem e_35 (hr : yRowB S G pl mi (pc, 35, a, b, c, x, y, nx) = true) {v w : Int} (hk : yW l S D cy Fk z d mi bc bs K nc ns nx lo (yi (yand v w) :: st) h) : yW l S D cy Fk z d mi bc bs K nc ns pc lo (yi w :: yi v :: st) h := by
  have hr : yc_35 S G pl mi pc a b c x y nx = true := hr
  unfold yc_35 at hr
  split at hr
  · rename_i len hd
    simp only [Bool.and_eq_true, decide_eq_true_eq] at hr
    obtain ⟨rfl, rfl⟩ := hr
    exact ys_iand hd hk
  · cases hr
theorem e_36 (hr : yRowB S G pl mi (pc, 36, a, b, c, x, y, nx) = true) {v w : Int} (hk : yW l S D cy Fk z d mi bc bs K nc ns nx lo (yi (yor v w) :: st) h) : yW l S D cy Fk z d mi bc bs K nc ns pc lo (yi w :: yi v :: st) h := by
  have hr : yc_36 S G pl mi pc a b c x y nx = true := hr
  unfold yc_36 at hr
  split at hr
  · rename_i len hd
    simp only [Bool.and_eq_true, decide_eq_true_eq] at hr
    obtain ⟨rfl, rfl⟩ := hr
    exact ys_ior hd hk
  · cases hr
theorem e_37 (hr : yRowB S G pl mi (pc, 37, a, b, c, x, y, nx) = true) {v w : Int} (hk : yW l S D cy Fk z d mi bc bs K nc ns nx lo (yi (yxor v w) :: st) h) : yW l S D cy Fk z d mi bc bs K nc ns pc lo (yi w :: yi v :: st) h := by
  have hr : yc_37 S G pl mi pc a b c x y nx = true := hr
  unfold yc_37 at hr
  split at hr
  · rename_i len hd
    simp only [Bool.and_eq_true, decide_eq_true_eq] at hr
    obtain ⟨rfl, rfl⟩ := hr
    exact ys_ixor hd hk
  · cases hr
theorem e_38 (hr : yRowB S G pl mi (pc, 38, a, b, c, x, y, nx) = true) {v w : Int} (hk : yW l S D cy Fk z d mi bc bs K nc ns nx lo (yi (yshl v w) :: st) h) : yW l S D cy Fk z d mi bc bs K nc ns pc lo (yi w :: yi v :: st) h := by
  have hr : yc_38 S G pl mi pc a b c x y nx = true := hr
  unfold yc_38 at hr
  split at hr
  · rename_i len hd
    simp only [Bool.and_eq_true, decide_eq_true_eq] at hr
    obtain ⟨rfl, rfl⟩ := hr
    exact ys_ishl hd hk
  · cases hr
theorem e_39 (hr : yRowB S G pl mi (pc, 39, a, b, c, x, y, nx) = true) {v w : Int} (hk : yW l S D cy Fk z d mi bc bs K nc ns nx lo (yi (yshr v w) :: st) h) : yW l S D cy Fk z d mi bc bs K nc ns pc lo (yi w :: yi v :: st) h := by
  have hr : yc_39 S G pl mi pc a b c x y nx = true := hr
  unfold yc_39 at hr
  split at hr
  · rename_i len hd
    simp only [Bool.and_eq_true, decide_eq_true_eq] at hr
    obtain ⟨rfl, rfl⟩ := hr
    exact ys_ishr hd hk
  · cases hr
theorem e_41 (hr : yRowB S G pl mi (pc, 41, a, b, c, x, y, nx) = true) {v w : Int} (hk : yW l S D cy Fk z d mi bc bs K nc ns nx lo (yi (yushr v w) :: st) h) : yW l S D cy Fk z d mi bc bs K nc ns pc lo (yi w :: yi v :: st) h := by
  have hr : yc_41 S G pl mi pc a b c x y nx = true := hr
  unfold yc_41 at hr
  split at hr
  · rename_i len hd
    simp only [Bool.and_eq_true, decide_eq_true_eq] at hr
    obtain ⟨rfl, rfl⟩ := hr
    exact ys_iushr hd hk
  · cases hr
theorem e_33 (hr : yRowB S G pl mi (pc, 33, a, b, c, x, y, nx) = true) {v w : Int} (hne : w ≠ 0) (hk : yW l S D cy Fk z d mi bc bs K nc ns nx lo (yi (ydiv v w) :: st) h) : yW l S D cy Fk z d mi bc bs K nc ns pc lo (yi w :: yi v :: st) h := by
  have hr : yc_33 S G pl mi pc a b c x y nx = true := hr
  unfold yc_33 at hr
  split at hr
  · rename_i len hd
    simp only [Bool.and_eq_true, decide_eq_true_eq] at hr
    obtain ⟨rfl, rfl⟩ := hr
    exact ys_idiv hd hne hk
  · cases hr
theorem e_34 (hr : yRowB S G pl mi (pc, 34, a, b, c, x, y, nx) = true) {v w : Int} (hne : w ≠ 0) (hk : yW l S D cy Fk z d mi bc bs K nc ns nx lo (yi (yrem v w) :: st) h) : yW l S D cy Fk z d mi bc bs K nc ns pc lo (yi w :: yi v :: st) h := by
  have hr : yc_34 S G pl mi pc a b c x y nx = true := hr
  unfold yc_34 at hr
  split at hr
  · rename_i len hd
    simp only [Bool.and_eq_true, decide_eq_true_eq] at hr
    obtain ⟨rfl, rfl⟩ := hr
    exact ys_irem hd hne hk
  · cases hr
theorem e_43 (hr : yRowB S G pl mi (pc, 43, a, b, c, x, y, nx) = true) {v w : Int} (hk : yW l S D cy Fk z d mi bc bs K nc ns nx lo (yj (yladd v w) :: st) h) : yW l S D cy Fk z d mi bc bs K nc ns pc lo (yj w :: yj v :: st) h := by
  have hr : yc_43 S G pl mi pc a b c x y nx = true := hr
  unfold yc_43 at hr
  split at hr
  · rename_i len hd
    simp only [Bool.and_eq_true, decide_eq_true_eq] at hr
    obtain ⟨rfl, rfl⟩ := hr
    exact ys_ladd hd hk
  · cases hr
theorem e_44 (hr : yRowB S G pl mi (pc, 44, a, b, c, x, y, nx) = true) {v w : Int} (hk : yW l S D cy Fk z d mi bc bs K nc ns nx lo (yj (ylmul v w) :: st) h) : yW l S D cy Fk z d mi bc bs K nc ns pc lo (yj w :: yj v :: st) h := by
  have hr : yc_44 S G pl mi pc a b c x y nx = true := hr
  unfold yc_44 at hr
  split at hr
  · rename_i len hd
    simp only [Bool.and_eq_true, decide_eq_true_eq] at hr
    obtain ⟨rfl, rfl⟩ := hr
    exact ys_lmul hd hk
  · cases hr
theorem e_45 (hr : yRowB S G pl mi (pc, 45, a, b, c, x, y, nx) = true) {v w : Int} (hk : yW l S D cy Fk z d mi bc bs K nc ns nx lo (yj (yland v w) :: st) h) : yW l S D cy Fk z d mi bc bs K nc ns pc lo (yj w :: yj v :: st) h := by
  have hr : yc_45 S G pl mi pc a b c x y nx = true := hr
  unfold yc_45 at hr
  split at hr
  · rename_i len hd
    simp only [Bool.and_eq_true, decide_eq_true_eq] at hr
    obtain ⟨rfl, rfl⟩ := hr
    exact ys_land hd hk
  · cases hr
theorem e_46 (hr : yRowB S G pl mi (pc, 46, a, b, c, x, y, nx) = true) {v w : Int} (hk : yW l S D cy Fk z d mi bc bs K nc ns nx lo (yj (ylor v w) :: st) h) : yW l S D cy Fk z d mi bc bs K nc ns pc lo (yj w :: yj v :: st) h := by
  have hr : yc_46 S G pl mi pc a b c x y nx = true := hr
  unfold yc_46 at hr
  split at hr
  · rename_i len hd
    simp only [Bool.and_eq_true, decide_eq_true_eq] at hr
    obtain ⟨rfl, rfl⟩ := hr
    exact ys_lor hd hk
  · cases hr
theorem e_47 (hr : yRowB S G pl mi (pc, 47, a, b, c, x, y, nx) = true) {v w : Int} (hk : yW l S D cy Fk z d mi bc bs K nc ns nx lo (yj (ylxor v w) :: st) h) : yW l S D cy Fk z d mi bc bs K nc ns pc lo (yj w :: yj v :: st) h := by
  have hr : yc_47 S G pl mi pc a b c x y nx = true := hr
  unfold yc_47 at hr
  split at hr
  · rename_i len hd
    simp only [Bool.and_eq_true, decide_eq_true_eq] at hr
    obtain ⟨rfl, rfl⟩ := hr
    exact ys_lxor hd hk
  · cases hr
theorem e_48 (hr : yRowB S G pl mi (pc, 48, a, b, c, x, y, nx) = true) {v w : Int} (hk : yW l S D cy Fk z d mi bc bs K nc ns nx lo (yj (ylshl v w) :: st) h) : yW l S D cy Fk z d mi bc bs K nc ns pc lo (yi w :: yj v :: st) h := by
  have hr : yc_48 S G pl mi pc a b c x y nx = true := hr
  unfold yc_48 at hr
  split at hr
  · rename_i len hd
    simp only [Bool.and_eq_true, decide_eq_true_eq] at hr
    obtain ⟨rfl, rfl⟩ := hr
    exact ys_lshl hd hk
  · cases hr
theorem e_49 (hr : yRowB S G pl mi (pc, 49, a, b, c, x, y, nx) = true) {v w : Int} (hk : yW l S D cy Fk z d mi bc bs K nc ns nx lo (yj (ylshr v w) :: st) h) : yW l S D cy Fk z d mi bc bs K nc ns pc lo (yi w :: yj v :: st) h := by
  have hr : yc_49 S G pl mi pc a b c x y nx = true := hr
  unfold yc_49 at hr
  split at hr
  · rename_i len hd
    simp only [Bool.and_eq_true, decide_eq_true_eq] at hr
    obtain ⟨rfl, rfl⟩ := hr
    exact ys_lshr hd hk
  · cases hr
theorem e_40 (hr : yRowB S G pl mi (pc, 40, a, b, c, x, y, nx) = true) {v : Int} (hk : yW l S D cy Fk z d mi bc bs K nc ns nx lo (yi (yi2b v) :: st) h) : yW l S D cy Fk z d mi bc bs K nc ns pc lo (yi v :: st) h := by
  have hr : yc_40 S G pl mi pc a b c x y nx = true := hr
  unfold yc_40 at hr
  split at hr
  · rename_i len hd
    simp only [Bool.and_eq_true, decide_eq_true_eq] at hr
    obtain ⟨rfl, rfl⟩ := hr
    exact ys_i2b hd hk
  · cases hr
theorem e_42 (hr : yRowB S G pl mi (pc, 42, a, b, c, x, y, nx) = true) {v : Int} (hk : yW l S D cy Fk z d mi bc bs K nc ns nx lo (yj (yi2l v) :: st) h) : yW l S D cy Fk z d mi bc bs K nc ns pc lo (yi v :: st) h := by
  have hr : yc_42 S G pl mi pc a b c x y nx = true := hr
  unfold yc_42 at hr
  split at hr
  · rename_i len hd
    simp only [Bool.and_eq_true, decide_eq_true_eq] at hr
    obtain ⟨rfl, rfl⟩ := hr
    exact ys_i2l hd hk
  · cases hr
theorem e_55 (hr : yRowB S G pl mi (pc, 55, a, b, c, x, y, nx) = true) {v w : Int} (hk : yW l S D cy Fk z d mi bc bs K nc ns nx lo (yi (ylcmp v w) :: st) h) : yW l S D cy Fk z d mi bc bs K nc ns pc lo (yj w :: yj v :: st) h := by
  have hr : yc_55 S G pl mi pc a b c x y nx = true := hr
  unfold yc_55 at hr
  split at hr
  · rename_i len hd
    simp only [Bool.and_eq_true, decide_eq_true_eq] at hr
    obtain ⟨rfl, rfl⟩ := hr
    exact ys_lcmp hd hk
  · cases hr
theorem e_50 (hr : yRowB S G pl mi (pc, 50, a, b, c, x, y, nx) = true) {u : yV} (hl1 : yIsL u = false) (hk : yW l S D cy Fk z d mi bc bs K nc ns nx lo (u :: u :: st) h) : yW l S D cy Fk z d mi bc bs K nc ns pc lo (u :: st) h := by
  have hr : yc_50 S G pl mi pc a b c x y nx = true := hr
  unfold yc_50 at hr
  split at hr
  · rename_i len hd
    simp only [Bool.and_eq_true, decide_eq_true_eq] at hr
    obtain ⟨rfl, rfl⟩ := hr
    exact ys_dup hl1 hd hk
  · cases hr
theorem e_51 (hr : yRowB S G pl mi (pc, 51, a, b, c, x, y, nx) = true) {u w : yV} (hl1 : yIsL u = false) (hl2 : yIsL w = false) (hk : yW l S D cy Fk z d mi bc bs K nc ns nx lo (w :: u :: w :: u :: st) h) : yW l S D cy Fk z d mi bc bs K nc ns pc lo (w :: u :: st) h := by
  have hr : yc_51 S G pl mi pc a b c x y nx = true := hr
  unfold yc_51 at hr
  split at hr
  · rename_i len hd
    simp only [Bool.and_eq_true, decide_eq_true_eq] at hr
    obtain ⟨rfl, rfl⟩ := hr
    exact ys_dup2 hl1 hl2 hd hk
  · cases hr
theorem e_52 (hr : yRowB S G pl mi (pc, 52, a, b, c, x, y, nx) = true) {u : yV} (hl1 : yIsL u = false) (hk : yW l S D cy Fk z d mi bc bs K nc ns nx lo st h) : yW l S D cy Fk z d mi bc bs K nc ns pc lo (u :: st) h := by
  have hr : yc_52 S G pl mi pc a b c x y nx = true := hr
  unfold yc_52 at hr
  split at hr
  · rename_i len hd
    simp only [Bool.and_eq_true, decide_eq_true_eq] at hr
    obtain ⟨rfl, rfl⟩ := hr
    exact ys_pop hl1 hd hk
  · cases hr
theorem e_60 (hr : yRowB S G pl mi (pc, 60, a, b, c, x, y, nx) = true) {v : Int} (hk1 : v = 0 → yW l S D cy Fk z d mi bc bs K nc ns a lo st h) (hk2 : ¬ (v = 0) → yW l S D cy Fk z d mi bc bs K nc ns nx lo st h) : yW l S D cy Fk z d mi bc bs K nc ns pc lo (yi v :: st) h := by
  have hr : yc_60 S G pl mi pc a b c x y nx = true := hr
  unfold yc_60 at hr
  split at hr
  · rename_i off len hd
    simp only [Bool.and_eq_true, decide_eq_true_eq] at hr
    obtain ⟨rfl, rfl, h3⟩ := hr
    exact ys_if_eq hd h3 hk1 hk2
  · cases hr
theorem e_70 (hr : yRowB S G pl mi (pc, 70, a, b, c, x, y, nx) = true) {v w : Int} (hk1 : v = w → yW l S D cy Fk z d mi bc bs K nc ns a lo st h) (hk2 : ¬ (v = w) → yW l S D cy Fk z d mi bc bs K nc ns nx lo st h) : yW l S D cy Fk z d mi bc bs K nc ns pc lo (yi w :: yi v :: st) h := by
  have hr : yc_70 S G pl mi pc a b c x y nx = true := hr
  unfold yc_70 at hr
  split at hr
  · rename_i off len hd
    simp only [Bool.and_eq_true, decide_eq_true_eq] at hr
    obtain ⟨rfl, rfl, h3⟩ := hr
    exact ys_icmp_eq hd h3 hk1 hk2
  · cases hr
theorem e_61 (hr : yRowB S G pl mi (pc, 61, a, b, c, x, y, nx) = true) {v : Int} (hk1 : v ≠ 0 → yW l S D cy Fk z d mi bc bs K nc ns a lo st h) (hk2 : ¬ (v ≠ 0) → yW l S D cy Fk z d mi bc bs K nc ns nx lo st h) : yW l S D cy Fk z d mi bc bs K nc ns pc lo (yi v :: st) h := by
  have hr : yc_61 S G pl mi pc a b c x y nx = true := hr
  unfold yc_61 at hr
  split at hr
  · rename_i off len hd
    simp only [Bool.and_eq_true, decide_eq_true_eq] at hr
    obtain ⟨rfl, rfl, h3⟩ := hr
    exact ys_if_ne hd h3 hk1 hk2
  · cases hr
theorem e_71 (hr : yRowB S G pl mi (pc, 71, a, b, c, x, y, nx) = true) {v w : Int} (hk1 : v ≠ w → yW l S D cy Fk z d mi bc bs K nc ns a lo st h) (hk2 : ¬ (v ≠ w) → yW l S D cy Fk z d mi bc bs K nc ns nx lo st h) : yW l S D cy Fk z d mi bc bs K nc ns pc lo (yi w :: yi v :: st) h := by
  have hr : yc_71 S G pl mi pc a b c x y nx = true := hr
  unfold yc_71 at hr
  split at hr
  · rename_i off len hd
    simp only [Bool.and_eq_true, decide_eq_true_eq] at hr
    obtain ⟨rfl, rfl, h3⟩ := hr
    exact ys_icmp_ne hd h3 hk1 hk2
  · cases hr
theorem e_62 (hr : yRowB S G pl mi (pc, 62, a, b, c, x, y, nx) = true) {v : Int} (hk1 : v < 0 → yW l S D cy Fk z d mi bc bs K nc ns a lo st h) (hk2 : ¬ (v < 0) → yW l S D cy Fk z d mi bc bs K nc ns nx lo st h) : yW l S D cy Fk z d mi bc bs K nc ns pc lo (yi v :: st) h := by
  have hr : yc_62 S G pl mi pc a b c x y nx = true := hr
  unfold yc_62 at hr
  split at hr
  · rename_i off len hd
    simp only [Bool.and_eq_true, decide_eq_true_eq] at hr
    obtain ⟨rfl, rfl, h3⟩ := hr
    exact ys_if_lt hd h3 hk1 hk2
  · cases hr
theorem e_72 (hr : yRowB S G pl mi (pc, 72, a, b, c, x, y, nx) = true) {v w : Int} (hk1 : v < w → yW l S D cy Fk z d mi bc bs K nc ns a lo st h) (hk2 : ¬ (v < w) → yW l S D cy Fk z d mi bc bs K nc ns nx lo st h) : yW l S D cy Fk z d mi bc bs K nc ns pc lo (yi w :: yi v :: st) h := by
  have hr : yc_72 S G pl mi pc a b c x y nx = true := hr
  unfold yc_72 at hr
  split at hr
  · rename_i off len hd
    simp only [Bool.and_eq_true, decide_eq_true_eq] at hr
    obtain ⟨rfl, rfl, h3⟩ := hr
    exact ys_icmp_lt hd h3 hk1 hk2
  · cases hr
theorem e_63 (hr : yRowB S G pl mi (pc, 63, a, b, c, x, y, nx) = true) {v : Int} (hk1 : 0 ≤ v → yW l S D cy Fk z d mi bc bs K nc ns a lo st h) (hk2 : ¬ (0 ≤ v) → yW l S D cy Fk z d mi bc bs K nc ns nx lo st h) : yW l S D cy Fk z d mi bc bs K nc ns pc lo (yi v :: st) h := by
  have hr : yc_63 S G pl mi pc a b c x y nx = true := hr
  unfold yc_63 at hr
  split at hr
  · rename_i off len hd
    simp only [Bool.and_eq_true, decide_eq_true_eq] at hr
    obtain ⟨rfl, rfl, h3⟩ := hr
    exact ys_if_ge hd h3 hk1 hk2
  · cases hr
theorem e_73 (hr : yRowB S G pl mi (pc, 73, a, b, c, x, y, nx) = true) {v w : Int} (hk1 : w ≤ v → yW l S D cy Fk z d mi bc bs K nc ns a lo st h) (hk2 : ¬ (w ≤ v) → yW l S D cy Fk z d mi bc bs K nc ns nx lo st h) : yW l S D cy Fk z d mi bc bs K nc ns pc lo (yi w :: yi v :: st) h := by
  have hr : yc_73 S G pl mi pc a b c x y nx = true := hr
  unfold yc_73 at hr
  split at hr
  · rename_i off len hd
    simp only [Bool.and_eq_true, decide_eq_true_eq] at hr
    obtain ⟨rfl, rfl, h3⟩ := hr
    exact ys_icmp_ge hd h3 hk1 hk2
  · cases hr
theorem e_64 (hr : yRowB S G pl mi (pc, 64, a, b, c, x, y, nx) = true) {v : Int} (hk1 : 0 < v → yW l S D cy Fk z d mi bc bs K nc ns a lo st h) (hk2 : ¬ (0 < v) → yW l S D cy Fk z d mi bc bs K nc ns nx lo st h) : yW l S D cy Fk z d mi bc bs K nc ns pc lo (yi v :: st) h := by
  have hr : yc_64 S G pl mi pc a b c x y nx = true := hr
  unfold yc_64 at hr
  split at hr
  · rename_i off len hd
    simp only [Bool.and_eq_true, decide_eq_true_eq] at hr
    obtain ⟨rfl, rfl, h3⟩ := hr
    exact ys_if_gt hd h3 hk1 hk2
  · cases hr
theorem e_74 (hr : yRowB S G pl mi (pc, 74, a, b, c, x, y, nx) = true) {v w : Int} (hk1 : w < v → yW l S D cy Fk z d mi bc bs K nc ns a lo st h) (hk2 : ¬ (w < v) → yW l S D cy Fk z d mi bc bs K nc ns nx lo st h) : yW l S D cy Fk z d mi bc bs K nc ns pc lo (yi w :: yi v :: st) h := by
  have hr : yc_74 S G pl mi pc a b c x y nx = true := hr
  unfold yc_74 at hr
  split at hr
  · rename_i off len hd
    simp only [Bool.and_eq_true, decide_eq_true_eq] at hr
    obtain ⟨rfl, rfl, h3⟩ := hr
    exact ys_icmp_gt hd h3 hk1 hk2
  · cases hr
theorem e_65 (hr : yRowB S G pl mi (pc, 65, a, b, c, x, y, nx) = true) {v : Int} (hk1 : v ≤ 0 → yW l S D cy Fk z d mi bc bs K nc ns a lo st h) (hk2 : ¬ (v ≤ 0) → yW l S D cy Fk z d mi bc bs K nc ns nx lo st h) : yW l S D cy Fk z d mi bc bs K nc ns pc lo (yi v :: st) h := by
  have hr : yc_65 S G pl mi pc a b c x y nx = true := hr
  unfold yc_65 at hr
  split at hr
  · rename_i off len hd
    simp only [Bool.and_eq_true, decide_eq_true_eq] at hr
    obtain ⟨rfl, rfl, h3⟩ := hr
    exact ys_if_le hd h3 hk1 hk2
  · cases hr
theorem e_75 (hr : yRowB S G pl mi (pc, 75, a, b, c, x, y, nx) = true) {v w : Int} (hk1 : v ≤ w → yW l S D cy Fk z d mi bc bs K nc ns a lo st h) (hk2 : ¬ (v ≤ w) → yW l S D cy Fk z d mi bc bs K nc ns nx lo st h) : yW l S D cy Fk z d mi bc bs K nc ns pc lo (yi w :: yi v :: st) h := by
  have hr : yc_75 S G pl mi pc a b c x y nx = true := hr
  unfold yc_75 at hr
  split at hr
  · rename_i off len hd
    simp only [Bool.and_eq_true, decide_eq_true_eq] at hr
    obtain ⟨rfl, rfl, h3⟩ := hr
    exact ys_icmp_le hd h3 hk1 hk2
  · cases hr
theorem e_80 (hr : yRowB S G pl mi (pc, 80, a, b, c, x, y, nx) = true) (hk : yW l S D cy Fk z d mi bc bs K nc ns a lo st h) : yW l S D cy Fk z d mi bc bs K nc ns pc lo st h := by
  have hr : yc_80 S G pl mi pc a b c x y nx = true := hr
  unfold yc_80 at hr
  split at hr
  · rename_i off len hd
    simp only [Bool.and_eq_true, decide_eq_true_eq] at hr
    obtain ⟨rfl, h3⟩ := hr
    exact ys_goto hd h3 hk
  · cases hr
theorem e_82 (hr : yRowB S G pl mi (pc, 82, a, b, c, x, y, nx) = true) {r : Option Nat} (hk1 : ∀ q, r = some q → yW l S D cy Fk z d mi bc bs K nc ns a lo st h) (hk2 : r = none → yW l S D cy Fk z d mi bc bs K nc ns nx lo st h) : yW l S D cy Fk z d mi bc bs K nc ns pc lo (yr r :: st) h := by
  have hr : yc_82 S G pl mi pc a b c x y nx = true := hr
  unfold yc_82 at hr
  split at hr
  · rename_i off len hd
    simp only [Bool.and_eq_true, decide_eq_true_eq] at hr
    obtain ⟨rfl, rfl, h3⟩ := hr
    exact ys_ifnn hd h3 hk1 hk2
  · cases hr
theorem e_83 (hr : yRowB S G pl mi (pc, 83, a, b, c, x, y, nx) = true) {v low : Int} (hl : (a : Int) - 2147483648 = low) (hk : yW l S D cy Fk z d mi bc bs K nc ns (ySw low (yTg G c) nx v) lo st h) : yW l S D cy Fk z d mi bc bs K nc ns pc lo (yi v :: st) h := by
  have hr : yc_83 S G pl mi pc a b c x y nx = true := hr
  unfold yc_83 at hr
  split at hr
  · rename_i dflt low0 hi offs len hd
    simp only [Bool.and_eq_true, decide_eq_true_eq] at hr
    obtain ⟨⟨h1, h2, h3⟩, h4⟩ := hr
    have e : low = low0 := by omega
    subst e
    refine ys_tsw hd h2 h3 (fun j t hj => ?_) hk
    have hlt : j < (yTg G c).length := (List.getElem?_eq_some_iff.mp hj).1
    have g := List.all_eq_true.mp h4 j (List.mem_range.mpr hlt)
    rw [hj] at g
    split at g
    · rename_i off t' ho ht
      cases ht
      exact ⟨off, ho, of_decide_eq_true g⟩
    · cases g
  · cases hr
theorem e_90 (A : yAll S G Fk pl) (hr : yRowB S G pl mi (pc, 90, a, b, c, x, y, nx) = true) {q n s : Nat} {r : Option Nat} (hr' : r = some q) (ht : yTy h q = (10 + a, n)) (hn : ((sCl S)[a]?).map (fun t => t.2.2) = some n) (hs : Fk a b = s) (hk : yW l S D cy Fk z d mi bc bs K nc ns nx lo (yFd h q b s :: st) h) : yW l S D cy Fk z d mi bc bs K nc ns pc lo (yr r :: st) h := by
  have hr : yc_90 S G pl mi pc a b c x y nx = true := hr
  unfold yc_90 at hr
  split at hr
  · rename_i i len hd
    split at hr
    · rename_i C0 T N hc
      simp only [Bool.and_eq_true, decide_eq_true_eq] at hr
      obtain ⟨⟨rfl, rfl, rfl, h4⟩, h5⟩ := hr
      rw [hc] at hn
      have hn : N = n := Option.some.inj hn
      subst hn hs
      exact ys_gf A.2.1 hd hc h4 (of_decide_eq_true h5) hr' ht hk
    · cases hr
  · cases hr
theorem e_91 (A : yAll S G Fk pl) (hr : yRowB S G pl mi (pc, 91, a, b, c, x, y, nx) = true) {q n : Nat} {r : Option Nat} {u : yV} (hr' : r = some q) (ht : yTy h q = (10 + a, n)) (hn : ((sCl S)[a]?).map (fun t => t.2.2) = some n) (hs : Fk a b = ySo u) (hf : yFit c u) (hk : yW l S D cy Fk z d mi bc bs K nc ns nx lo st (yPut h q b u)) : yW l S D cy Fk z d mi bc bs K nc ns pc lo (u :: yr r :: st) h := by
  have hr : yc_91 S G pl mi pc a b c x y nx = true := hr
  unfold yc_91 at hr
  split at hr
  · rename_i i len hd
    split at hr
    · rename_i C0 T N hc
      split at hr
      · rename_i ty hty
        simp only [Bool.and_eq_true, decide_eq_true_eq] at hr
        obtain ⟨⟨rfl, rfl, rfl, h4, rfl, h6⟩, h5⟩ := hr
        rw [hc] at hn
        have hn : N = n := Option.some.inj hn
        subst hn
        exact ys_pf A.2.1 hd hc h4 (of_decide_eq_true h5) hty h6 hf hs hr' ht hk
      · cases hr
    · cases hr
  · cases hr
theorem e_100 (A : yAll S G Fk pl) (hr : yRowB S G pl mi (pc, 100, a, b, c, x, y, nx) = true) (hb1 : nc + 1 ≤ bc) (hb2 : ns + b ≤ bs) (hk : yW l S D cy Fk z d mi bc bs K (nc + 1) (ns + b) nx lo (yr (some h.1) :: st) (yNw h (10 + a) b)) : yW l S D cy Fk z d mi bc bs K nc ns pc lo st h := by
  have hr : yc_100 S G pl mi pc a b c x y nx = true := hr
  unfold yc_100 at hr
  split at hr
  · rename_i i len hd
    split at hr
    · rename_i C0 T N hc
      simp only [Bool.and_eq_true, decide_eq_true_eq] at hr
      obtain ⟨⟨rfl, rfl, rfl, rfl⟩, h5⟩ := hr
      exact ys_new A.2.1 (A.2.2.1 a (List.getElem?_eq_some_iff.mp hc).1) hd hc (of_decide_eq_true h5) hb1 hb2 hk
    · cases hr
  · cases hr
theorem e_101 (hr : yRowB S G pl mi (pc, 101, a, b, c, x, y, nx) = true) (A : yAll S G Fk pl) {n : Nat} {v : Int} (hv : v = (n : Int)) (hn : n ≤ 65536) (hb1 : nc + 1 ≤ bc) (hb2 : ns + n ≤ bs) (hk : yW l S D cy Fk z d mi bc bs K (nc + 1) (ns + n) nx lo (yr (some h.1) :: st) (yNw h a n)) : yW l S D cy Fk z d mi bc bs K nc ns pc lo (yi v :: st) h := by
  have hr : yc_101 S G pl mi pc a b c x y nx = true := hr
  unfold yc_101 at hr
  split at hr
  · rename_i t len hd
    simp only [Bool.and_eq_true, decide_eq_true_eq] at hr
    obtain ⟨rfl, rfl, h3⟩ := hr
    refine ys_na A.2.2.2.2.2.1 ?_ hv hn hb1 hb2 hk
    rcases h3 with ⟨g, rfl⟩ | ⟨g, rfl⟩ | ⟨g, rfl⟩ | ⟨g, rfl⟩
    · exact .inl ⟨g, hd⟩
    · exact .inr (.inl ⟨g, hd⟩)
    · exact .inr (.inr (.inl ⟨g, hd⟩))
    · exact .inr (.inr (.inr ⟨g, hd⟩))
  · cases hr
theorem e_102 (hr : yRowB S G pl mi (pc, 102, a, b, c, x, y, nx) = true) {n : Nat} {v : Int} (hv : v = (n : Int)) (hn : n ≤ 64) (hb1 : nc + 1 ≤ bc) (hb2 : ns + n ≤ bs) (hk : yW l S D cy Fk z d mi bc bs K (nc + 1) (ns + n) nx lo (yr (some h.1) :: st) (yNw h a n)) : yW l S D cy Fk z d mi bc bs K nc ns pc lo (yi v :: st) h := by
  have hr : yc_102 S G pl mi pc a b c x y nx = true := hr
  unfold yc_102 at hr
  split at hr
  · rename_i i len hd
    simp only [Bool.and_eq_true, Bool.or_eq_true, decide_eq_true_eq] at hr
    obtain ⟨⟨rfl, rfl, rfl⟩, h4⟩ := hr
    rcases h4 with ⟨⟨g1, g2⟩, g3⟩ | ⟨⟨g1, g2⟩, g3⟩
    · exact ys_raq hd (.inl ⟨g1, rfl⟩) g2 (of_decide_eq_true g3) hv hn hb1 hb2 hk
    · exact ys_raq hd (.inr ⟨g1, rfl⟩) g2 (of_decide_eq_true g3) hv hn hb1 hb2 hk
  · cases hr
theorem e_103 (hr : yRowB S G pl mi (pc, 103, a, b, c, x, y, nx) = true) {q cc n : Nat} {r : Option Nat} (hr' : r = some q) (ht : yTy h q = (cc, n)) (hc : cc ≤ 5) (hn : n < 2147483648) (hk : yW l S D cy Fk z d mi bc bs K nc ns nx lo (yi (n : Int) :: st) h) : yW l S D cy Fk z d mi bc bs K nc ns pc lo (yr r :: st) h := by
  have hr : yc_103 S G pl mi pc a b c x y nx = true := hr
  unfold yc_103 at hr
  split at hr
  · rename_i len hd
    simp only [Bool.and_eq_true, decide_eq_true_eq] at hr
    obtain ⟨rfl, rfl⟩ := hr
    exact ys_alen hd hr' ht hc hn hk
  · cases hr
theorem e_110 (hr : yRowB S G pl mi (pc, 110, a, b, c, x, y, nx) = true) {q n : Nat} {v : Int} {r : Option Nat} (hr' : r = some q) (ht : yTy h q = (1, n)) (h0 : 0 ≤ v) (h1 : v < (n : Int)) (hk : yW l S D cy Fk z d mi bc bs K nc ns nx lo (yi (yI h q v.toNat) :: st) h) : yW l S D cy Fk z d mi bc bs K nc ns pc lo (yi v :: yr r :: st) h := by
  have hr : yc_110 S G pl mi pc a b c x y nx = true := hr
  unfold yc_110 at hr
  split at hr
  · rename_i len hd
    simp only [Bool.and_eq_true, decide_eq_true_eq] at hr
    obtain ⟨rfl, rfl⟩ := hr
    exact ys_ild (.inl ⟨rfl, hd⟩) hr' ht h0 h1 hk
  · cases hr
theorem e_112 (hr : yRowB S G pl mi (pc, 112, a, b, c, x, y, nx) = true) {cc : Nat} {q n : Nat} {v : Int} {r : Option Nat} (hr' : r = some q) (ht : yTy h q = (cc, n)) (h0 : 0 ≤ v) (h1 : v < (n : Int)) (hc : cc = 0 ∨ cc = 3) (hk : yW l S D cy Fk z d mi bc bs K nc ns nx lo (yi (yI h q v.toNat) :: st) h) : yW l S D cy Fk z d mi bc bs K nc ns pc lo (yi v :: yr r :: st) h := by
  have hr : yc_112 S G pl mi pc a b c x y nx = true := hr
  unfold yc_112 at hr
  split at hr
  · rename_i len hd
    simp only [Bool.and_eq_true, decide_eq_true_eq] at hr
    obtain ⟨rfl, rfl⟩ := hr
    exact ys_ild (.inr ⟨hc, hd⟩) hr' ht h0 h1 hk
  · cases hr
theorem e_114 (hr : yRowB S G pl mi (pc, 114, a, b, c, x, y, nx) = true) {q n : Nat} {v : Int} {r : Option Nat} (hr' : r = some q) (ht : yTy h q = (2, n)) (h0 : 0 ≤ v) (h1 : v < (n : Int)) (hk : yW l S D cy Fk z d mi bc bs K nc ns nx lo (yj (yI h q v.toNat) :: st) h) : yW l S D cy Fk z d mi bc bs K nc ns pc lo (yi v :: yr r :: st) h := by
  have hr : yc_114 S G pl mi pc a b c x y nx = true := hr
  unfold yc_114 at hr
  split at hr
  · rename_i len hd
    simp only [Bool.and_eq_true, decide_eq_true_eq] at hr
    obtain ⟨rfl, rfl⟩ := hr
    exact ys_lld hd hr' ht h0 h1 hk
  · cases hr
theorem e_116 (hr : yRowB S G pl mi (pc, 116, a, b, c, x, y, nx) = true) {cc : Nat} {q n : Nat} {v : Int} {r : Option Nat} (hr' : r = some q) (ht : yTy h q = (cc, n)) (h0 : 0 ≤ v) (h1 : v < (n : Int)) (hc : cc = 4 ∨ cc = 5) (hk : yW l S D cy Fk z d mi bc bs K nc ns nx lo (yr (yR h q v.toNat) :: st) h) : yW l S D cy Fk z d mi bc bs K nc ns pc lo (yi v :: yr r :: st) h := by
  have hr : yc_116 S G pl mi pc a b c x y nx = true := hr
  unfold yc_116 at hr
  split at hr
  · rename_i len hd
    simp only [Bool.and_eq_true, decide_eq_true_eq] at hr
    obtain ⟨rfl, rfl⟩ := hr
    exact ys_aald hd hr' ht hc h0 h1 hk
  · cases hr
theorem e_111 (hr : yRowB S G pl mi (pc, 111, a, b, c, x, y, nx) = true) {q n : Nat} {v : Int} {r : Option Nat} (hr' : r = some q) (ht : yTy h q = (1, n)) (h0 : 0 ≤ v) (h1 : v < (n : Int)) {u : Int} (hk : yW l S D cy Fk z d mi bc bs K nc ns nx lo st (ySI h q v.toNat (ynar 1 u))) : yW l S D cy Fk z d mi bc bs K nc ns pc lo (yi u :: yi v :: yr r :: st) h := by
  have hr : yc_111 S G pl mi pc a b c x y nx = true := hr
  unfold yc_111 at hr
  split at hr
  · rename_i len hd
    simp only [Bool.and_eq_true, decide_eq_true_eq] at hr
    obtain ⟨rfl, rfl⟩ := hr
    exact ys_ist (.inl ⟨rfl, hd⟩) hr' ht h0 h1 hk
  · cases hr
theorem e_113 (hr : yRowB S G pl mi (pc, 113, a, b, c, x, y, nx) = true) {cc : Nat} {q n : Nat} {v : Int} {r : Option Nat} (hr' : r = some q) (ht : yTy h q = (cc, n)) (h0 : 0 ≤ v) (h1 : v < (n : Int)) (hc : cc = 0 ∨ cc = 3) {u : Int} (hk : yW l S D cy Fk z d mi bc bs K nc ns nx lo st (ySI h q v.toNat (ynar cc u))) : yW l S D cy Fk z d mi bc bs K nc ns pc lo (yi u :: yi v :: yr r :: st) h := by
  have hr : yc_113 S G pl mi pc a b c x y nx = true := hr
  unfold yc_113 at hr
  split at hr
  · rename_i len hd
    simp only [Bool.and_eq_true, decide_eq_true_eq] at hr
    obtain ⟨rfl, rfl⟩ := hr
    exact ys_ist (.inr ⟨hc, hd⟩) hr' ht h0 h1 hk
  · cases hr
theorem e_115 (hr : yRowB S G pl mi (pc, 115, a, b, c, x, y, nx) = true) {q n : Nat} {v : Int} {r : Option Nat} (hr' : r = some q) (ht : yTy h q = (2, n)) (h0 : 0 ≤ v) (h1 : v < (n : Int)) {u : Int} (hk : yW l S D cy Fk z d mi bc bs K nc ns nx lo st (ySI h q v.toNat u)) : yW l S D cy Fk z d mi bc bs K nc ns pc lo (yj u :: yi v :: yr r :: st) h := by
  have hr : yc_115 S G pl mi pc a b c x y nx = true := hr
  unfold yc_115 at hr
  split at hr
  · rename_i len hd
    simp only [Bool.and_eq_true, decide_eq_true_eq] at hr
    obtain ⟨rfl, rfl⟩ := hr
    exact ys_last hd hr' ht h0 h1 hk
  · cases hr
theorem e_117 (hr : yRowB S G pl mi (pc, 117, a, b, c, x, y, nx) = true) (A : yAll S G Fk pl) {cc co n' g : Nat} {r2 : Option Nat} {q n : Nat} {v : Int} {r : Option Nat} (hr' : r = some q) (ht : yTy h q = (cc, n)) (h0 : 0 ≤ v) (h1 : v < (n : Int)) (hr2 : r2 = some g) (ht2 : yTy h g = (10 + co, n')) (hc : (cc = 4 ∧ co = 5) ∨ (cc = 5 ∧ co = 9)) (hk : yW l S D cy Fk z d mi bc bs K nc ns nx lo st (ySR h q v.toNat (some g))) : yW l S D cy Fk z d mi bc bs K nc ns pc lo (yr r2 :: yi v :: yr r :: st) h := by
  have hr : yc_117 S G pl mi pc a b c x y nx = true := hr
  unfold yc_117 at hr
  split at hr
  · rename_i len hd
    simp only [Bool.and_eq_true, decide_eq_true_eq] at hr
    obtain ⟨rfl, rfl⟩ := hr
    exact ys_aast A.2.2.2.1 hd hr' hr2 ht ht2 hc h0 h1 hk
  · cases hr
theorem e_120 (hr : yRowB S G pl mi (pc, 120, a, b, c, x, y, nx) = true) {v : Int} (hk : K (some (yi v)) h) : yW l S D cy Fk z d mi bc bs K nc ns pc lo [yi v] h := by
  have hr : yc_120 S G pl mi pc a b c x y nx = true := hr
  unfold yc_120 at hr
  split at hr
  · rename_i len hd
    simp only [Bool.and_eq_true, decide_eq_true_eq] at hr
    obtain ⟨rfl, h3⟩ := hr
    exact ys_ireturn hd h3 hk
  · cases hr
theorem e_121 (hr : yRowB S G pl mi (pc, 121, a, b, c, x, y, nx) = true) {v : Int} (hv : v = 0 ∨ v = 1) (hk : K (some (yi v)) h) : yW l S D cy Fk z d mi bc bs K nc ns pc lo [yi v] h := by
  have hr : yc_121 S G pl mi pc a b c x y nx = true := hr
  unfold yc_121 at hr
  split at hr
  · rename_i len hd
    simp only [Bool.and_eq_true, decide_eq_true_eq] at hr
    obtain ⟨rfl, h3⟩ := hr
    exact ys_zreturn hd h3 hv hk
  · cases hr
theorem e_122 (hr : yRowB S G pl mi (pc, 122, a, b, c, x, y, nx) = true) (hk : K none h) : yW l S D cy Fk z d mi bc bs K nc ns pc lo [] h := by
  have hr : yc_122 S G pl mi pc a b c x y nx = true := hr
  unfold yc_122 at hr
  split at hr
  · rename_i len hd
    simp only [Bool.and_eq_true, decide_eq_true_eq] at hr
    obtain ⟨rfl, h3⟩ := hr
    exact ys_return hd h3 hk
  · cases hr
theorem e_123 (hr : yRowB S G pl mi (pc, 123, a, b, c, x, y, nx) = true) {v : Int} (hk : K (some (yj v)) h) : yW l S D cy Fk z d mi bc bs K nc ns pc lo [yj v] h := by
  have hr : yc_123 S G pl mi pc a b c x y nx = true := hr
  unfold yc_123 at hr
  split at hr
  · rename_i len hd
    simp only [Bool.and_eq_true, decide_eq_true_eq] at hr
    obtain ⟨rfl, h3⟩ := hr
    exact ys_lreturn hd h3 hk
  · cases hr
theorem e_130 (hr : yRowB S G pl mi (pc, 130, a, b, c, x, y, nx) = true) (A : yAll S G Fk pl) {an ml d' mc ms : Nat} {tb : zT} {as rest : List yV} (hG : G.1[a]? = some ((an, ml), tb)) (hdd : d = d' + 1) (hst : st = as.reverse ++ rest) (hal : as.length = an) (hc1 : yCat rest ≤ 8) (hc2 : yCat as ≤ ml) (hrc : ∃ q n as', as = yr (some q) :: as' ∧ yTy h q = (10 + c, n)) (hb1 : nc + mc ≤ bc) (hb2 : ns + ms ≤ bs) (hk : yW l S D cy Fk z d' a mc ms (fun r h' => yW l S D cy Fk z d mi bc bs K (nc + mc) (ns + ms) nx lo (yPush r rest) h') 0 0 0 (yArg as 0) [] h) : yW l S D cy Fk z d mi bc bs K nc ns pc lo st h := by
  have hr : yc_130 S G pl mi pc a b c x y nx = true := hr
  unfold yc_130 at hr
  split at hr
  · rename_i i len hd
    simp only [Bool.and_eq_true, decide_eq_true_eq] at hr
    obtain ⟨⟨rfl, rfl, rfl, hb, hth⟩, h4⟩ := hr
    exact ys_call A.1 hth (zMtB_to (A.2.2.2.2.2.2 a _ hG)) (zLkB_to h4 _ _ _ hG) (.inl ⟨hb, hd⟩) hdd hst hal hc1 hc2 (fun _ => hrc) (fun g => absurd (hb.symm.trans g) (by decide)) hb1 hb2 hk
  · cases hr
theorem e_131 (hr : yRowB S G pl mi (pc, 131, a, b, c, x, y, nx) = true) (A : yAll S G Fk pl) {an ml d' mc ms : Nat} {tb : zT} {as rest : List yV} (hG : G.1[a]? = some ((an, ml), tb)) (hdd : d = d' + 1) (hst : st = as.reverse ++ rest) (hal : as.length = an) (hc1 : yCat rest ≤ 8) (hc2 : yCat as ≤ ml) (hrc : ∃ q as', as = yr (some q) :: as') (hb1 : nc + mc ≤ bc) (hb2 : ns + ms ≤ bs) (hk : yW l S D cy Fk z d' a mc ms (fun r h' => yW l S D cy Fk z d mi bc bs K (nc + mc) (ns + ms) nx lo (yPush r rest) h') 0 0 0 (yArg as 0) [] h) : yW l S D cy Fk z d mi bc bs K nc ns pc lo st h := by
  have hr : yc_131 S G pl mi pc a b c x y nx = true := hr
  unfold yc_131 at hr
  split at hr
  · rename_i i len hd
    simp only [Bool.and_eq_true, decide_eq_true_eq] at hr
    obtain ⟨⟨rfl, rfl, rfl, hb, hth⟩, h4⟩ := hr
    exact ys_call A.1 hth (zMtB_to (A.2.2.2.2.2.2 a _ hG)) (zLkB_to h4 _ _ _ hG) (.inr (.inl ⟨hb, hd⟩)) hdd hst hal hc1 hc2 (fun g => absurd (hb.symm.trans g) (by decide)) (fun _ => hrc) hb1 hb2 hk
  · cases hr
theorem e_132 (hr : yRowB S G pl mi (pc, 132, a, b, c, x, y, nx) = true) (A : yAll S G Fk pl) {an ml d' mc ms : Nat} {tb : zT} {as rest : List yV} (hG : G.1[a]? = some ((an, ml), tb)) (hdd : d = d' + 1) (hst : st = as.reverse ++ rest) (hal : as.length = an) (hc1 : yCat rest ≤ 8) (hc2 : yCat as ≤ ml) (hb1 : nc + mc ≤ bc) (hb2 : ns + ms ≤ bs) (hk : yW l S D cy Fk z d' a mc ms (fun r h' => yW l S D cy Fk z d mi bc bs K (nc + mc) (ns + ms) nx lo (yPush r rest) h') 0 0 0 (yArg as 0) [] h) : yW l S D cy Fk z d mi bc bs K nc ns pc lo st h := by
  have hr : yc_132 S G pl mi pc a b c x y nx = true := hr
  unfold yc_132 at hr
  split at hr
  · rename_i i len hd
    simp only [Bool.and_eq_true, decide_eq_true_eq] at hr
    obtain ⟨⟨rfl, rfl, rfl, hb, hth⟩, h4⟩ := hr
    exact ys_call A.1 hth (zMtB_to (A.2.2.2.2.2.2 a _ hG)) (zLkB_to h4 _ _ _ hG) (.inr (.inr ⟨by omega, hd⟩)) hdd hst hal hc1 hc2 (fun g => absurd (hb.symm.trans g) (by decide)) (fun g => absurd (hb.symm.trans g) (by decide)) hb1 hb2 hk
  · cases hr
theorem e_133 (hr : yRowB S G pl mi (pc, 133, a, b, c, x, y, nx) = true) (A : yAll S G Fk pl) {q : Nat} {r : Option Nat} (hr' : r = some q) (hd0 : 0 < d) (hc1 : yCat st ≤ 8) (hk : yW l S D cy Fk z d mi bc bs K nc ns nx lo st h) : yW l S D cy Fk z d mi bc bs K nc ns pc lo (yr r :: st) h := by
  have hr : yc_133 S G pl mi pc a b c x y nx = true := hr
  unfold yc_133 at hr
  split at hr
  · rename_i i len hd
    simp only [Bool.and_eq_true, decide_eq_true_eq] at hr
    obtain ⟨⟨rfl, rfl, rfl⟩, h4⟩ := hr
    exact ys_obj A.2.2.2.2.1 hd (zIx_in h4) hr' hd0 hc1 hk
  · cases hr
theorem e_136 (hr : yRowB S G pl mi (pc, 136, a, b, c, x, y, nx) = true) (A : yAll S G Fk pl) {v w : Int} (hd0 : 0 < d) (hc1 : yCat st ≤ 8) (hk : yW l S D cy Fk z d mi bc bs K nc ns nx lo (yi (ymin v w) :: st) h) : yW l S D cy Fk z d mi bc bs K nc ns pc lo (yi w :: yi v :: st) h := by
  have hr : yc_136 S G pl mi pc a b c x y nx = true := hr
  unfold yc_136 at hr
  split at hr
  · rename_i i len hd
    simp only [Bool.and_eq_true, decide_eq_true_eq] at hr
    obtain ⟨⟨rfl, rfl, rfl⟩, h4⟩ := hr
    exact ys_min A.2.2.2.2.1 hd (zIx_in h4) hd0 hc1 hk
  · cases hr
theorem e_137 (hr : yRowB S G pl mi (pc, 137, a, b, c, x, y, nx) = true) (A : yAll S G Fk pl) {v w : Int} (hd0 : 0 < d) (hc1 : yCat st ≤ 8) (hk : yW l S D cy Fk z d mi bc bs K nc ns nx lo (yi (ymax v w) :: st) h) : yW l S D cy Fk z d mi bc bs K nc ns pc lo (yi w :: yi v :: st) h := by
  have hr : yc_137 S G pl mi pc a b c x y nx = true := hr
  unfold yc_137 at hr
  split at hr
  · rename_i i len hd
    simp only [Bool.and_eq_true, decide_eq_true_eq] at hr
    obtain ⟨⟨rfl, rfl, rfl⟩, h4⟩ := hr
    exact ys_max A.2.2.2.2.1 hd (zIx_in h4) hd0 hc1 hk
  · cases hr
theorem e_135 (hr : yRowB S G pl mi (pc, 135, a, b, c, x, y, nx) = true) (A : yAll S G Fk pl) {q q1 n : Nat} {n0 z1 z2 : Int} {r r1 : Option Nat} (hr' : r = some q) (hr1 : r1 = some q1) (ht : yTy h q = (1, n)) (ht1 : yTy h q1 = (1, n)) (hn : n0 = (n : Int)) (hz1 : z1 = 0) (hz2 : z2 = 0) (hn6 : n ≤ 65536) (hd0 : 0 < d) (hc1 : yCat st ≤ 8) (hk : yW l S D cy Fk z d mi bc bs K nc ns nx lo st (yCpy h q1 q n)) : yW l S D cy Fk z d mi bc bs K nc ns pc lo (yi n0 :: yi z1 :: yr r :: yi z2 :: yr r1 :: st) h := by
  have hr : yc_135 S G pl mi pc a b c x y nx = true := hr
  unfold yc_135 at hr
  split at hr
  · rename_i i len hd
    simp only [Bool.and_eq_true, decide_eq_true_eq] at hr
    obtain ⟨⟨rfl, rfl, rfl⟩, h4⟩ := hr
    exact ys_cpy A.2.2.2.2.1 hd (zIx_in h4) hr' hr1 ht ht1 hn hz1 hz2 hn6 hd0 hc1 hk
  · cases hr
end Sy
