set_option maxHeartbeats 4000000 in
theorem zs_step {l : Launch} {S : zS} {D : va_G} {cy : Nat → ClassId} {z : Nat} {G : zG0} {ih : zHo} {pl : List (List Nat)} (hall : zAll S G pl) (hi : zOK l S D cy z G ih) : zOK l S D cy z G (zstp G ih) := by
  intro d mi tb bc bs nc ns pc lo st h K hk ht
  obtain ⟨hgd, hcl, hmk, hra, hnt, hac, hrows⟩ := hall
  have hmts : ∀ a an ml mc ms tb', zN G.1 a = some ((an, ml), mc, ms, tb') → zMt S a ml := fun a an ml mc ms tb' hG => zMtB_to (hrows a _ (by rw [← zN_eq]; exact hG)).1.1 (hrows a _ (by rw [← zN_eq]; exact hG)).1.2
  simp only [zstp, zF_eq, zN_eq] at hk
  cases hl : tb[pc / 16]? with
  | none => rw [hl] at hk; cases hk
  | some rl =>
    rw [hl] at hk
    dsimp only at hk
    cases he : zFe rl pc with
    | none => rw [he] at hk; cases hk
    | some e =>
      rw [he] at hk
      dsimp only at hk
      obtain ⟨hmem, hpc⟩ := zFe_mem _ _ he
      have hrow : zRowB S G pl mi e = true := by
        obtain ⟨an0, mc0, ms0, hG0⟩ := ht
        exact (hrows mi _ (by rw [← zN_eq]; exact hG0)).2 rl (List.mem_of_getElem? hl) e hmem
      obtain ⟨pc', op, a, b, c, x, y, nx⟩ := e
      dsimp only at hpc hk
      subst hpc
      unfold zRowB at hrow
      dsimp only at hrow
      cases hdec : decode (sC S mi) pc' with
      | error er => rw [hdec] at hrow; cases hrow
      | ok il =>
        obtain ⟨ins, len⟩ := il
        rw [hdec] at hrow
        dsimp only at hrow
        clear hl he hmem
        cases ins with
        | iconst n =>
          simp only [zInsB, Bool.and_eq_true, decide_eq_true_eq] at hrow
          obtain ⟨rfl, rfl, rfl, hv⟩ := hrow
          exact zs_iconst (ea := a) (eb := b) (ec := c) hi ht hdec hv rfl hk
        | bipush n =>
          simp only [zInsB, Bool.and_eq_true, decide_eq_true_eq] at hrow
          obtain ⟨rfl, rfl, rfl, hv⟩ := hrow
          exact zs_bipush (ea := a) (eb := b) (ec := c) hi ht hdec hv rfl hk
        | sipush n =>
          simp only [zInsB, Bool.and_eq_true, decide_eq_true_eq] at hrow
          obtain ⟨rfl, rfl, rfl, hv⟩ := hrow
          exact zs_sipush (ea := a) (eb := b) (ec := c) hi ht hdec hv rfl hk
        | ldc i =>
          simp only [zInsB, Bool.and_eq_true, decide_eq_true_eq] at hrow
          obtain ⟨⟨rfl, rfl, rfl, rfl⟩, hw⟩ := hrow
          exact zs_ldc (ea := a) (eb := b) (ec := c) hi ht hdec (of_decide_eq_true hw) rfl hk
        | ldc_w i =>
          simp only [zInsB, Bool.and_eq_true, decide_eq_true_eq] at hrow
          obtain ⟨⟨rfl, rfl, rfl, rfl⟩, hw⟩ := hrow
          exact zs_ldcw (ea := a) (eb := b) (ec := c) hi ht hdec (of_decide_eq_true hw) rfl hk
        | ldc2_w i =>
          simp only [zInsB, Bool.and_eq_true, decide_eq_true_eq] at hrow
          obtain ⟨⟨rfl, rfl, rfl, rfl⟩, hw⟩ := hrow
          exact zs_ldc2 (ea := a) (eb := b) (ec := c) hi ht hdec (of_decide_eq_true hw) rfl hk
        | iload_n k =>
          simp only [zInsB, Bool.and_eq_true, decide_eq_true_eq] at hrow
          obtain ⟨rfl, rfl, rfl, hv⟩ := hrow
          exact zs_ldi (ea := a) (eb := b) (ec := c) hi ht (Or.inl ⟨k, hdec, hv, rfl⟩) hk
        | iload k =>
          simp only [zInsB, Bool.and_eq_true, decide_eq_true_eq] at hrow
          obtain ⟨rfl, rfl, rfl, rfl⟩ := hrow
          exact zs_ldi (ea := k) (eb := b) (ec := c) hi ht (Or.inr ⟨hdec, rfl⟩) hk
        | aload_n k =>
          simp only [zInsB, Bool.and_eq_true, decide_eq_true_eq] at hrow
          obtain ⟨rfl, rfl, rfl, hv⟩ := hrow
          exact zs_lda (ea := a) (eb := b) (ec := c) hi ht (Or.inl ⟨k, hdec, hv, rfl⟩) hk
        | aload k =>
          simp only [zInsB, Bool.and_eq_true, decide_eq_true_eq] at hrow
          obtain ⟨rfl, rfl, rfl, rfl⟩ := hrow
          exact zs_lda (ea := k) (eb := b) (ec := c) hi ht (Or.inr ⟨hdec, rfl⟩) hk
        | lload_n k =>
          simp only [zInsB, Bool.and_eq_true, decide_eq_true_eq] at hrow
          obtain ⟨rfl, rfl, rfl, hv⟩ := hrow
          exact zs_ldl (ea := a) (eb := b) (ec := c) hi ht (Or.inl ⟨k, hdec, hv, rfl⟩) hk
        | lload k =>
          simp only [zInsB, Bool.and_eq_true, decide_eq_true_eq] at hrow
          obtain ⟨rfl, rfl, rfl, rfl⟩ := hrow
          exact zs_ldl (ea := k) (eb := b) (ec := c) hi ht (Or.inr ⟨hdec, rfl⟩) hk
        | istore_n k =>
          simp only [zInsB, Bool.and_eq_true, decide_eq_true_eq] at hrow
          obtain ⟨rfl, rfl, rfl, hv, hm⟩ := hrow
          exact zs_sti (ea := a) (eb := b) (ec := c) hi ht (Or.inl ⟨k, hdec, hv, rfl⟩) hm hk
        | istore k =>
          simp only [zInsB, Bool.and_eq_true, decide_eq_true_eq] at hrow
          obtain ⟨rfl, rfl, rfl, rfl, hm⟩ := hrow
          exact zs_sti (ea := k) (eb := b) (ec := c) hi ht (Or.inr ⟨hdec, rfl⟩) hm hk
        | astore_n k =>
          simp only [zInsB, Bool.and_eq_true, decide_eq_true_eq] at hrow
          obtain ⟨rfl, rfl, rfl, hv, hm⟩ := hrow
          exact zs_sta (ea := a) (eb := b) (ec := c) hi ht (Or.inl ⟨k, hdec, hv, rfl⟩) hm hk
        | astore k =>
          simp only [zInsB, Bool.and_eq_true, decide_eq_true_eq] at hrow
          obtain ⟨rfl, rfl, rfl, rfl, hm⟩ := hrow
          exact zs_sta (ea := k) (eb := b) (ec := c) hi ht (Or.inr ⟨hdec, rfl⟩) hm hk
        | iinc k n =>
          simp only [zInsB, Bool.and_eq_true, decide_eq_true_eq] at hrow
          obtain ⟨rfl, rfl, rfl, rfl, hm, hv⟩ := hrow
          exact zs_inc (ea := k) (eb := b) (ec := c) hi ht hdec hv rfl hm hk
        | goto off =>
          simp only [zInsB, Bool.and_eq_true, decide_eq_true_eq] at hrow
          obtain ⟨rfl, rfl, hg⟩ := hrow
          exact zs_goto (ea := a) (eb := b) (ec := c) (en := nx) hi ht hdec hg hk
        | ifnonnull off =>
          simp only [zInsB, Bool.and_eq_true, decide_eq_true_eq] at hrow
          obtain ⟨rfl, rfl, rfl, hg⟩ := hrow
          exact zs_ifnn (ea := a) (eb := b) (ec := c) hi ht hdec hg rfl hk
        | iaload =>
          simp only [zInsB, Bool.and_eq_true, decide_eq_true_eq] at hrow
          obtain ⟨rfl, rfl, rfl⟩ := hrow
          exact zs_ild (ea := a) (eb := b) (ec := c) zk1 (Or.inl ⟨rfl, hdec⟩) hi ht rfl hk
        | baload =>
          simp only [zInsB, Bool.and_eq_true, decide_eq_true_eq] at hrow
          obtain ⟨rfl, rfl, rfl⟩ := hrow
          exact zs_ild (ea := a) (eb := b) (ec := c) zk03 (Or.inr ⟨rfl, hdec⟩) hi ht rfl hk
        | iastore =>
          simp only [zInsB, Bool.and_eq_true, decide_eq_true_eq] at hrow
          obtain ⟨rfl, rfl, rfl⟩ := hrow
          exact zs_ist (ea := a) (eb := b) (ec := c) zk1 (Or.inl ⟨rfl, hdec⟩) hi ht rfl hk
        | bastore =>
          simp only [zInsB, Bool.and_eq_true, decide_eq_true_eq] at hrow
          obtain ⟨rfl, rfl, rfl⟩ := hrow
          exact zs_ist (ea := a) (eb := b) (ec := c) zk03 (Or.inr ⟨rfl, hdec⟩) hi ht rfl hk
        | aastore =>
          simp only [zInsB, Bool.and_eq_true, decide_eq_true_eq] at hrow
          obtain ⟨rfl, rfl, rfl⟩ := hrow
          exact zs_aast (ea := a) (eb := b) (ec := c) hra hi ht hdec rfl hk
        | return_ =>
          simp only [zInsB, Bool.and_eq_true, decide_eq_true_eq] at hrow
          obtain ⟨rfl, rfl, hr⟩ := hrow
          exact zs_return (ea := a) (eb := b) (ec := c) (en := nx) (ih := ih) (tb := tb) hdec hr hk
        | iadd =>
          simp only [zInsB, Bool.and_eq_true, decide_eq_true_eq] at hrow
          obtain ⟨rfl, rfl, rfl⟩ := hrow
          exact zs_iadd (ea := a) (eb := b) (ec := c) hi ht hdec rfl hk
        | isub =>
          simp only [zInsB, Bool.and_eq_true, decide_eq_true_eq] at hrow
          obtain ⟨rfl, rfl, rfl⟩ := hrow
          exact zs_isub (ea := a) (eb := b) (ec := c) hi ht hdec rfl hk
        | imul =>
          simp only [zInsB, Bool.and_eq_true, decide_eq_true_eq] at hrow
          obtain ⟨rfl, rfl, rfl⟩ := hrow
          exact zs_imul (ea := a) (eb := b) (ec := c) hi ht hdec rfl hk
        | idiv =>
          simp only [zInsB, Bool.and_eq_true, decide_eq_true_eq] at hrow
          obtain ⟨rfl, rfl, rfl⟩ := hrow
          exact zs_idiv (ea := a) (eb := b) (ec := c) hi ht hdec rfl hk
        | irem =>
          simp only [zInsB, Bool.and_eq_true, decide_eq_true_eq] at hrow
          obtain ⟨rfl, rfl, rfl⟩ := hrow
          exact zs_irem (ea := a) (eb := b) (ec := c) hi ht hdec rfl hk
        | ishr =>
          simp only [zInsB, Bool.and_eq_true, decide_eq_true_eq] at hrow
          obtain ⟨rfl, rfl, rfl⟩ := hrow
          exact zs_ishr (ea := a) (eb := b) (ec := c) hi ht hdec rfl hk
        | i2b =>
          simp only [zInsB, Bool.and_eq_true, decide_eq_true_eq] at hrow
          obtain ⟨rfl, rfl, rfl⟩ := hrow
          exact zs_i2b (ea := a) (eb := b) (ec := c) hi ht hdec rfl hk
        | dup =>
          simp only [zInsB, Bool.and_eq_true, decide_eq_true_eq] at hrow
          obtain ⟨rfl, rfl, rfl⟩ := hrow
          exact zs_dup (ea := a) (eb := b) (ec := c) hi ht hdec rfl hk
        | dup2 =>
          simp only [zInsB, Bool.and_eq_true, decide_eq_true_eq] at hrow
          obtain ⟨rfl, rfl, rfl⟩ := hrow
          exact zs_dup2 (ea := a) (eb := b) (ec := c) hi ht hdec rfl hk
        | pop =>
          simp only [zInsB, Bool.and_eq_true, decide_eq_true_eq] at hrow
          obtain ⟨rfl, rfl, rfl⟩ := hrow
          exact zs_pop (ea := a) (eb := b) (ec := c) hi ht hdec rfl hk
        | arraylength =>
          simp only [zInsB, Bool.and_eq_true, decide_eq_true_eq] at hrow
          obtain ⟨rfl, rfl, rfl⟩ := hrow
          exact zs_len (ea := a) (eb := b) (ec := c) hi ht hdec rfl hk
        | laload =>
          simp only [zInsB, Bool.and_eq_true, decide_eq_true_eq] at hrow
          obtain ⟨rfl, rfl, rfl⟩ := hrow
          exact zs_lald (ea := a) (eb := b) (ec := c) hi ht hdec rfl hk
        | lastore =>
          simp only [zInsB, Bool.and_eq_true, decide_eq_true_eq] at hrow
          obtain ⟨rfl, rfl, rfl⟩ := hrow
          exact zs_last (ea := a) (eb := b) (ec := c) hi ht hdec rfl hk
        | aaload =>
          simp only [zInsB, Bool.and_eq_true, decide_eq_true_eq] at hrow
          obtain ⟨rfl, rfl, rfl⟩ := hrow
          exact zs_aald (ea := a) (eb := b) (ec := c) hi ht hdec rfl hk
        | ifCond k off =>
          simp only [zInsB, decide_eq_true_eq] at hrow
          obtain ⟨h1, h2, h3, rfl, rfl, hg⟩ := hrow
          rcases (show op = 60 ∨ op = 61 ∨ op = 62 ∨ op = 63 ∨ op = 64 ∨ op = 65 by omega) with rfl | rfl | rfl | rfl | rfl | rfl
          · subst h3; exact zs_if (ea := a) (eb := b) (ec := c) 0 (by decide) hi ht hdec hg rfl hk
          · subst h3; exact zs_if (ea := a) (eb := b) (ec := c) 1 (by decide) hi ht hdec hg rfl hk
          · subst h3; exact zs_if (ea := a) (eb := b) (ec := c) 2 (by decide) hi ht hdec hg rfl hk
          · subst h3; exact zs_if (ea := a) (eb := b) (ec := c) 3 (by decide) hi ht hdec hg rfl hk
          · subst h3; exact zs_if (ea := a) (eb := b) (ec := c) 4 (by decide) hi ht hdec hg rfl hk
          · subst h3; exact zs_if (ea := a) (eb := b) (ec := c) 5 (by decide) hi ht hdec hg rfl hk
        | if_icmp k off =>
          simp only [zInsB, decide_eq_true_eq] at hrow
          obtain ⟨h1, h2, h3, rfl, rfl, hg⟩ := hrow
          rcases (show op = 70 ∨ op = 71 ∨ op = 72 ∨ op = 73 ∨ op = 74 ∨ op = 75 by omega) with rfl | rfl | rfl | rfl | rfl | rfl
          · subst h3; exact zs_icmp (ea := a) (eb := b) (ec := c) 0 (by decide) hi ht hdec hg rfl hk
          · subst h3; exact zs_icmp (ea := a) (eb := b) (ec := c) 1 (by decide) hi ht hdec hg rfl hk
          · subst h3; exact zs_icmp (ea := a) (eb := b) (ec := c) 2 (by decide) hi ht hdec hg rfl hk
          · subst h3; exact zs_icmp (ea := a) (eb := b) (ec := c) 3 (by decide) hi ht hdec hg rfl hk
          · subst h3; exact zs_icmp (ea := a) (eb := b) (ec := c) 4 (by decide) hi ht hdec hg rfl hk
          · subst h3; exact zs_icmp (ea := a) (eb := b) (ec := c) 5 (by decide) hi ht hdec hg rfl hk
        | tableswitch dflt lo' hi' offs =>
          simp only [zInsB] at hrow
          cases htg : G.2.2[c]? with
          | none => rw [htg] at hrow; cases hrow
          | some tg =>
            rw [htg] at hrow
            simp only [Bool.and_eq_true, decide_eq_true_eq] at hrow
            obtain ⟨⟨rfl, h1, h2, h3⟩, h4⟩ := hrow
            refine zs_sw (ea := a) (eb := b) (ec := c) hi ht hdec ⟨h1, h2, h3, tg, htg, fun j hj => ?_⟩ hk
            have h5 := List.all_eq_true.mp h4 j (List.mem_range.mpr hj)
            split at h5
            · rename_i off t h6 h7
              exact ⟨off, t, h6, h7, of_decide_eq_true h5⟩
            · cases h5
        | getfield i =>
          simp only [zInsB] at hrow
          cases hc0 : (sCl S)[a]? with
          | none => rw [hc0] at hrow; cases hrow
          | some q =>
            obtain ⟨C0, T, N⟩ := q
            rw [hc0] at hrow
            simp only [Bool.and_eq_true, decide_eq_true_eq] at hrow
            obtain ⟨⟨rfl, rfl, rfl, rfl, hkN⟩, hw⟩ := hrow
            exact zs_gf (ea := a) (eb := b) (ec := c) hcl hi ht hdec hc0 hkN (of_decide_eq_true hw) rfl hk
        | putfield i =>
          simp only [zInsB] at hrow
          cases hc0 : (sCl S)[a]? with
          | none => rw [hc0] at hrow; cases hrow
          | some q =>
            obtain ⟨C0, T, N⟩ := q
            rw [hc0] at hrow
            dsimp only at hrow
            cases hpt : parseFieldDescriptor (T b).2.2.1 with
            | none => rw [hpt] at hrow; cases hrow
            | some ty =>
              rw [hpt] at hrow
              simp only [Bool.and_eq_true, decide_eq_true_eq] at hrow
              obtain ⟨⟨hop, rfl, rfl, rfl, hkN, hkd, hfin⟩, hw⟩ := hrow
              rcases hop with rfl | rfl
              · exact zs_pf (ea := a) (eb := b) (ec := c) hcl hi ht hdec hc0 hkN (of_decide_eq_true hw) hpt hkd hfin rfl hk
              · exact zs_pf (ea := a) (eb := b) (ec := c) hcl hi ht hdec hc0 hkN (of_decide_eq_true hw) hpt hkd hfin rfl hk
        | new i =>
          simp only [zInsB] at hrow
          cases hc0 : (sCl S)[a]? with
          | none => rw [hc0] at hrow; cases hrow
          | some q =>
            obtain ⟨C0, T, N⟩ := q
            rw [hc0] at hrow
            simp only [Bool.and_eq_true, decide_eq_true_eq] at hrow
            obtain ⟨⟨rfl, rfl, rfl, rfl, rfl⟩, hw⟩ := hrow
            exact zs_new (ea := a) (eb := N) (ec := c) hcl hmk hi ht hdec hc0 (of_decide_eq_true hw) rfl hk
        | newarray t =>
          simp only [zInsB, decide_eq_true_eq] at hrow
          obtain ⟨rfl, rfl, rfl, h1⟩ := hrow
          refine zs_na (ea := a) (eb := b) (ec := c) hac hi ht ?_ rfl hk
          rcases h1 with ⟨h1, rfl⟩ | ⟨h1, rfl⟩ | ⟨h1, rfl⟩ | ⟨h1, rfl⟩
          · exact Or.inl ⟨h1, hdec⟩
          · exact Or.inr (Or.inl ⟨h1, hdec⟩)
          · exact Or.inr (Or.inr (Or.inl ⟨h1, hdec⟩))
          · exact Or.inr (Or.inr (Or.inr ⟨h1, hdec⟩))
        | anewarray i =>
          simp only [zInsB, Bool.and_eq_true, Bool.or_eq_true, decide_eq_true_eq] at hrow
          obtain ⟨⟨rfl, rfl, rfl, rfl⟩, h1⟩ := hrow
          rcases h1 with ⟨⟨h1, h2⟩, h3⟩ | ⟨⟨h1, h2⟩, h3⟩
          · exact zs_raq (ea := a) (eb := b) (ec := c) hi ht hdec (Or.inl ⟨h1, rfl⟩) h2 (of_decide_eq_true h3) rfl hk
          · exact zs_raq (ea := a) (eb := b) (ec := c) hi ht hdec (Or.inr ⟨h1, rfl⟩) h2 (of_decide_eq_true h3) rfl hk
        | ireturn =>
          simp only [zInsB, decide_eq_true_eq] at hrow
          obtain ⟨rfl, h1⟩ := hrow
          rcases h1 with ⟨rfl, h1⟩ | ⟨rfl, h1⟩
          · exact zs_ireturn (ea := a) (eb := b) (ec := c) (en := nx) (ih := ih) (tb := tb) hdec h1 hk
          · exact zs_zreturn (ea := a) (eb := b) (ec := c) (en := nx) (ih := ih) (tb := tb) hdec h1 hk
        | invokevirtual i =>
          simp only [zInsB, Bool.and_eq_true, decide_eq_true_eq] at hrow
          obtain ⟨⟨rfl, rfl, rfl, rfl, rfl⟩, h1⟩ := hrow
          exact zs_call (ea := a) (eb := 0) (ec := c) hgd hmts hi ht (zLkB_to h1) (Or.inl ⟨rfl, hdec⟩) rfl hk
        | invokespecial i =>
          simp only [zInsB, Bool.and_eq_true, Bool.or_eq_true, decide_eq_true_eq] at hrow
          rcases hrow with ⟨⟨rfl, rfl, rfl, rfl, rfl⟩, h1⟩ | ⟨⟨rfl, rfl, rfl, rfl⟩, h1⟩
          · exact zs_call (ea := a) (eb := 1) (ec := c) hgd hmts hi ht (zLkB_to h1) (Or.inr (Or.inl ⟨rfl, hdec⟩)) rfl hk
          · exact zs_obj (ea := a) (eb := b) (ec := c) hnt hi ht hdec (zIx_in h1) rfl hk
        | invokestatic i =>
          simp only [zInsB, Bool.and_eq_true, Bool.or_eq_true, decide_eq_true_eq] at hrow
          rcases hrow with ⟨⟨rfl, rfl, rfl, rfl, rfl⟩, h1⟩ | ⟨⟨rfl, rfl, rfl, rfl⟩, h1⟩ | ⟨⟨rfl, rfl, rfl, rfl⟩, h1⟩ | ⟨⟨rfl, rfl, rfl, rfl⟩, h1⟩
          · exact zs_call (ea := a) (eb := 2) (ec := c) hgd hmts hi ht (zLkB_to h1) (Or.inr (Or.inr ⟨Nat.le_refl _, hdec⟩)) rfl hk
          · exact zs_cpy (ea := a) (eb := b) (ec := c) hnt hi ht hdec (zIx_in h1) rfl hk
          · exact zs_mm (ea := a) (eb := b) (ec := c) false hnt hi ht hdec (zIx_in h1) rfl hk
          · exact zs_mm (ea := a) (eb := b) (ec := c) true hnt hi ht hdec (zIx_in h1) rfl hk
        | _ => cases hrow
theorem zs_run {l : Launch} {S : zS} {D : va_G} {cy : Nat → ClassId} {z : Nat} {G : zG0} {pl : List (List Nat)} (hall : zAll S G pl) : ∀ n : Nat, zOK l S D cy z G (zrun G n) := by
  intro n
  induction n with
  | zero => intro d mi tb bc bs nc ns pc lo st h K hk; cases hk
  | succ n ih => exact zs_step hall ih
