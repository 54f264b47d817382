/-! THE EXACT MACHINE, 6b: the text WORDS by the JDK's own methods (length, charAt); a throw. -/
abbrev jS9 : String := "java/lang/String"
def jLen : MethodName := ⟨"java/lang/String", "length", "()I"⟩
def jCod : MethodName := ⟨"java/lang/String", "coder", "()B"⟩
def jCha : MethodName := ⟨"java/lang/String", "charAt", "(I)C"⟩
def jLat : MethodName := ⟨"java/lang/String", "isLatin1", "()Z"⟩
def jChk : MethodName := ⟨"java/lang/String", "checkIndex", "(II)V"⟩
def jLch : MethodName := ⟨"java/lang/StringLatin1", "charAt", "([BI)C"⟩
def jPre : MethodName := ⟨"jdk/internal/util/Preconditions", "checkIndex", "(IILjava/util/function/BiFunction;)I"⟩
def jWs : List Jvm.Cond := [.methodLink "ChairAlley$Reader" 69 jLen, .instanceMethod jLen, .selects "java/lang/String" jLen jLen, .initialized "java/lang/String", .code jLen prog_20_method_54_code 1 (some .int), .fieldLink "java/lang/String" 9 "java/lang/String" "value" "[B",
  .methodLink "java/lang/String" 335 jCod, .instanceMethod jCod, .selects "java/lang/String" jCod jCod, .code jCod prog_20_method_152_code 1 (some .byte), .fieldLink "java/lang/String" 38 "java/lang/String" "COMPACT_STRINGS" "Z", .fieldLink "java/lang/String" 15 "java/lang/String" "coder" "B",
  .methodLink "ChairAlley$Reader" 74 jCha, .instanceMethod jCha, .selects "java/lang/String" jCha jCha, .code jCha prog_20_method_56_code 2 (some .char), .methodLink "java/lang/String" 492 jLat, .instanceMethod jLat, .selects "java/lang/String" jLat jLat, .code jLat prog_20_method_154_code 1 (some .boolean),
  .methodLink "java/lang/String" 495 jLch, .static jLch, .initialized "java/lang/StringLatin1", .code jLch prog_21_method_2_code 2 (some .char), .methodLink "java/lang/StringLatin1" 9 jChk, .static jChk, .code jChk prog_20_method_155_code 2 none,
  .fieldLink "java/lang/String" 1053 "jdk/internal/util/Preconditions" "SIOOBE_FORMATTER" "Ljava/util/function/BiFunction;", .methodLink "java/lang/String" 1059 jPre, .static jPre, .initialized "jdk/internal/util/Preconditions", .code jPre prog_28_method_11_code 3 (some .int)]
/-- the text at a, its bytes at b -/
def jTx (z a b : Nat) (U : State) : Prop := vk_S 1 [112] [zWd] (fun _ => a) (fun _ => b) (fun q => z ≤ q) U U.heap ∧ va_Z "java/lang/String" "COMPACT_STRINGS" "Z" (.int 1) (fun q => z ≤ q) U U.heap ∧ va_Zq "jdk/internal/util/Preconditions" "SIOOBE_FORMATTER" "Ljava/util/function/BiFunction;" (fun q => z ≤ q) U U.heap
theorem jTx_to {z a b : Nat} {s U : State} {H : Heap} {locs : List Loc} (hW : s.WarmedH U.vm) (hU : U.heap = H) (hS : va_S (fun q => z ≤ q) s.heap H locs) (h : jTx z a b s) : jTx z a b U := by
  have hh : ∀ a : Nat, a < s.heap.size → ¬ z ≤ a → U.heap[a]? = s.heap[a]? := fun a h1 h2 => by rw [hU]; exact hS.2.1 a h1 h2
  exact ⟨(h.1.moved hW.alike).kept hh, (h.2.1.moved hW.alike).kept hh, (h.2.2.moved hW.alike).kept hh⟩
theorem jTx_same {z a b : Nat} {s U : State} (hvm : s.vm = U.vm) (hh : s.heap = U.heap) (h : jTx z a b s) : jTx z a b U := by
  have hA : s.vm.Alike U.vm := by rw [hvm]; exact Vm.Alike.refl _
  refine ⟨?_, ?_, ?_⟩
  · have := h.1.moved hA
    rw [hh] at this
    exact this
  · have := h.2.1.moved hA
    rw [hh] at this
    exact this
  · have := h.2.2.moved hA
    rw [hh] at this
    exact this
def jPc (z : Nat) (H0 : Heap) (a b : Nat) (vs : List Value) : Array Value → State → Prop := va_Pc vs (fun U => jTx z a b U ∧ U.heap = H0)
theorem jPc_blind {z : Nat} {H0 : Heap} {a b : Nat} {vs : List Value} : FrameBlind (jPc z H0 a b vs) := by
  intro a U g mk q
  obtain ⟨q0, q1, q2⟩ := q
  exact ⟨q0, jTx_same (s := U) (U := U.calling g mk a) rfl rfl q1, q2⟩
def jQi (z : Nat) (H0 : Heap) (x : Int32) : Array Value → State → Outcome → State → Prop := va_Qi (fun (r : Int32) (_ : Unit) => r = x) (fun _ t => t.heap = H0) (fun q => z ≤ q)
def jQv (z : Nat) (H0 : Heap) : Array Value → State → Outcome → State → Prop := va_Qv (fun (_ : Unit) => True) (fun _ t => t.heap = H0) (fun q => z ≤ q)
def jW (S : zS) (y : MethodName) (co : ByteArray) (ml : Nat) (rt : Option FieldType) : List Jvm.Cond := Jvm.Cond.code y co ml rt :: sW S
/-- the char at k -/
def zCh (k : Nat) : Int32 := ((zWd.getD k 0 &&& 255).toUInt32 % 65536).toInt32
theorem zCh_nar : ∀ k : Fin 112, narrow .char (.int (zCh k.1)) = .int (zCh k.1) := by decide +kernel
section Sj
variable {l : Launch} {S : zS} {z d a b : Nat} {H0 : Heap}
theorem jW_good (hgd : ∀ w ∈ sW S, goodWord w = true) {Ts : List Jvm.Cond} (hT : ∀ w ∈ sW S, w ∈ Ts) {y : MethodName} {co : ByteArray} {ml : Nat} {rt : Option FieldType} (hw : Jvm.Cond.code y co ml rt ∈ sW S) : GoodIn Ts (jW S y co ml rt) := by
  intro w h
  have hw' : w ∈ sW S := by
    rcases List.mem_cons.mp h with rfl | h
    · exact hw
    · exact h
  exact ⟨hT _ hw', good_of_word (hgd w hw')⟩
theorem j_coder (hJ : ∀ w ∈ jWs, w ∈ sW S) : Met l jCod (jW S jCod prog_20_method_152_code 1 (some .byte)) (zRm d 0 0) (jPc z H0 a b [.ref a]) (jQi z H0 0) 0 0 (fun q => z ≤ q) := by
  refine Met.ofW (cc := prog_20_method_152_code) (maxL := 1) (ret := some .byte) (by decide) rfl ?_
  intro p e s m args below meth c s₁ B hml hv
  obtain ⟨rfl, hX, hH⟩ := hv
  have hx := B.exec
  have hb := B.bytes
  have hts := atoms_spec (ws := jW S jCod prog_20_method_152_code 1 (some .byte)) B.pre
  have wd : ∀ w ∈ jWs, w.before #[Value.ref a] s = true := fun w h => hts w (List.mem_cons_of_mem _ (hJ w h))
  have hown : s.vm.findClass "java/lang/String" = some m.cls := findClass_of_methodNamed B.named
  have hl := lv_entry ([.ref a]) (n := 1) (Nat.le_of_ble_eq_true rfl)
  rw [lg_entry_eq]
  generalize (lg_sl ([.ref a]) ++ List.replicate (1 - (lg_sl ([.ref a])).length) Slot.unset).toArray = ls at hl ⊢
  have hl : lv_has ls 1 [(0, .ref a)] := hl
  refine va_gets hx hb hX.2.1 va_S.rf hown (wd _ (List.mem_of_getElem? (i := 10) rfl)) (fun _ q => q) (show decode prog_20_method_152_code 0 = .ok (.getstatic 38, 3) by decide +kernel) ?_
  refine lv_if_eq (tgt := 13) hx hb (show decode prog_20_method_152_code 3 = .ok (.ifCond .eq 10, 3) by decide +kernel) (by decide) (fun q => absurd q (by decide)) (fun _ => ?_)
  refine lv_aload_n hx hb (show decode prog_20_method_152_code 6 = .ok (.aload_n 0, 1) by decide +kernel) rfl (lv_at hl 0 rfl) ?_
  refine vk_getf hx hb (hX.1.1 0 (by decide)).2.1 va_S.rf hown (wd _ (List.mem_of_getElem? (i := 11) rfl)) (fun _ q => q) (show decode prog_20_method_152_code 7 = .ok (.getfield 15, 3) by decide +kernel) ?_
  refine lv_goto (tgt := 14) hx hb (show decode prog_20_method_152_code 10 = .ok (.goto 4, 3) by decide +kernel) (by decide) ?_
  exact W.zret hx hb B.returns rfl (fun t ht _ => ⟨⟨0, (), rfl, rfl, ht.trans hH⟩, va_S.rf.F ht⟩) (fun _ h => nomatch h) (show decode prog_20_method_152_code 14 = .ok (.ireturn, 1) by decide +kernel) B.notSynchronized
theorem j_lat (hJ : ∀ w ∈ jWs, w ∈ sW S) : Met l jLat (jW S jLat prog_20_method_154_code 1 (some .boolean)) (zRm d 0 0) (jPc z H0 a b [.ref a]) (jQi z H0 1) 0 0 (fun q => z ≤ q) := by
  refine Met.ofW (cc := prog_20_method_154_code) (maxL := 1) (ret := some .boolean) (by decide) rfl ?_
  intro p e s m args below meth c s₁ B hml hv
  obtain ⟨rfl, hX, hH⟩ := hv
  have hx := B.exec
  have hb := B.bytes
  have hts := atoms_spec (ws := jW S jLat prog_20_method_154_code 1 (some .boolean)) B.pre
  have wd : ∀ w ∈ jWs, w.before #[Value.ref a] s = true := fun w h => hts w (List.mem_cons_of_mem _ (hJ w h))
  have hown : s.vm.findClass "java/lang/String" = some m.cls := findClass_of_methodNamed B.named
  have hl := lv_entry ([.ref a]) (n := 1) (Nat.le_of_ble_eq_true rfl)
  rw [lg_entry_eq]
  generalize (lg_sl ([.ref a]) ++ List.replicate (1 - (lg_sl ([.ref a])).length) Slot.unset).toArray = ls at hl ⊢
  have hl : lv_has ls 1 [(0, .ref a)] := hl
  refine va_gets hx hb hX.2.1 va_S.rf hown (wd _ (List.mem_of_getElem? (i := 10) rfl)) (fun _ q => q) (show decode prog_20_method_154_code 0 = .ok (.getstatic 38, 3) by decide +kernel) ?_
  refine lv_if_eq (tgt := 17) hx hb (show decode prog_20_method_154_code 3 = .ok (.ifCond .eq 14, 3) by decide +kernel) (by decide) (fun q => absurd q (by decide)) (fun _ => ?_)
  refine lv_aload_n hx hb (show decode prog_20_method_154_code 6 = .ok (.aload_n 0, 1) by decide +kernel) rfl (lv_at hl 0 rfl) ?_
  refine vk_getf hx hb (hX.1.1 0 (by decide)).2.1 va_S.rf hown (wd _ (List.mem_of_getElem? (i := 11) rfl)) (fun _ q => q) (show decode prog_20_method_154_code 7 = .ok (.getfield 15, 3) by decide +kernel) ?_
  refine lv_if_ne (tgt := 17) hx hb (show decode prog_20_method_154_code 10 = .ok (.ifCond .ne 7, 3) by decide +kernel) (by decide) (fun q => absurd rfl q) (fun _ => ?_)
  refine lv_iconst (v := 1) hx hb (show decode prog_20_method_154_code 13 = .ok (.iconst 1, 1) by decide +kernel) (by decide) ?_
  refine lv_goto (tgt := 18) hx hb (show decode prog_20_method_154_code 14 = .ok (.goto 4, 3) by decide +kernel) (by decide) ?_
  exact W.zret hx hb B.returns rfl (fun t ht _ => ⟨⟨1, (), rfl, rfl, ht.trans hH⟩, va_S.rf.F ht⟩) (fun _ h => nomatch h) (show decode prog_20_method_154_code 18 = .ok (.ireturn, 1) by decide +kernel) B.notSynchronized
theorem j_len (hgd : ∀ w ∈ sW S, goodWord w = true) (hJ : ∀ w ∈ jWs, w ∈ sW S) : Met l jLen (jW S jLen prog_20_method_54_code 1 (some .int)) (zRm (d + 1) 0 0) (jPc z H0 a b [.ref a]) (jQi z H0 112) 0 0 (fun q => z ≤ q) := by
  refine Met.ofW (cc := prog_20_method_54_code) (maxL := 1) (ret := some .int) (by decide) rfl ?_
  intro p e s m args below meth c s₁ B hml hv
  obtain ⟨rfl, hX, hH⟩ := hv
  have hx := B.exec
  have hb := B.bytes
  have hts := atoms_spec (ws := jW S jLen prog_20_method_54_code 1 (some .int)) B.pre
  have wd : ∀ w ∈ jWs, w.before #[Value.ref a] s = true := fun w h => hts w (List.mem_cons_of_mem _ (hJ w h))
  have hown : s.vm.findClass "java/lang/String" = some m.cls := findClass_of_methodNamed B.named
  have hl := lv_entry ([.ref a]) (n := 1) (Nat.le_of_ble_eq_true rfl)
  rw [lg_entry_eq]
  generalize (lg_sl ([.ref a]) ++ List.replicate (1 - (lg_sl ([.ref a])).length) Slot.unset).toArray = ls at hl ⊢
  have hl : lv_has ls 1 [(0, .ref a)] := hl
  refine lv_aload_n hx hb (show decode prog_20_method_54_code 0 = .ok (.aload_n 0, 1) by decide +kernel) rfl (lv_at hl 0 rfl) ?_
  refine vk_getf hx hb (hX.1.1 0 (by decide)).2.2.1 va_S.rf hown (wd _ (List.mem_of_getElem? (i := 5) rfl)) (fun _ q => q) (show decode prog_20_method_54_code 1 = .ok (.getfield 9, 3) by decide +kernel) ?_
  refine va_tlen (v := 112) hx hb (hX.1.1 0 (by decide)).2.2.2 va_S.rf (by decide) (show decode prog_20_method_54_code 4 = .ok (.arraylength, 1) by decide +kernel) ?_
  refine lv_aload_n hx hb (show decode prog_20_method_54_code 5 = .ok (.aload_n 0, 1) by decide +kernel) rfl (lv_at hl 0 rfl) ?_
  refine va_calli (A0 := fun q => z ≤ q) (va_runV (As := []) (rest := [.int 112]) (n := 0) ⟨hx, hb, hml, hown, hts⟩ (j_coder (d := d) (z := z) (H0 := H0) (a := a) (b := b) hJ) ⟨callB_of 0 hts (jW_good hgd (fun w h => List.mem_cons_of_mem _ h) (hJ _ (List.mem_of_getElem? (i := 9) rfl))) rfl rfl rfl (wd _ (List.mem_of_getElem? (i := 3) rfl)) (wd _ (List.mem_of_getElem? (i := 6) rfl)) ⟨by decide, by decide, by decide +kernel⟩ ⟨Nat.le_refl _, show 8 + (1 + 11) + 60 * d ≤ 60 * (d + 1) by omega⟩, wd _ (List.mem_of_getElem? (i := 7) rfl), wd _ (List.mem_of_getElem? (i := 8) rfl)⟩ ⟨jPc_blind, vk_recv hX.1 (i := 0) (by decide) va_S.rf, fun U hU hW => ⟨rfl, jTx_to hW hU va_S.rf hX, hU.trans hH⟩⟩ rfl rfl hl.1 rfl (lv_room (Nat.le_of_ble_eq_true rfl)) (show decode prog_20_method_54_code 6 = .ok (.invokevirtual 335, 3) by decide +kernel) ⟨Nat.le_refl _, Nat.le_refl _⟩) va_S.rf (fun _ _ h => h) (fun _ h => h) (fun r u t H1 locs1 ht hW hr hB hsz hk hS1 => ?_)
  have hr : r = 0 := hr
  subst hr
  have hB : t.heap = H0 := hB
  refine lv_ishr hx hb (show decode prog_20_method_54_code 9 = .ok (.ishr, 1) by decide +kernel) ?_
  exact W.iret hx hb B.returns (fun t1 ht1 _ => ⟨⟨_, (), rfl, by decide, ht1.trans (ht.symm.trans hB)⟩, hS1.F ht1⟩) hS1.2.2 (show decode prog_20_method_54_code 10 = .ok (.ireturn, 1) by decide +kernel) B.notSynchronized
theorem j_pre {i n : Int32} {fv : Value} (hfv : fv.category = 1) (h0 : ¬ i < 0) (h1 : i < n) : Met l jPre (jW S jPre prog_28_method_11_code 3 (some .int)) (zRm d 0 0) (jPc z H0 a b [.int i, .int n, fv]) (jQi z H0 i) 0 0 (fun q => z ≤ q) := by
  refine Met.ofW (cc := prog_28_method_11_code) (maxL := 3) (ret := some .int) (by decide) rfl ?_
  intro p e s m args below meth c s₁ B hml hv
  obtain ⟨rfl, hX, hH⟩ := hv
  have hx := B.exec
  have hb := B.bytes
  have hn3 : (lg_sl ([.int i, .int n, fv])).length ≤ 3 := by rw [zs_sl]; simp [hfv]; exact Nat.le_refl 3
  have hl := lv_entry ([.int i, .int n, fv]) (n := 3) hn3
  rw [lg_entry_eq]
  generalize (lg_sl ([.int i, .int n, fv]) ++ List.replicate (3 - (lg_sl ([.int i, .int n, fv])).length) Slot.unset).toArray = ls at hl ⊢
  have hl : lv_has ls 3 ((0, .int i) :: (1, .int n) :: lv_args 2 [fv]) := hl
  refine lv_iload_n hx hb (show decode prog_28_method_11_code 0 = .ok (.iload_n 0, 1) by decide +kernel) rfl (lv_at hl 0 rfl) ?_
  refine lv_if_lt (tgt := 9) hx hb (show decode prog_28_method_11_code 1 = .ok (.ifCond .lt 8, 3) by decide +kernel) (by decide) (fun q => absurd q h0) (fun _ => ?_)
  refine lv_iload_n hx hb (show decode prog_28_method_11_code 4 = .ok (.iload_n 0, 1) by decide +kernel) rfl (lv_at hl 0 rfl) ?_
  refine lv_iload_n hx hb (show decode prog_28_method_11_code 5 = .ok (.iload_n 1, 1) by decide +kernel) rfl (lv_at hl 1 rfl) ?_
  refine lv_icmp_lt (tgt := 16) hx hb (show decode prog_28_method_11_code 6 = .ok (.if_icmp .lt 10, 3) by decide +kernel) (by decide) (fun _ => ?_) (fun q => absurd h1 q)
  refine lv_iload_n hx hb (show decode prog_28_method_11_code 16 = .ok (.iload_n 0, 1) by decide +kernel) rfl (lv_at hl 0 rfl) ?_
  exact W.iret hx hb B.returns (fun t ht _ => ⟨⟨_, (), rfl, rfl, ht.trans hH⟩, va_S.rf.F ht⟩) (fun _ h => nomatch h) (show decode prog_28_method_11_code 17 = .ok (.ireturn, 1) by decide +kernel) B.notSynchronized
theorem j_chk (hgd : ∀ w ∈ sW S, goodWord w = true) (hJ : ∀ w ∈ jWs, w ∈ sW S) {i n : Int32} (h0 : ¬ i < 0) (h1 : i < n) : Met l jChk (jW S jChk prog_20_method_155_code 2 none) (zRm (d + 1) 0 0) (jPc z H0 a b [.int i, .int n]) (jQv z H0) 0 0 (fun q => z ≤ q) := by
  refine Met.ofW (cc := prog_20_method_155_code) (maxL := 2) (ret := none) (by decide) rfl ?_
  intro p e s m args below meth c s₁ B hml hv
  obtain ⟨rfl, hX, hH⟩ := hv
  have hx := B.exec
  have hb := B.bytes
  have hts := atoms_spec (ws := jW S jChk prog_20_method_155_code 2 none) B.pre
  have wd : ∀ w ∈ jWs, w.before #[Value.int i, .int n] s = true := fun w h => hts w (List.mem_cons_of_mem _ (hJ w h))
  have hown : s.vm.findClass "java/lang/String" = some m.cls := findClass_of_methodNamed B.named
  have hl := lv_entry ([.int i, .int n]) (n := 2) (Nat.le_of_ble_eq_true rfl)
  rw [lg_entry_eq]
  generalize (lg_sl ([.int i, .int n]) ++ List.replicate (2 - (lg_sl ([.int i, .int n])).length) Slot.unset).toArray = ls at hl ⊢
  have hl : lv_has ls 2 [(0, .int i), (1, .int n)] := hl
  refine lv_iload_n hx hb (show decode prog_20_method_155_code 0 = .ok (.iload_n 0, 1) by decide +kernel) rfl (lv_at hl 0 rfl) ?_
  refine lv_iload_n hx hb (show decode prog_20_method_155_code 1 = .ok (.iload_n 1, 1) by decide +kernel) rfl (lv_at hl 1 rfl) ?_
  have key : ∀ fv : Value, fv.category = 1 → va_Z "jdk/internal/util/Preconditions" "SIOOBE_FORMATTER" "Ljava/util/function/BiFunction;" fv (fun q => z ≤ q) s s.heap → W p l e (zRm (d + 1) 0 0) s m #[Value.int i, .int n] below meth c s.heap [] 0 0 (MQ below (jQv z H0) #[Value.int i, .int n] s 0 0 (fun q => z ≤ q)) (F0 m 2 ls [.int n, .int i]) := by
    intro fv hfv hZ
    refine va_gets hx hb hZ va_S.rf hown (wd _ (List.mem_of_getElem? (i := 27) rfl)) (fun _ q => q) (show decode prog_20_method_155_code 2 = .ok (.getstatic 1053, 3) by decide +kernel) ?_
    refine va_calli (A0 := fun q => z ≤ q) (va_runS (As := [.int i, .int n, fv]) (rest := []) (n := 3) ⟨hx, hb, hml, hown, hts⟩ (j_pre (l := l) (S := S) (d := d) (z := z) (H0 := H0) (a := a) (b := b) hfv h0 h1) ⟨callB_of 3 hts (jW_good hgd (fun w h => List.mem_cons_of_mem _ h) (hJ _ (List.mem_of_getElem? (i := 31) rfl))) rfl rfl rfl (wd _ (List.mem_of_getElem? (i := 30) rfl)) (wd _ (List.mem_of_getElem? (i := 28) rfl)) ⟨by decide, by decide, by decide +kernel⟩ ⟨Nat.le_refl _, show 8 + (3 + 11) + 60 * d ≤ 60 * (d + 1) by omega⟩, wd _ (List.mem_of_getElem? (i := 29) rfl)⟩ ⟨jPc_blind, fun U hU hW => ⟨rfl, jTx_to hW hU va_S.rf hX, hU.trans hH⟩⟩ rfl rfl hl.1 rfl (lv_room (Nat.le_of_ble_eq_true rfl)) (show decode prog_20_method_155_code 5 = .ok (.invokestatic 1059, 3) by decide +kernel) ⟨Nat.le_refl _, Nat.le_refl _⟩) va_S.rf (fun _ _ h => h) (fun _ h => h) (fun r u t H1 locs1 ht hW hr hB hsz hk hS1 => ?_)
    have hB : t.heap = H0 := hB
    refine lv_pop hx hb (show decode prog_20_method_155_code 8 = .ok (.pop, 1) by decide +kernel) rfl ?_
    exact W.vret hx hb B.returns (fun t1 ht1 _ => ⟨⟨(), rfl, trivial, ht1.trans (ht.symm.trans hB)⟩, hS1.F ht1⟩) hS1.2.2 (show decode prog_20_method_155_code 9 = .ok (.return_, 1) by decide +kernel) B.notSynchronized
  rcases hX.2.2 with hZ | ⟨t0, hZ⟩
  · exact key _ rfl hZ
  · exact key _ rfl hZ
theorem j_lch (hgd : ∀ w ∈ sW S, goodWord w = true) (hJ : ∀ w ∈ jWs, w ∈ sW S) {i : Int32} (h0 : ¬ i < 0) (h1 : i < 112) (hin : vp_in i 112) : Met l jLch (jW S jLch prog_21_method_2_code 2 (some .char)) (zRm (d + 2) 0 0) (jPc z H0 a b [.ref b, .int i]) (jQi z H0 (zCh i.toNatClampNeg)) 0 0 (fun q => z ≤ q) := by
  refine Met.ofW (cc := prog_21_method_2_code) (maxL := 2) (ret := some .char) (by decide) rfl ?_
  intro p e s m args below meth c s₁ B hml hv
  obtain ⟨rfl, hX, hH⟩ := hv
  have hx := B.exec
  have hb := B.bytes
  have hts := atoms_spec (ws := jW S jLch prog_21_method_2_code 2 (some .char)) B.pre
  have wd : ∀ w ∈ jWs, w.before #[Value.ref b, .int i] s = true := fun w h => hts w (List.mem_cons_of_mem _ (hJ w h))
  have hown : s.vm.findClass "java/lang/StringLatin1" = some m.cls := findClass_of_methodNamed B.named
  have hl := lv_entry ([.ref b, .int i]) (n := 2) (Nat.le_of_ble_eq_true rfl)
  rw [lg_entry_eq]
  generalize (lg_sl ([.ref b, .int i]) ++ List.replicate (2 - (lg_sl ([.ref b, .int i])).length) Slot.unset).toArray = ls at hl ⊢
  have hl : lv_has ls 2 [(0, .ref b), (1, .int i)] := hl
  refine lv_iload_n hx hb (show decode prog_21_method_2_code 0 = .ok (.iload_n 1, 1) by decide +kernel) rfl (lv_at hl 1 rfl) ?_
  refine lv_aload_n hx hb (show decode prog_21_method_2_code 1 = .ok (.aload_n 0, 1) by decide +kernel) rfl (lv_at hl 0 rfl) ?_
  refine va_tlen (v := 112) hx hb (hX.1.1 0 (by decide)).2.2.2 va_S.rf (by decide) (show decode prog_21_method_2_code 2 = .ok (.arraylength, 1) by decide +kernel) ?_
  refine va_callv (A0 := fun q => z ≤ q) (va_runS (As := [.int i, .int 112]) (rest := []) (n := 2) ⟨hx, hb, hml, hown, hts⟩ (j_chk (l := l) (S := S) (d := d) (z := z) (H0 := H0) (a := a) (b := b) hgd hJ h0 h1) ⟨callB_of 2 hts (jW_good hgd (fun w h => List.mem_cons_of_mem _ h) (hJ _ (List.mem_of_getElem? (i := 26) rfl))) rfl rfl rfl (wd _ (List.mem_of_getElem? (i := 3) rfl)) (wd _ (List.mem_of_getElem? (i := 24) rfl)) ⟨by decide, by decide, by decide +kernel⟩ ⟨Nat.le_refl _, show 8 + (2 + 11) + 60 * (d + 1) ≤ 60 * (d + 2) by omega⟩, wd _ (List.mem_of_getElem? (i := 25) rfl)⟩ ⟨jPc_blind, fun U hU hW => ⟨rfl, jTx_to hW hU va_S.rf hX, hU.trans hH⟩⟩ rfl rfl hl.1 rfl (lv_room (Nat.le_of_ble_eq_true rfl)) (show decode prog_21_method_2_code 3 = .ok (.invokestatic 9, 3) by decide +kernel) ⟨Nat.le_refl _, Nat.le_refl _⟩) va_S.rf (fun _ _ h => h) (fun _ h => h) (fun u t H1 locs1 ht hW hr hB hsz hk hS1 => ?_)
  have hB : t.heap = H0 := hB
  refine lv_aload_n hx hb (show decode prog_21_method_2_code 6 = .ok (.aload_n 0, 1) by decide +kernel) rfl (lv_at hl 0 rfl) ?_
  refine lv_iload_n hx hb (show decode prog_21_method_2_code 7 = .ok (.iload_n 1, 1) by decide +kernel) rfl (lv_at hl 1 rfl) ?_
  refine va_tb hx hb (hX.1.1 0 (by decide)).2.2.2 hS1 hin rfl (show decode prog_21_method_2_code 8 = .ok (.baload, 1) by decide +kernel) ?_
  refine lv_sipush (v := 255) hx hb (show decode prog_21_method_2_code 9 = .ok (.sipush 255, 3) by decide +kernel) (by decide) ?_
  refine lv_iand hx hb (show decode prog_21_method_2_code 12 = .ok (.iand, 1) by decide +kernel) ?_
  refine lv_i2c (v := zCh i.toNatClampNeg) hx hb (show decode prog_21_method_2_code 13 = .ok (.i2c, 1) by decide +kernel) rfl ?_
  have hlt : i.toNatClampNeg < 112 := Nat.not_le.mp fun q => hin (Or.inr q)
  exact W.zret hx hb B.returns (zCh_nar ⟨_, hlt⟩) (fun t1 ht1 _ => ⟨⟨_, (), rfl, rfl, ht1.trans (ht.symm.trans hB)⟩, hS1.F ht1⟩) hS1.2.2 (show decode prog_21_method_2_code 14 = .ok (.ireturn, 1) by decide +kernel) B.notSynchronized
theorem j_cha (hgd : ∀ w ∈ sW S, goodWord w = true) (hJ : ∀ w ∈ jWs, w ∈ sW S) {i : Int32} (h0 : ¬ i < 0) (h1 : i < 112) (hin : vp_in i 112) : Met l jCha (jW S jCha prog_20_method_56_code 2 (some .char)) (zRm (d + 3) 0 0) (jPc z H0 a b [.ref a, .int i]) (jQi z H0 (zCh i.toNatClampNeg)) 0 0 (fun q => z ≤ q) := by
  refine Met.ofW (cc := prog_20_method_56_code) (maxL := 2) (ret := some .char) (by decide) rfl ?_
  intro p e s m args below meth c s₁ B hml hv
  obtain ⟨rfl, hX, hH⟩ := hv
  have hx := B.exec
  have hb := B.bytes
  have hts := atoms_spec (ws := jW S jCha prog_20_method_56_code 2 (some .char)) B.pre
  have wd : ∀ w ∈ jWs, w.before #[Value.ref a, .int i] s = true := fun w h => hts w (List.mem_cons_of_mem _ (hJ w h))
  have hown : s.vm.findClass "java/lang/String" = some m.cls := findClass_of_methodNamed B.named
  have hl := lv_entry ([.ref a, .int i]) (n := 2) (Nat.le_of_ble_eq_true rfl)
  rw [lg_entry_eq]
  generalize (lg_sl ([.ref a, .int i]) ++ List.replicate (2 - (lg_sl ([.ref a, .int i])).length) Slot.unset).toArray = ls at hl ⊢
  have hl : lv_has ls 2 [(0, .ref a), (1, .int i)] := hl
  refine lv_aload_n hx hb (show decode prog_20_method_56_code 0 = .ok (.aload_n 0, 1) by decide +kernel) rfl (lv_at hl 0 rfl) ?_
  refine va_calli (A0 := fun q => z ≤ q) (va_runV (As := []) (rest := []) (n := 0) ⟨hx, hb, hml, hown, hts⟩ (j_lat (d := d + 2) (z := z) (H0 := H0) (a := a) (b := b) hJ) ⟨callB_of 0 hts (jW_good hgd (fun w h => List.mem_cons_of_mem _ h) (hJ _ (List.mem_of_getElem? (i := 19) rfl))) rfl rfl rfl (wd _ (List.mem_of_getElem? (i := 3) rfl)) (wd _ (List.mem_of_getElem? (i := 16) rfl)) ⟨by decide, by decide, by decide +kernel⟩ ⟨Nat.le_refl _, show 8 + (1 + 11) + 60 * (d + 2) ≤ 60 * (d + 3) by omega⟩, wd _ (List.mem_of_getElem? (i := 17) rfl), wd _ (List.mem_of_getElem? (i := 18) rfl)⟩ ⟨jPc_blind, vk_recv hX.1 (i := 0) (by decide) va_S.rf, fun U hU hW => ⟨rfl, jTx_to hW hU va_S.rf hX, hU.trans hH⟩⟩ rfl rfl hl.1 rfl (lv_room (Nat.le_of_ble_eq_true rfl)) (show decode prog_20_method_56_code 1 = .ok (.invokevirtual 492, 3) by decide +kernel) ⟨Nat.le_refl _, Nat.le_refl _⟩) va_S.rf (fun _ _ h => h) (fun _ h => h) (fun r u t H1 locs1 ht hW hr hB hsz hk hS1 => ?_)
  have hr : r = 1 := hr
  subst hr
  have hB : t.heap = H0 := hB
  have hH1 : H1 = H0 := ht.symm.trans hB
  refine lv_if_eq (tgt := 16) hx hb (show decode prog_20_method_56_code 4 = .ok (.ifCond .eq 12, 3) by decide +kernel) (by decide) (fun q => absurd q (by decide)) (fun _ => ?_)
  refine lv_aload_n hx hb (show decode prog_20_method_56_code 7 = .ok (.aload_n 0, 1) by decide +kernel) rfl (lv_at hl 0 rfl) ?_
  refine vk_getf hx hb (hX.1.1 0 (by decide)).2.2.1 hS1 hown (wd _ (List.mem_of_getElem? (i := 5) rfl)) (fun _ q => q) (show decode prog_20_method_56_code 8 = .ok (.getfield 9, 3) by decide +kernel) ?_
  refine lv_iload_n hx hb (show decode prog_20_method_56_code 11 = .ok (.iload_n 1, 1) by decide +kernel) rfl (lv_at hl 1 rfl) ?_
  refine va_calli (A0 := fun q => z ≤ q) (va_runS (As := [.ref b, .int i]) (rest := []) (n := 2) ⟨hx, hb, hml, hown, hts⟩ (j_lch (l := l) (S := S) (d := d) (z := z) (H0 := H0) (a := a) (b := b) hgd hJ h0 h1 hin) ⟨callB_of 2 hts (jW_good hgd (fun w h => List.mem_cons_of_mem _ h) (hJ _ (List.mem_of_getElem? (i := 23) rfl))) rfl rfl rfl (wd _ (List.mem_of_getElem? (i := 22) rfl)) (wd _ (List.mem_of_getElem? (i := 20) rfl)) ⟨by decide, by decide, by decide +kernel⟩ ⟨Nat.le_refl _, show 8 + (2 + 11) + 60 * (d + 2) ≤ 60 * (d + 3) by omega⟩, wd _ (List.mem_of_getElem? (i := 21) rfl)⟩ ⟨jPc_blind, fun U hU hW => ⟨rfl, jTx_to hW hU hS1 hX, hU.trans hH1⟩⟩ rfl rfl hl.1 rfl (lv_room (Nat.le_of_ble_eq_true rfl)) (show decode prog_20_method_56_code 12 = .ok (.invokestatic 495, 3) by decide +kernel) ⟨Nat.le_refl _, Nat.le_refl _⟩) hS1 (fun _ _ h => h) (fun _ h => h) (fun r u2 t2 H2 locs2 ht2 hW2 hr2 hB2 hsz2 hk2 hS2 => ?_)
  have hr2 : r = zCh i.toNatClampNeg := hr2
  subst hr2
  have hB2 : t2.heap = H0 := hB2
  have hlt : i.toNatClampNeg < 112 := Nat.not_le.mp fun q => hin (Or.inr q)
  exact W.zret hx hb B.returns (zCh_nar ⟨_, hlt⟩) (fun t1 ht1 _ => ⟨⟨_, (), rfl, rfl, ht1.trans (ht2.symm.trans hB2)⟩, hS2.F ht1⟩) hS2.2.2 (show decode prog_20_method_56_code 15 = .ok (.ireturn, 1) by decide +kernel) B.notSynchronized
end Sj
section Sy
variable {l : Launch} {S : zS} {D : va_G} {cy : Nat → ClassId} {Fk : Nat → Nat → Nat} {z : Nat} {d mi bc bs nc ns pc : Nat} {lo : yL} {st : List yV} {h : yHp} {K : yKo}
/-- WORDS.length() -/
theorem ys_wlen (hgd : ∀ w ∈ sW S, goodWord w = true) (hJ : ∀ w ∈ jWs, w ∈ sW S) (hcl : (sY S mi).cls = "ChairAlley$Reader") (hd1 : decode (sC S mi) pc = .ok (.ldc 67, 2)) (hd2 : decode (sC S mi) (pc + 2) = .ok (.invokevirtual 69, 3)) (hdd : 3 ≤ d) (hc1 : yCat st ≤ 8)
    (hk : yW l S D cy Fk z d mi bc bs K nc ns (pc + 5) lo (yi 112 :: st) h) : yW l S D cy Fk z d mi bc bs K nc ns pc lo st h := by
  intro p e s m args below meth c C ad0 n0 ad hA hN hB H locs ls lv vs ws hR hP hD hS hl hlo hst
  obtain ⟨d', rfl⟩ : ∃ d', d = (d' + 1) + 1 := ⟨d - 2, by omega⟩
  obtain ⟨⟨a, b, hVR, hVS⟩, hZ, hQ⟩ := C.2.2.2.2.2.2.2.2.2.1.2.1
  have hX : jTx z a b s := ⟨hVS, hZ, hQ⟩
  have wd : ∀ w ∈ jWs, w.before args s = true := fun w h => C.2.2.2.2.2.1 w (List.mem_cons_of_mem _ (hJ w h))
  have hown : s.vm.findClass "ChairAlley$Reader" = some m.cls := by rw [← hcl]; exact C.2.2.2.2.1
  have hcr : (vs.map fun v => v.category).sum ≤ 8 := by rw [yGs_cat hst]; exact hc1
  refine va_ldcS C.1 C.2.1 hown hVR hd1 ?_
  refine va_calli (A0 := fun q => z ≤ q) (va_runV (As := []) (rest := vs) (n := 0) ⟨C.1, C.2.1, C.2.2.1, hown, C.2.2.2.2.2.1⟩ (j_len (l := l) (S := S) (d := d') (z := z) (H0 := H) (a := a) (b := b) hgd hJ) ⟨callB_of 0 C.2.2.2.2.2.1 (jW_good hgd (fun w h => List.mem_cons_of_mem _ h) (hJ _ (List.mem_of_getElem? (i := 4) rfl))) rfl rfl rfl (wd _ (List.mem_of_getElem? (i := 3) rfl)) (wd _ (List.mem_of_getElem? (i := 0) rfl)) ⟨by decide, by decide, by decide +kernel⟩ ⟨Nat.le_refl _, show 8 + (1 + 11) + 60 * (d' + 1) ≤ 60 * (d' + 1 + 1) by omega⟩, wd _ (List.mem_of_getElem? (i := 1) rfl), wd _ (List.mem_of_getElem? (i := 2) rfl)⟩ ⟨jPc_blind, vk_recv hX.1 (i := 0) (by decide) hS, fun U hU hW => ⟨rfl, jTx_to hW hU hS hX, hU⟩⟩ rfl rfl hl.1 rfl (lv_room hcr) hd2 ⟨hB.1, hB.2⟩) hS (fun _ _ h => h) (fun _ h => h) (fun r u t H1 locs1 ht hW hr hB1 hsz hk1 hS1 => ?_)
  have hr : r = 112 := hr
  subst hr
  have hB1 : t.heap = H := hB1
  have hH1 : H1 = H := ht.symm.trans hB1
  subst hH1
  exact hk p e s m args below meth c C ad0 n0 ad hA hN hB H1 locs1 ls lv _ ws hR hP hD hS1 hl hlo ⟨_, _, rfl, ⟨_, rfl, by decide⟩, hst⟩
/-- WORDS.charAt(i) -/
theorem ys_wch (hgd : ∀ w ∈ sW S, goodWord w = true) (hJ : ∀ w ∈ jWs, w ∈ sW S) (hcl : (sY S mi).cls = "ChairAlley$Reader") {i pc3 : Nat} {x : Int} (hd1 : decode (sC S mi) pc = .ok (.ldc 67, 2)) (hd3 : (∃ k : Fin 4, decode (sC S mi) (pc + 2) = .ok (.iload_n k, 1) ∧ (k : Nat) = i ∧ pc3 = pc + 2 + 1) ∨ (decode (sC S mi) (pc + 2) = .ok (.iload i, 2) ∧ pc3 = pc + 2 + 2)) (hd2 : decode (sC S mi) pc3 = .ok (.invokevirtual 74, 3)) (hx : yLd lo i = some (yi x)) (hx0 : 0 ≤ x) (hx1 : x < 112) (hdd : 4 ≤ d) (hc1 : yCat st ≤ 8)
    (hk : yW l S D cy Fk z d mi bc bs K nc ns (pc3 + 3) lo (yi (zCh x.toNat).toInt :: st) h) : yW l S D cy Fk z d mi bc bs K nc ns pc lo st h := by
  intro p e s m args below meth c C ad0 n0 ad hA hN hB H locs ls lv vs ws hR hP hD hS hl hlo hst
  obtain ⟨d', rfl⟩ : ∃ d', d = (d' + 3) + 1 := ⟨d - 4, by omega⟩
  obtain ⟨⟨a, b, hVR, hVS⟩, hZ, hQ⟩ := C.2.2.2.2.2.2.2.2.2.1.2.1
  have hX : jTx z a b s := ⟨hVS, hZ, hQ⟩
  have wd : ∀ w ∈ jWs, w.before args s = true := fun w h => C.2.2.2.2.2.1 w (List.mem_cons_of_mem _ (hJ w h))
  have hown : s.vm.findClass "ChairAlley$Reader" = some m.cls := by rw [← hcl]; exact C.2.2.2.2.1
  have hcr : (vs.map fun v => v.category).sum ≤ 8 := by rw [yGs_cat hst]; exact hc1
  obtain ⟨k0, v, hkv, hg⟩ := yGl_at hlo hx
  obtain ⟨i0, rfl, hi0⟩ := hg
  have hat := lv_at hl k0 hkv
  have g0 : ¬ i0 < 0 := by
    rw [Int32.lt_iff_toInt_lt, hi0]
    exact Int.not_lt.mpr hx0
  have g1 : i0 < 112 := by
    rw [Int32.lt_iff_toInt_lt, hi0]
    exact hx1
  have gc : i0.toNatClampNeg = x.toNat := by
    show i0.toInt.toNat = x.toNat
    rw [hi0]
  have gin : vp_in i0 112 := by
    intro q
    rcases q with q | q
    · exact g0 q
    · rw [gc] at q
      omega
  refine va_ldcS C.1 C.2.1 hown hVR hd1 ?_
  have fin : W p l e (zRm (d' + 3 + 1) bc bs) s m args below meth c H locs nc ns (vx_MQ below (yQ S D cy Fk z ad0 n0 K) (yXC S D cy Fk z mi ad0 n0 K) args s bc bs (fun q => z ≤ q)) (F0 m pc3 ls (.int i0 :: .ref a :: vs)) := by
    refine va_calli (A0 := fun q => z ≤ q) (va_runV (As := [.int i0]) (rest := vs) (n := 1) ⟨C.1, C.2.1, C.2.2.1, hown, C.2.2.2.2.2.1⟩ (j_cha (l := l) (S := S) (d := d') (z := z) (H0 := H) (a := a) (b := b) hgd hJ g0 g1 gin) ⟨callB_of 1 C.2.2.2.2.2.1 (jW_good hgd (fun w h => List.mem_cons_of_mem _ h) (hJ _ (List.mem_of_getElem? (i := 15) rfl))) rfl rfl rfl (wd _ (List.mem_of_getElem? (i := 3) rfl)) (wd _ (List.mem_of_getElem? (i := 12) rfl)) ⟨by decide, by decide, by decide +kernel⟩ ⟨Nat.le_refl _, show 8 + (2 + 11) + 60 * (d' + 3) ≤ 60 * (d' + 3 + 1) by omega⟩, wd _ (List.mem_of_getElem? (i := 13) rfl), wd _ (List.mem_of_getElem? (i := 14) rfl)⟩ ⟨jPc_blind, vk_recv hX.1 (i := 0) (by decide) hS, fun U hU hW => ⟨rfl, jTx_to hW hU hS hX, hU⟩⟩ rfl rfl hl.1 rfl (lv_room hcr) hd2 ⟨hB.1, hB.2⟩) hS (fun _ _ h => h) (fun _ h => h) (fun r u t H1 locs1 ht hW hr hB1 hsz hk1 hS1 => ?_)
    have hr : r = zCh i0.toNatClampNeg := hr
    rw [gc] at hr
    subst hr
    have hB1 : t.heap = H := hB1
    have hH1 : H1 = H := ht.symm.trans hB1
    subst hH1
    exact hk p e s m args below meth c C ad0 n0 ad hA hN hB H1 locs1 ls lv _ ws hR hP hD hS1 hl hlo ⟨_, _, rfl, ⟨_, rfl, rfl⟩, hst⟩
  rcases hd3 with ⟨k4, hd, hk4, rfl⟩ | ⟨hd, rfl⟩
  · exact lv_iload_n C.1 C.2.1 hd hk4 hat fin
  · exact lv_iload C.1 C.2.1 hd hat fin
/-- throw new NoSuchElementException() -/
theorem ys_throw (htr : l.stackTraces = false) (hth : zThr mi = true) {own : String} (hcl : (sY S mi).cls = own) {ik ic : Nat} (hw : ∀ w ∈ Jvm.Cond.classLink own ik xE :: Jvm.Cond.initialized xE :: (vx_at0 own ic xE xNm).filter goodWord, w ∈ sW S) (hbad : ∀ w ∈ (vx_at0 own ic xE xNm).filter (fun w => !goodWord w), w ∈ xB)
    (hot : ∀ w ∈ Jvm.Cond.classLink own ik xE :: Jvm.Cond.initialized xE :: vx_at0 own ic xE xNm, vx_ot w = true)
    (d0 : decode (sC S mi) pc = .ok (.new ik, 3)) (d3 : decode (sC S mi) (pc + 3) = .ok (.dup, 1)) (d4 : decode (sC S mi) (pc + 4) = .ok (.invokespecial ic, 3)) (d7 : decode (sC S mi) (pc + 7) = .ok (.athrow, 1))
    (hdd : 6 ≤ d) (hc1 : yCat st ≤ 8) (hb1 : nc + 1 ≤ bc) (hb2 : ns + 6 ≤ bs) (hk : K (some (yr none)) h) : yW l S D cy Fk z d mi bc bs K nc ns pc lo st h := by
  intro p e s m args below meth c C ad0 n0 ad hA hN hB H locs ls lv vs ws hR hP hD hS hl hlo hst
  have hF := C.2.2.2.2.2.2.2.2.2.1.2.2
  have wd : ∀ w ∈ Jvm.Cond.classLink own ik xE :: Jvm.Cond.initialized xE :: (vx_at0 own ic xE xNm).filter goodWord, w.before args s = true := fun w h => C.2.2.2.2.2.1 w (List.mem_cons_of_mem _ (hw w h))
  have hcr : (vs.map fun v => v.category).sum ≤ 8 := by rw [yGs_cat hst]; exact hc1
  have key : ∀ H1 : Heap, H.size ≤ H1.size → (∀ q : Nat, q < H.size → H1[q]? = H[q]?) → va_P D (sCl S) ws H1 := fun H1 _ hq => hP.kept (fun k x hx => hq x.1 ((hP k x hx).lt))
  exact vx_throw0 (own := own) (cls := xE) (names := xNm) (ik := ik) (ic := ic) (A := fun q => z ≤ q) C.1 C.2.1 htr (by rw [← hcl]; exact C.2.2.2.2.1) (by decide +kernel) (by decide +kernel) (wd _ List.mem_cons_self) (wd _ (List.mem_cons_of_mem _ List.mem_cons_self)) (vx_hat (B := xB) (fun w hw => wd w (List.mem_cons_of_mem _ (List.mem_cons_of_mem _ hw))) hbad (fun w hw => va_Nw.use (by simp only [xB, List.mem_cons, List.not_mem_nil, or_false] at hw; rcases hw with rfl | rfl | rfl | rfl <;> rfl) (hF.1 w hw))) hot hF.2.1 hF.2.2 hS (by rw [C.2.2.1]; exact hl.1) d0 d3 d4 d7 (fun x hx => (C.2.2.2.2.2.2.2.2.2.2 x hx).elim) (show 2 + 3 < d by omega) (show _ + (13 * (2 + 1) + 42) ≤ 60 * d by omega) (show nc + 1 ≤ bc by omega) (show ns + 6 ≤ bs by omega) C.2.2.2.2.2.2.1 (fun t _ h1 h2 => ⟨(), trivial, ⟨rfl, hth, h, ad, ws, hk, hA, hN, hR, key _ h1 h2, hD⟩, Nat.le_trans hS.1 h1, fun q k1 k2 => by rw [h2 q (Nat.lt_of_lt_of_le k1 hS.1)]; exact hS.2.1 q k1 k2⟩) hS.2.2 hb1 hb2
end Sy
