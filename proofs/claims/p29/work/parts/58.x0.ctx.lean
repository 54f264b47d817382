/-! WHAT LIES IN A STATE beside the cells that the law made: the text WORDS; what a throw rests on; which methods throw. -/
/-- the methods that may throw: cell, chair -/
def zThr (a : Nat) : Bool := Nat.beq a 116 || Nat.beq a 117
def xE : String := "java/util/NoSuchElementException"
abbrev xNm : List String := ["java/lang/RuntimeException", "java/lang/Exception"]
def xB : List Jvm.Cond := [.declares (Bundle.init0 "java/lang/RuntimeException"), .declares (Bundle.init0 "java/lang/Exception"), .declares (Bundle.init0 Bundle.tN), .castable xE xE]
/-- what a throw rests on, beside the words -/
def xF (A : Nat → Prop) (U : State) : Prop := (∀ w ∈ xB, va_Nw w U) ∧ vx_Zq Bundle.tN "UNASSIGNED_STACK" Bundle.steD A U U.heap ∧ vx_Zq Bundle.tN "SUPPRESSED_SENTINEL" Bundle.listD A U U.heap
theorem xF_to {A : Nat → Prop} {s U : State} (hW : s.WarmedH U.vm) (hh : ∀ a : Nat, a < s.heap.size → ¬ A a → U.heap[a]? = s.heap[a]?) (h : xF A s) : xF A U := by
  refine ⟨fun w hw => ?_, (h.2.1.moved hW.alike).kept hh, (h.2.2.moved hW.alike).kept hh⟩
  have h1 := h.1 w hw
  simp only [xB, List.mem_cons, List.not_mem_nil, or_false] at hw
  rcases hw with rfl | rfl | rfl | rfl
  · exact va_Nw.warmD hW h1
  · exact va_Nw.warmD hW h1
  · exact va_Nw.warmD hW h1
  · exact va_Nw.warmC hW h1
theorem xF_same {A : Nat → Prop} {s U : State} (hvm : s.vm = U.vm) (hh : s.heap = U.heap) (h : xF A s) : xF A U := by
  refine ⟨fun w hw => ?_, ?_, ?_⟩
  · have h1 := h.1 w hw
    simp only [xB, List.mem_cons, List.not_mem_nil, or_false] at hw
    rcases hw with rfl | rfl | rfl | rfl <;> exact va_Nw.same rfl hvm h1
  · have := h.2.1.moved (U := U) (by rw [hvm]; exact Vm.Alike.refl _)
    rw [hh] at this
    exact this
  · have := h.2.2.moved (U := U) (by rw [hvm]; exact Vm.Alike.refl _)
    rw [hh] at this
    exact this
/-- the text WORDS -/
def zWdS : String := "land wall stairs wide lane chair start sick law rank load come n e s w or and not there ahead backs waits place "
def zWd : List Int32 := [108, 97, 110, 100, 32, 119, 97, 108, 108, 32, 115, 116, 97, 105, 114, 115, 32, 119, 105, 100, 101, 32, 108, 97, 110, 101, 32, 99, 104, 97, 105, 114, 32, 115, 116, 97, 114, 116, 32, 115, 105, 99, 107, 32, 108, 97, 119, 32, 114, 97, 110, 107, 32, 108, 111, 97, 100, 32, 99, 111, 109, 101, 32, 110, 32, 101, 32, 115, 32, 119, 32, 111, 114, 32, 97, 110, 100, 32, 110, 111, 116, 32, 116, 104, 101, 114, 101, 32, 97, 104, 101, 97, 100, 32, 98, 97, 99, 107, 115, 32, 119, 97, 105, 116, 115, 32, 112, 108, 97, 99, 101, 32]
/-- the text lies there, and what the JDK's own methods read -/
def zTx (A : Nat → Prop) (U : State) : Prop := (∃ a b : Nat, vk_R "ChairAlley$Reader" 67 zWdS a U ∧ vk_S 1 [112] [zWd] (fun _ => a) (fun _ => b) A U U.heap) ∧ va_Z "java/lang/String" "COMPACT_STRINGS" "Z" (.int 1) A U U.heap ∧ va_Zq "jdk/internal/util/Preconditions" "SIOOBE_FORMATTER" "Ljava/util/function/BiFunction;" A U U.heap
theorem zTx_to {A : Nat → Prop} {s U : State} (hW : s.WarmedH U.vm) (hh : ∀ a : Nat, a < s.heap.size → ¬ A a → U.heap[a]? = s.heap[a]?) (h : zTx A s) : zTx A U := by
  obtain ⟨⟨a, b, h1, h2⟩, h3, h4⟩ := h
  exact ⟨⟨a, b, h1.warm hW, (h2.moved hW.alike).kept hh⟩, (h3.moved hW.alike).kept hh, (h4.moved hW.alike).kept hh⟩
theorem zTx_same {A : Nat → Prop} {s U : State} (hvm : s.vm = U.vm) (hh : s.heap = U.heap) (h : zTx A s) : zTx A U := by
  obtain ⟨⟨a, b, h1, h2⟩, h3, h4⟩ := h
  have hA : s.vm.Alike U.vm := by rw [hvm]; exact Vm.Alike.refl _
  refine ⟨⟨a, b, h1.same hvm.symm, ?_⟩, ?_, ?_⟩
  · have := h2.moved hA
    rw [hh] at this
    exact this
  · have := h3.moved hA
    rw [hh] at this
    exact this
  · have := h4.moved hA
    rw [hh] at this
    exact this
/-- the heap beside the cells that the law made -/
def zHp (z : Nat) (s : State) : Prop := z ≤ s.heap.size ∧ zTx (fun q => z ≤ q) s ∧ xF (fun q => z ≤ q) s
theorem zHp_to {z : Nat} {s U : State} {H : Heap} {locs : List Loc} (hW : s.WarmedH U.vm) (hU : U.heap = H) (hS : va_S (fun q => z ≤ q) s.heap H locs) (h : zHp z s) : zHp z U := by
  have hh : ∀ a : Nat, a < s.heap.size → ¬ z ≤ a → U.heap[a]? = s.heap[a]? := fun a h1 h2 => by rw [hU]; exact hS.2.1 a h1 h2
  exact ⟨by rw [hU]; exact Nat.le_trans h.1 hS.1, zTx_to hW hh h.2.1, xF_to hW hh h.2.2⟩
theorem zHp_same {z : Nat} {s U : State} (hvm : s.vm = U.vm) (hh : s.heap = U.heap) (h : zHp z s) : zHp z U := ⟨by rw [← hh]; exact h.1, zTx_same hvm hh h.2.1, xF_same hvm hh h.2.2⟩
