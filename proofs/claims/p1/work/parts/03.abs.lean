/-! AN ABSTRACT MACHINE, to be run by the kernel: ints known (by their number mod 2^32) or between two biased bounds, longs unknown, references by their place among the cells that were made since the law began. zk_: what it does; it answers true only if every road that it can't rule out ends in a state that the caller's question K takes. -/
/-- an int that a cell of an array holds: known, or between bounds (biased by 2^31) -/
abbrev zI : Type := Nat ⊕ (Nat × Nat)
/-- a value: int known, int between bounds, long, reference by place -/
abbrev zV : Type := Nat ⊕ ((Nat × Nat) ⊕ (Unit ⊕ Option Nat))
/-- a cell: object (class, fields); row of ints (kind, length, what it holds, changes); row of longs (length); row of references (kind, places) -/
abbrev zC : Type := (Nat × List zV) ⊕ ((Nat × Nat × zI × List (Nat × zI)) ⊕ (Nat ⊕ (Nat × List (Option Nat))))
abbrev zL : Type := List (Nat × zV)
/-- a row of code: pc, op, five numbers, the next pc -/
abbrev zE : Type := Nat × Nat × Nat × Nat × Nat × Nat × Nat × Nat
abbrev zT : Type := List (List zE)
/-- a method: how many values it takes and locals it has, cells, slots that it may make, its code by sixteens -/
abbrev zM : Type := (Nat × Nat) × Nat × Nat × zT
/-- a frame's fixed part: depth left, method, code, cells, slots that it may make -/
abbrev zFr : Type := Nat × Nat × zT × Nat × Nat
/-- the cells: how many, by sixteens -/
abbrev zHp : Type := Nat × List (List zC)
abbrev zKo : Type := Option zV → zHp → Bool
abbrev zHo : Type := zFr → Nat → Nat → Nat → zL → List zV → zHp → zKo → Bool
noncomputable def zF (n : Nat) (K : Nat → Bool) : Bool := Nat.rec (K 0) (fun m _ => K (Nat.succ m)) n
noncomputable def zN {α : Type} (l : List α) : Nat → Option α := List.rec (fun _ => none) (fun a _ ih n => Nat.rec (some a) (fun m _ => ih m) n) l
noncomputable def zFe (l : List zE) (pc : Nat) : Option zE := List.rec none (fun a _ ih => cond (Nat.beq a.1 pc) (some a) ih) l
noncomputable def zSet {α : Type} (c : α) (l : List α) : Nat → (List α → Bool) → Bool := List.rec (fun _ _ => false) (fun a t ih k K => Nat.rec (K (c :: t)) (fun m _ => ih m (fun t' => K (a :: t'))) k) l
/-- c behind a row of just r -/
noncomputable def zIns {α : Type} (c : α) (l : List α) : Nat → (List α → Bool) → Bool := List.rec (fun r K => Nat.rec (K [c]) (fun _ _ => false) r) (fun a _ ih r K => Nat.rec false (fun m _ => ih m (fun t' => K (a :: t'))) r) l
noncomputable def zGet (h : zHp) (k : Nat) : Option zC := match zN h.2 (k / 16) with
  | some l => zN l (k % 16)
  | none => none
noncomputable def zPut (h : zHp) (k : Nat) (c : zC) (K : zHp → Bool) : Bool := match h with
  | (n, hs) => match zN hs (k / 16) with
    | some l => zSet c l (k % 16) (fun l' => zSet l' hs (k / 16) (fun ls => K (n, ls)))
    | none => false
noncomputable def zNew (h : zHp) (c : zC) (K : zHp → Bool) : Bool := match h with
  | (n, hs) => match zN hs (n / 16) with
    | some l => zIns c l (n % 16) (fun l' => zSet l' hs (n / 16) (fun ls => zF (n + 1) (fun n' => K (n', ls))))
    | none => cond (Nat.beq (n % 16) 0) (zIns [c] hs (n / 16) (fun ls => zF (n + 1) (fun n' => K (n', ls)))) false
noncomputable def zRd (d : zI) (us : List (Nat × zI)) (i : Nat) : zI := List.rec d (fun u _ ih => cond (Nat.beq u.1 i) u.2 ih) us
noncomputable def zLd (lo : zL) (i : Nat) : Option zV := List.rec none (fun a _ ih => cond (Nat.beq a.1 i) (some a.2) ih) lo
noncomputable def zIsL (v : zV) : Bool := match v with
  | .inr (.inr (.inl _)) => true
  | _ => false
noncomputable def zIsI (v : zV) : Bool := match v with
  | .inl _ => true
  | .inr (.inl _) => true
  | _ => false
noncomputable def zSt (i : Nat) (v : zV) (lo : zL) (K : zL → Bool) : Bool := List.rec (motive := fun _ => (zL → Bool) → Bool) (fun K => K []) (fun a _ ih K => cond (Nat.beq a.1 i || (Nat.beq (Nat.succ a.1) i && zIsL a.2)) (ih K) (ih (fun t' => K (a :: t')))) lo (fun t => K ((i, v) :: t))
def zTop : Nat × Nat := (0, 4294967295)
noncomputable def zlo (v : zV) : Nat := match v with
  | .inl c => (c + 2147483648) % 4294967296
  | .inr (.inl r) => r.1
  | _ => 0
noncomputable def zhi (v : zV) : Nat := match v with
  | .inl c => (c + 2147483648) % 4294967296
  | .inr (.inl r) => r.2
  | _ => 4294967295
/-- below: known so (1), known not (0), open (2) -/
noncomputable def zlt (a b : zV) : Nat := cond (Nat.blt (zhi a) (zlo b)) 1 (cond (Nat.ble (zhi b) (zlo a)) 0 2)
noncomputable def zeq (a b : zV) : Nat := cond (Nat.blt (zhi a) (zlo b) || Nat.blt (zhi b) (zlo a)) 0 (cond (Nat.beq (zlo a) (zhi a) && (Nat.beq (zlo b) (zhi b) && Nat.beq (zlo a) (zlo b))) 1 2)
/-- by the condition's number: eq ne lt ge gt le -/
noncomputable def zcm (k : Nat) (a b : zV) : Nat := match k with
  | 0 => zeq a b
  | 1 => (match zeq a b with | 0 => 1 | 1 => 0 | n => n)
  | 2 => zlt a b
  | 3 => (match zlt a b with | 0 => 1 | 1 => 0 | n => n)
  | 4 => zlt b a
  | _ => (match zlt b a with | 0 => 1 | 1 => 0 | n => n)
noncomputable def zb2 (n : Nat) (a b : Bool) : Bool := match n with
  | 1 => a
  | 0 => b
  | _ => cond a b false
noncomputable def zOfI (x : zI) : zV := match x with
  | .inl c => .inl c
  | .inr r => .inr (.inl r)
/-- what a row of kind k keeps of an int: byte 0, int 1, boolean 3 -/
noncomputable def zNar (k : Nat) (v : zV) : zI := match k, v with
  | 1, .inl c => .inl c
  | 3, .inl c => .inl (c % 2)
  | 1, .inr (.inl r) => .inr r
  | _, _ => .inr zTop
noncomputable def zArg (l : List zV) : Nat → (zL → Bool) → Bool := List.rec (fun _ K => K []) (fun v _ ih i K => ih (cond (zIsL v) (Nat.succ (Nat.succ i)) (Nat.succ i)) (fun t => zF i (fun i => K ((i, v) :: t)))) l
/-- the first n of a stack, turned round, and the rest -/
noncomputable def zTk (n : Nat) : List zV → List zV → (List zV → List zV → Bool) → Bool := Nat.rec (fun acc st K => K acc st) (fun _ ih acc st K => List.rec false (fun a t _ => ih (a :: acc) t K) st) n
noncomputable def zCat (l : List zV) : Nat := List.rec 0 (fun a _ ih => cond (zIsL a) 2 1 + ih) l
/-- a field of this kind takes this value: int 0, long 1, boolean 2, reference 3 -/
noncomputable def zFit (k : Nat) (v : zV) : Bool := match k, v with
  | 0, .inl _ => true
  | 0, .inr (.inl _) => true
  | 1, .inr (.inr (.inl _)) => true
  | 2, .inl c => Nat.blt c 2
  | 3, .inr (.inr (.inr _)) => true
  | _, _ => false
/-- the methods, the blank fields by class, the targets of switches -/
abbrev zG0 : Type := List zM × List (List zV) × List (List Nat)
abbrev zOp : Type := zHo → zFr → Nat → Nat → Nat → Nat → Nat → Nat → zL → List zV → zHp → zKo → Bool
abbrev zRef (r : Option Nat) : zV := .inr (.inr (.inr r))
abbrev zLng : zV := .inr (.inr (.inl ()))
abbrev zAny : zV := .inr (.inl zTop)
noncomputable def zo_c : zOp := fun ih f nc ns ea eb ec en lo st h K => ih f nc ns en lo (.inl ea :: st) h K
noncomputable def zo_l : zOp := fun ih f nc ns ea eb ec en lo st h K => ih f nc ns en lo (zLng :: st) h K
noncomputable def zo_ldi : zOp := fun ih f nc ns ea eb ec en lo st h K => match zLd lo ea with
  | some v => cond (zIsI v) (ih f nc ns en lo (v :: st) h K) false
  | none => false
noncomputable def zo_lda : zOp := fun ih f nc ns ea eb ec en lo st h K => match zLd lo ea with
  | some (.inr (.inr (.inr r))) => ih f nc ns en lo (zRef r :: st) h K
  | _ => false
noncomputable def zo_ldl : zOp := fun ih f nc ns ea eb ec en lo st h K => match zLd lo ea with
  | some (.inr (.inr (.inl _))) => ih f nc ns en lo (zLng :: st) h K
  | _ => false
noncomputable def zo_sti : zOp := fun ih f nc ns ea eb ec en lo st h K => match st with
  | v :: st' => cond (zIsI v) (zSt ea v lo (fun lo' => ih f nc ns en lo' st' h K)) false
  | [] => false
noncomputable def zo_sta : zOp := fun ih f nc ns ea eb ec en lo st h K => match st with
  | .inr (.inr (.inr r)) :: st' => zSt ea (zRef r) lo (fun lo' => ih f nc ns en lo' st' h K)
  | _ => false
noncomputable def zo_inc : zOp := fun ih f nc ns ea eb ec en lo st h K => match zLd lo ea with
  | some (.inl c) => zF ((c + eb) % 4294967296) (fun r => zSt ea (.inl r) lo (fun lo' => ih f nc ns en lo' st h K))
  | some (.inr (.inl _)) => zSt ea zAny lo (fun lo' => ih f nc ns en lo' st h K)
  | _ => false
noncomputable def zo_bin (g : Nat → Nat → Nat) : zOp := fun ih f nc ns ea eb ec en lo st h K => match st with
  | .inl y :: .inl x :: st' => zF (g x y) (fun r => ih f nc ns en lo (.inl r :: st') h K)
  | b :: a :: st' => cond (zIsI a && zIsI b) (ih f nc ns en lo (zAny :: st') h K) false
  | _ => false
noncomputable def zo_any2 : zOp := fun ih f nc ns ea eb ec en lo st h K => match st with
  | b :: a :: st' => cond (zIsI a && zIsI b) (ih f nc ns en lo (zAny :: st') h K) false
  | _ => false
noncomputable def zo_any1 : zOp := fun ih f nc ns ea eb ec en lo st h K => match st with
  | a :: st' => cond (zIsI a) (ih f nc ns en lo (zAny :: st') h K) false
  | _ => false
noncomputable def zo_div : zOp := fun ih f nc ns ea eb ec en lo st h K => match st with
  | .inl y :: a :: st' => cond (zIsI a && (Nat.blt 0 y && Nat.blt y 2147483648)) (ih f nc ns en lo (zAny :: st') h K) false
  | _ => false
noncomputable def zo_rem : zOp := fun ih f nc ns ea eb ec en lo st h K => match st with
  | .inl y :: a :: st' => cond (zIsI a && (Nat.blt 0 y && Nat.blt y 2147483648)) (cond (Nat.ble 2147483648 (zlo a)) (zF (2147483647 + y) (fun t => ih f nc ns en lo (.inr (.inl (2147483648, t)) :: st') h K)) (ih f nc ns en lo (zAny :: st') h K)) false
  | _ => false
noncomputable def zo_if (k : Nat) : zOp := fun ih f nc ns ea eb ec en lo st h K => match st with
  | a :: st' => cond (zIsI a) (zb2 (zcm k a (.inl 0)) (ih f nc ns ea lo st' h K) (ih f nc ns en lo st' h K)) false
  | _ => false
noncomputable def zo_ic (k : Nat) : zOp := fun ih f nc ns ea eb ec en lo st h K => match st with
  | b :: a :: st' => cond (zIsI a && zIsI b) (zb2 (zcm k a b) (ih f nc ns ea lo st' h K) (ih f nc ns en lo st' h K)) false
  | _ => false
noncomputable def zo_go : zOp := fun ih f nc ns ea eb ec en lo st h K => ih f nc ns ea lo st h K
noncomputable def zo_nn : zOp := fun ih f nc ns ea eb ec en lo st h K => match st with
  | .inr (.inr (.inr none)) :: st' => ih f nc ns en lo st' h K
  | .inr (.inr (.inr (some _))) :: st' => ih f nc ns ea lo st' h K
  | _ => false
/-- tableswitch: ea the least, biased; eb how many; ec its row of targets; en the default -/
noncomputable def zo_sw (G : zG0) : zOp := fun ih f nc ns ea eb ec en lo st h K => match st with
  | a :: st' => cond (zIsI a) (cond (Nat.blt (zhi a) ea || Nat.ble (ea + eb) (zlo a)) (ih f nc ns en lo st' h K) (cond (Nat.beq (zlo a) (zhi a)) (match zN G.2.2 ec with
      | some l => (match zN l (zlo a - ea) with | some t => ih f nc ns t lo st' h K | none => false)
      | none => false) false)) false
  | _ => false
noncomputable def zo_dup : zOp := fun ih f nc ns ea eb ec en lo st h K => match st with
  | a :: st' => cond (zIsL a) false (ih f nc ns en lo (a :: a :: st') h K)
  | _ => false
noncomputable def zo_dup2 : zOp := fun ih f nc ns ea eb ec en lo st h K => match st with
  | b :: a :: st' => cond (zIsL a || zIsL b) false (ih f nc ns en lo (b :: a :: b :: a :: st') h K)
  | _ => false
noncomputable def zo_pop : zOp := fun ih f nc ns ea eb ec en lo st h K => match st with
  | a :: st' => cond (zIsL a) false (ih f nc ns en lo st' h K)
  | _ => false
/-- getfield: ea the class, eb the field -/
noncomputable def zo_gf : zOp := fun ih f nc ns ea eb ec en lo st h K => match st with
  | .inr (.inr (.inr (some p))) :: st' => (match zGet h p with
    | some (.inl (k, fs)) => cond (Nat.beq k ea) (match zN fs eb with | some v => ih f nc ns en lo (v :: st') h K | none => false) false
    | _ => false)
  | _ => false
/-- putfield: ec the field's kind -/
noncomputable def zo_pf : zOp := fun ih f nc ns ea eb ec en lo st h K => match st with
  | v :: .inr (.inr (.inr (some p))) :: st' => (match zGet h p with
    | some (.inl (k, fs0)) => cond (Nat.beq k ea && zFit ec v) (zSet v fs0 eb (fun fs => zPut h p (.inl (k, fs)) (fun h' => ih f nc ns en lo st' h' K))) false
    | _ => false)
  | _ => false
/-- new: ea the class, eb how many fields -/
noncomputable def zo_new (G : zG0) : zOp := fun ih f nc ns ea eb ec en lo st h K => match f with
  | (d0, m0, tb0, bc, bs) => match zN G.2.1 ea with
  | some fs => cond (Nat.ble (nc + 1) bc && Nat.ble (ns + eb) bs) (zNew h (.inl (ea, fs)) (fun h' => zF (nc + 1) (fun nc' => zF (ns + eb) (fun ns' => ih f nc' ns' en lo (zRef (some h.1) :: st) h' K)))) false
  | none => false
/-- newarray: ea the kind -/
noncomputable def zo_na : zOp := fun ih f nc ns ea eb ec en lo st h K => match f with
  | (d0, m0, tb0, bc, bs) => match st with
    | .inl n :: st' => cond (Nat.ble n 65536 && (Nat.ble (nc + 1) bc && Nat.ble (ns + n) bs)) (zNew h (cond (Nat.beq ea 2) (.inr (.inr (.inl n))) (.inr (.inl (ea, n, .inl 0, [])))) (fun h' => zF (nc + 1) (fun nc' => zF (ns + n) (fun ns' => ih f nc' ns' en lo (zRef (some h.1) :: st') h' K)))) false
    | _ => false
/-- anewarray: ea the kind -/
noncomputable def zo_ra : zOp := fun ih f nc ns ea eb ec en lo st h K => match f with
  | (d0, m0, tb0, bc, bs) => match st with
    | .inl n :: st' => cond (Nat.ble n 64 && (Nat.ble (nc + 1) bc && Nat.ble (ns + n) bs)) (zNew h (.inr (.inr (.inr (ea, List.replicate n none)))) (fun h' => zF (nc + 1) (fun nc' => zF (ns + n) (fun ns' => ih f nc' ns' en lo (zRef (some h.1) :: st') h' K)))) false
    | _ => false
noncomputable def zo_len : zOp := fun ih f nc ns ea eb ec en lo st h K => match st with
  | .inr (.inr (.inr (some p))) :: st' => (match zGet h p with
    | some (.inr (.inl (k, n, _, _))) => cond (Nat.beq k 0 || (Nat.beq k 1 || Nat.beq k 3)) (ih f nc ns en lo (.inl n :: st') h K) false
    | some (.inr (.inr (.inl n))) => ih f nc ns en lo (.inl n :: st') h K
    | _ => false)
  | _ => false
/-- iaload, baload: ea the least kind that it takes -/
noncomputable def zo_ild (ok : Nat → Bool) : zOp := fun ih f nc ns ea eb ec en lo st h K => match st with
  | .inl i :: .inr (.inr (.inr (some p))) :: st' => (match zGet h p with
    | some (.inr (.inl (k, n, d, us))) => cond (ok k && (Nat.blt i n && Nat.ble n 65536)) (match zRd d us i with
        | .inl c => zF c (fun c => ih f nc ns en lo (.inl c :: st') h K)
        | .inr r => ih f nc ns en lo (.inr (.inl r) :: st') h K) false
    | _ => false)
  | _ => false
/-- what a row holds behind a store: the same, if nothing was changed and the same comes -/
noncomputable def zUp (d : zI) (us : List (Nat × zI)) (i : Nat) (x : zI) : List (Nat × zI) := match us with
  | [] => (match d, x with | .inl c, .inl c' => cond (Nat.beq c c') [] [(i, x)] | _, _ => [(i, x)])
  | u :: t => cond (Nat.beq u.1 i) ((i, x) :: t) ((i, x) :: u :: t)
noncomputable def zo_ist (ok : Nat → Bool) : zOp := fun ih f nc ns ea eb ec en lo st h K => match st with
  | v :: .inl i :: .inr (.inr (.inr (some p))) :: st' => (match zGet h p with
    | some (.inr (.inl (k, n, d, us))) => cond (ok k && (zIsI v && (Nat.blt i n && Nat.ble n 65536))) (match zNar k v with
        | .inl c => zF c (fun c => (match zUp d us i (.inl c) with
          | [] => ih f nc ns en lo st' h K
          | u :: us' => zPut h p (.inr (.inl (k, n, d, u :: us'))) (fun h' => ih f nc ns en lo st' h' K)))
        | .inr r => zPut h p (.inr (.inl (k, n, d, (i, .inr r) :: us))) (fun h' => ih f nc ns en lo st' h' K)) false
    | _ => false)
  | _ => false
noncomputable def zo_lld : zOp := fun ih f nc ns ea eb ec en lo st h K => match st with
  | .inl i :: .inr (.inr (.inr (some p))) :: st' => (match zGet h p with
    | some (.inr (.inr (.inl n))) => cond (Nat.blt i n && Nat.ble n 65536) (ih f nc ns en lo (zLng :: st') h K) false
    | _ => false)
  | _ => false
noncomputable def zo_lst : zOp := fun ih f nc ns ea eb ec en lo st h K => match st with
  | .inr (.inr (.inl _)) :: .inl i :: .inr (.inr (.inr (some p))) :: st' => (match zGet h p with
    | some (.inr (.inr (.inl n))) => cond (Nat.blt i n && Nat.ble n 65536) (ih f nc ns en lo st' h K) false
    | _ => false)
  | _ => false
noncomputable def zo_ald : zOp := fun ih f nc ns ea eb ec en lo st h K => match st with
  | .inl i :: .inr (.inr (.inr (some p))) :: st' => (match zGet h p with
    | some (.inr (.inr (.inr (k, rs0)))) => (match zN rs0 i with | some r => cond (Nat.ble i 64 && (Nat.beq k 4 || Nat.beq k 5)) (ih f nc ns en lo (zRef r :: st') h K) false | none => false)
    | _ => false)
  | _ => false
/-- aastore: a row of kind 4 takes objects of class 5 (State), of kind 5 of class 9 (World) -/
noncomputable def zo_ast : zOp := fun ih f nc ns ea eb ec en lo st h K => match st with
  | .inr (.inr (.inr (some v))) :: .inl i :: .inr (.inr (.inr (some p))) :: st' => (match zGet h p, zGet h v with
    | some (.inr (.inr (.inr (k, rs0)))), some (.inl (ko, _)) => cond (Nat.ble i 64 && ((Nat.beq k 4 && Nat.beq ko 5) || (Nat.beq k 5 && Nat.beq ko 9))) (zSet (some v) rs0 i (fun rs => zPut h p (.inr (.inr (.inr (k, rs)))) (fun h' => ih f nc ns en lo st' h' K))) false
    | _, _ => false)
  | _ => false
noncomputable def zo_reti : zOp := fun _ _ _ _ _ _ _ _ _ st h K => match st with
  | [v] => cond (zIsI v) (K (some v) h) false
  | _ => false
noncomputable def zo_retz : zOp := fun _ _ _ _ _ _ _ _ _ st h K => match st with
  | [.inl c] => cond (Nat.blt c 2) (K (some (.inl c)) h) false
  | _ => false
noncomputable def zo_ret : zOp := fun _ _ _ _ _ _ _ _ _ st h K => match st with
  | [] => K none h
  | _ => false
noncomputable def zPush (r : Option zV) (st : List zV) : List zV := match r with
  | some v => v :: st
  | none => st
/-- a receiver of class c -/
noncomputable def zRcv (c : Nat) (as : List zV) (h : zHp) : Bool := match as with
  | .inr (.inr (.inr (some p))) :: _ => (match zGet h p with | some (.inl (k, _)) => Nat.beq k c | _ => false)
  | _ => false
noncomputable def zRcI (as : List zV) : Bool := match as with
  | .inr (.inr (.inr (some _))) :: _ => true
  | _ => false
noncomputable def zRcK (eb ec : Nat) (as : List zV) (h : zHp) : Bool := match eb with
  | 0 => zRcv ec as h
  | 1 => zRcI as
  | _ => true
/-- a call: ea the method, eb how it is called (0 a receiver of class ec, 1 a constructor, 2 static) -/
noncomputable def zo_call (G : zG0) : zOp := fun ih f nc ns ea eb ec en lo st h K => match f with
  | (d0, m0, tb0, bc, bs) => match zN G.1 ea with
  | some ((an, ml), mc, ms, tb) => cond (Nat.ble (nc + mc) bc && Nat.ble (ns + ms) bs) (zTk an [] st (fun as rest =>
      cond ((Nat.ble (zCat rest) 8 && Nat.ble (zCat as) ml) && zRcK eb ec as h) (zArg as 0 (fun lo' => Nat.rec false (fun d' _ => ih (d', ea, tb, mc, ms) 0 0 0 lo' [] h (fun r h' => zF (nc + mc) (fun nc' => zF (ns + ms) (fun ns' => ih f nc' ns' en lo (zPush r rest) h' K)))) d0)) false)) false
  | none => false
noncomputable def zo_obj : zOp := fun ih f nc ns ea eb ec en lo st h K => match st with
  | .inr (.inr (.inr (some _))) :: st' => cond (Nat.blt 0 f.1 && Nat.ble (zCat st') 8) (ih f nc ns en lo st' h K) false
  | _ => false
/-- arraycopy of a whole row of ints onto one as long -/
noncomputable def zo_cpy : zOp := fun ih f nc ns ea eb ec en lo st h K => match st with
  | .inl n :: .inl 0 :: .inr (.inr (.inr (some q))) :: .inl 0 :: .inr (.inr (.inr (some p))) :: st' => (match zGet h p, zGet h q with
    | some (.inr (.inl (k, n1, du))), some (.inr (.inl (k', n2, _))) => cond ((Nat.blt 0 f.1 && Nat.ble (zCat st') 8) && ((Nat.beq k 1 && Nat.beq k' 1) && ((Nat.beq n1 n && Nat.beq n2 n) && Nat.ble n 65536))) (zPut h q (.inr (.inl (1, n, du))) (fun h' => ih f nc ns en lo st' h' K)) false
    | _, _ => false)
  | _ => false
noncomputable def zo_mm (mx : Bool) : zOp := fun ih f nc ns ea eb ec en lo st h K => match st with
  | .inl y :: .inl x :: st' => cond (Nat.blt 0 f.1 && Nat.ble (zCat st') 8) (zF (cond (Nat.blt (zlo (.inl y)) (zlo (.inl x))) (cond mx x y) (cond mx y x)) (fun r => ih f nc ns en lo (.inl r :: st') h K)) false
  | _ => false
noncomputable def zadd (x y : Nat) : Nat := (x + y) % 4294967296
noncomputable def zsub (x y : Nat) : Nat := (x + (4294967296 - y % 4294967296)) % 4294967296
noncomputable def zmul (x y : Nat) : Nat := (x * y) % 4294967296
/-- the ops by their numbers, each known by a block of ten -/
noncomputable def zd0 (k : Nat) : zOp := cond (Nat.blt k 5) zo_c zo_l
noncomputable def zd1 (k : Nat) : zOp := cond (Nat.blt k 12) zo_ldi (cond (Nat.blt k 14) zo_lda zo_ldl)
noncomputable def zd2 (k : Nat) : zOp := cond (Nat.blt k 22) zo_sti (cond (Nat.blt k 24) zo_sta zo_inc)
noncomputable def zd3 (k : Nat) : zOp := cond (Nat.beq k 30) (zo_bin zadd) (cond (Nat.beq k 31) (zo_bin zsub) (cond (Nat.beq k 32) (zo_bin zmul) (cond (Nat.beq k 33) zo_div (cond (Nat.beq k 34) zo_rem (cond (Nat.beq k 39) zo_any2 zo_any1)))))
noncomputable def zd5 (k : Nat) : zOp := cond (Nat.beq k 50) zo_dup (cond (Nat.beq k 51) zo_dup2 zo_pop)
noncomputable def zd8 (G : zG0) (k : Nat) : zOp := cond (Nat.beq k 80) zo_go (cond (Nat.beq k 82) zo_nn (zo_sw G))
noncomputable def zd9 (k : Nat) : zOp := cond (Nat.beq k 90) zo_gf zo_pf
noncomputable def zd10 (G : zG0) (k : Nat) : zOp := cond (Nat.beq k 100) (zo_new G) (cond (Nat.beq k 101) zo_na (cond (Nat.beq k 102) zo_ra zo_len))
noncomputable def zk1 (k : Nat) : Bool := Nat.beq k 1
noncomputable def zk03 (k : Nat) : Bool := Nat.beq k 0 || Nat.beq k 3
noncomputable def zd11 (k : Nat) : zOp := cond (Nat.beq k 110) (zo_ild zk1) (cond (Nat.beq k 111) (zo_ist zk1) (cond (Nat.beq k 112) (zo_ild zk03) (cond (Nat.beq k 113) (zo_ist zk03) (cond (Nat.beq k 114) zo_lld (cond (Nat.beq k 115) zo_lst (cond (Nat.beq k 116) zo_ald zo_ast))))))
noncomputable def zd12 (k : Nat) : zOp := cond (Nat.beq k 120) zo_reti (cond (Nat.beq k 121) zo_retz zo_ret)
noncomputable def zd13 (G : zG0) (k : Nat) : zOp := cond (Nat.blt k 133) (zo_call G) (cond (Nat.beq k 133) zo_obj (cond (Nat.beq k 135) zo_cpy (zo_mm (Nat.beq k 137))))
noncomputable def zdis (G : zG0) (k : Nat) : zOp :=
  cond (Nat.blt k 60) (cond (Nat.blt k 20) (cond (Nat.blt k 10) (zd0 k) (zd1 k)) (cond (Nat.blt k 30) (zd2 k) (cond (Nat.blt k 50) (zd3 k) (zd5 k))))
    (cond (Nat.blt k 90) (cond (Nat.blt k 70) (zo_if (k - 60)) (cond (Nat.blt k 80) (zo_ic (k - 70)) (zd8 G k))) (cond (Nat.blt k 110) (cond (Nat.blt k 100) (zd9 k) (zd10 G k)) (cond (Nat.blt k 120) (zd11 k) (cond (Nat.blt k 130) (zd12 k) (zd13 G k)))))
/-- one instruction, then what ih does -/
noncomputable def zstp (G : zG0) (ih : zHo) : zHo := fun f nc ns pc lo st h K => zF pc (fun pc => match zN f.2.2.1 (pc / 16) with
  | none => false
  | some l => match zFe l pc with
    | none => false
    | some e => zdis G e.2.1 ih f nc ns e.2.2.1 e.2.2.2.1 e.2.2.2.2.1 e.2.2.2.2.2.2.2 lo st h K)
/-- n instructions at most, along each road and in each call -/
noncomputable def zrun (G : zG0) (n : Nat) : zHo := Nat.rec (fun _ _ _ _ _ _ _ _ => false) (fun _ ih => zstp G ih) n
