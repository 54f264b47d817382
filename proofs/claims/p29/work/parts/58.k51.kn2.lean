/-! KNOTS, 2: the check of a tree of cases, to be run by the kernel. A node: (j, n, out, last, lk, T, H, E, c): j runs behind it; n places are named; 'out' tokens are told; 'last' moves next (3: none); lk 1: nobody can go at once; T the tokens' places, four bits each (15: gone); H those behind it, the nearest first; E the c known paths, 48 bits each: from (16, its bit), to (16, its bit; 15: away), places that may be on it behind its start (16; bits 12 .. 14: tokens that can't take it). -/
abbrev knN : Type := Nat × Nat × Nat × Nat × Nat × Nat × List Nat × Nat × Nat
noncomputable def knF (n : Nat) (K : Nat → Bool) : Bool := Nat.rec (K 0) (fun m _ => K (Nat.succ m)) n
noncomputable def knAt (E e : Nat) : Nat := E / 2 ^ (48 * e) % 281474976710656
noncomputable def knDg (T a : Nat) : Nat := T / 16 ^ a % 16
/-- p is no token's place -/
noncomputable def knFr (T p : Nat) : Bool := cond (Nat.beq (T % 16) p) false (cond (Nat.beq (T / 16 % 16) p) false (cond (Nat.beq (T / 256 % 16) p) false true))
noncomputable def knMx (a b : Nat) : Nat := cond (Nat.ble a b) b a
/-- places that may be on a path from p: not p, not the other tokens' places -/
noncomputable def knNav (T p : Nat) : Nat := Nat.xor 4095 (Nat.lor (2 ^ (T % 16)) (Nat.lor (2 ^ (T / 16 % 16)) (Nat.lor (2 ^ (T / 256 % 16)) (2 ^ p))) % 4096)
/-- the node ahead, where token a came from p by a path to y (its bit; w: who can't take it); o: so many are out there -/
noncomputable def knKid (nd : knN) (a p o lk y w : Nat) : knN := match nd with
  | (j, n, _, _, _, T, H, E, c) => (j + 1, knMx n (p + 1), o, a, lk, T + p * 16 ^ a - knDg T a * 16 ^ a, T :: H, E + (2 ^ p + 65536 * y + 4294967296 * (knNav (T + 15 * 16 ^ a - knDg T a * 16 ^ a) p + w)) * 2 ^ (48 * c), c + 1)
/-- for p from m on downwards: all nodes ahead by token a -/
noncomputable def knKs (nd : knN) (a o lk y w T : Nat) (m : Nat) : List knN := Nat.rec [] (fun p ih => cond (knFr T p) (knKid nd a p o lk y w :: ih) ih) m
noncomputable def knMs (nd : knN) (last out T n : Nat) (m : Nat) : List knN := Nat.rec [] (fun a ih => cond (Nat.beq last a) ih (knKs nd a out 1 (2 ^ knDg T a) 0 T (n + 1) ++ ih)) m
noncomputable def knKids (nd : knN) : List knN := match nd with
  | (_, n, out, last, _, T, _, _, _) => (cond (Nat.blt out 3) (knKs nd out (out + 1) 0 32768 (28672 - 2 ^ (12 + out)) T (n + 1)) []) ++ knMs nd last out T n out
noncomputable def knEqL (l : List Nat) : List Nat → Bool := List.rec (motive := fun _ => List Nat → Bool) (fun m => List.rec true (fun _ _ _ => false) m) (fun a _ ih m => List.rec false (fun b t _ => cond (Nat.beq a b) (ih t) false) m) l
noncomputable def knEq (a b : knN) : Bool := match a, b with
  | (j, n, out, last, lk, T, H, E, c), (j', n', out', last', lk', T', H', E', c') => cond (Nat.beq j j') (cond (Nat.beq n n') (cond (Nat.beq out out') (cond (Nat.beq last last') (cond (Nat.beq lk lk') (cond (Nat.beq T T') (cond (Nat.beq E E') (cond (Nat.beq c c') (knEqL H H') false) false) false) false) false) false) false) false
noncomputable def knNth (l : List Nat) : Nat → Nat := List.rec (fun _ => 0) (fun a _ ih n => Nat.rec a (fun m _ => ih m) n) l
abbrev knH : Type := Nat → Nat → Nat → Nat → Nat → Nat → List knN → List knN → Nat → Bool
/-- a row of runs ends: at what was so e runs from the end; or (63) the one that went is gone -/
noncomputable def knEnd (ih : knH) (e m k t0 t1 t2 : Nat) (S Hy : List knN) (C : Nat) : Bool := List.rec false (fun nd S' _ => match nd with
  | (j, n, out, last, lk, T, H, E, c) => cond (Nat.beq e 63) (cond (Nat.beq lk 1) (cond (Nat.beq k 1) (cond (Nat.beq (@Nat.rec (fun _ => Nat) t0 (fun m' _ => @Nat.rec (fun _ => Nat) t1 (fun _ _ => t2) m') m) 32768) (ih 4 0 0 0 0 0 S' Hy C) false) false) false)
        (cond (Nat.ble (k + e + 1) j) (knF (knNth H (j - 1 - e)) fun h => cond (Nat.beq (2 ^ (h % 16)) t0) (cond (Nat.beq (2 ^ (h / 16 % 16)) t1) (cond (Nat.beq (2 ^ (h / 256 % 16)) t2) (ih 4 0 0 0 0 0 S' Hy C) false) false) false) false)) S
/-- one path more, ed, by a token from t, the others at q and q' (w: the token's own bit) -/
noncomputable def knMv (ed t q q' w : Nat) (K : Nat → Bool) : Bool := @Bool.rec (fun _ => Bool) false (@Bool.rec (fun _ => Bool) false (knF (ed / 65536 % 65536) K) (Nat.beq (Nat.land (ed / 4294967296) (Nat.lor (Nat.lor q q') w)) 0)) (Nat.beq (ed % 65536) t)
noncomputable def knLeaf (ih : knH) (b m k t0 t1 t2 E : Nat) (S Hy : List knN) (C : Nat) : Bool :=
  @Bool.rec (fun _ => Bool)
    (knF (knAt E (b / 4)) fun ed => knF (b % 4) fun bm => knF (@Bool.rec (fun _ => Nat) (k + 1) k (Nat.beq bm m)) fun k' =>
      @Nat.rec (fun _ => Bool) (knMv ed t0 t1 t2 4096 (fun t => ih 0 k' t t1 t2 E S Hy C)) (fun b1 _ => @Nat.rec (fun _ => Bool) (knMv ed t1 t0 t2 8192 (fun t => ih 1 k' t0 t t2 E S Hy C)) (fun _ _ => knMv ed t2 t0 t1 16384 (fun t => ih 2 k' t0 t1 t E S Hy C)) b1) bm)
    (knEnd ih (b / 4) m k t0 t1 t2 S Hy C) (Nat.beq (b % 4) 3)
/-- path e splits at z, or z isn't on it -/
noncomputable def knSplit (ih : knH) (z e : Nat) (nd : knN) (S Hy : List knN) (C : Nat) : Bool := match nd with
  | (j, n, out, last, lk, T, H, E, c) => knF (knAt E e) fun ed => cond (Nat.blt e c) (cond (Nat.blt z n) (cond (Nat.beq (2 ^ z) (ed / 65536 % 65536)) false (cond (Nat.beq (ed / 4294967296 / 2 ^ z % 2) 1)
      (knF (4294967296 * Nat.xor (ed / 4294967296) (2 ^ z)) fun av => knF (E - ed * 2 ^ (48 * e)) fun E0 => knF (4294967296 * Nat.xor (ed / 4294967296 % 4096) (ed / 65536 % 4096)) fun av' =>
        knF (E0 + (ed % 4294967296 + av) * 2 ^ (48 * e)) fun Ea => knF (E0 + (ed % 65536 + 65536 * 2 ^ z + av') * 2 ^ (48 * e) + (2 ^ z + 65536 * (ed / 65536 % 65536) + av) * 2 ^ (48 * c)) fun Eb =>
          ih 4 0 0 0 0 0 ((j, n, out, last, lk, T, H, Ea, c) :: (j, n, out, last, lk, T, H, Eb, c + 1) :: S) Hy C) false)) false) false
noncomputable def knNode (ih : knH) (b : Nat) (nd : knN) (S Hy : List knN) (C : Nat) : Bool := match nd with
  | (j, n, out, last, lk, T, H, E, c) => knF j fun j => knF n fun n => knF out fun out => knF last fun last => knF lk fun lk => knF T fun T => knF E fun E => knF c fun c =>
      cond (Nat.beq b 0) (cond (Nat.blt j 10) (cond (Nat.blt n 12) (ih 4 0 0 0 0 0 (knKids (j, n, out, last, lk, T, H, E, c) ++ S) Hy C) false) false)
        (cond (Nat.beq b 1) (knF (2 ^ (T % 16)) fun t0 => knF (2 ^ (T / 16 % 16)) fun t1 => knF (2 ^ (T / 256 % 16)) fun t2 => ih 3 0 t0 t1 t2 E ((j, n, out, last, lk, T, H, E, c) :: S) Hy C)
          (cond (Nat.beq b 2) (List.rec false (fun h Hy' _ => cond (knEq h (j, n, out, last, lk, T, H, E, c)) (ih 4 0 0 0 0 0 S Hy' C) false) Hy)
            (knF (C % 256) fun e => knF (C / 256) fun C => knSplit ih (b - 4) e (j, n, out, last, lk, T, H, E, c) S Hy C)))
noncomputable def knStp (ih : knH) : knH := fun m k t0 t1 t2 E S Hy C => knF (C % 256) fun b => knF (C / 256) fun C' =>
  @Bool.rec (fun _ => Bool) (knLeaf ih b m k t0 t1 t2 E S Hy C') (@List.rec knN (fun _ => Bool) true (fun nd S' _ => knNode ih b nd S' Hy C') S) (Nat.beq m 4)
noncomputable def knGo (f : Nat) : knH := Nat.rec (fun _ _ _ _ _ _ _ _ _ => false) (fun _ ih => knStp ih) f
noncomputable def knTree (f : Nat) (nd : knN) (Hy : List knN) (C : Nat) : Bool := knGo f 4 0 0 0 0 0 [nd] Hy C
