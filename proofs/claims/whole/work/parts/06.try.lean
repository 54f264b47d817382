noncomputable def zq (mi : Nat) (as : zL) (h : zHp) (K : zKo) : Bool := match zN zMs mi with
  | some mt => zrun zGG 1000000 (12, mi, mt.2.2.2, mt.2.1, mt.2.2.1) 0 0 0 as [] h K
  | none => false
set_option maxRecDepth 100000 in
theorem t_on100 : zq 53 [(0, zRef (some 0))] (1, [[.inl (10, (zN zDf 10).getD [])]]) (fun _ h => zNew h (.inl (11, (zN zDf 11).getD [])) (fun h' => zq 91 [(0, zRef (some 102))] h' (fun _ h => zq 77 [(0, zRef (some 0)), (1, .inl 100)] h (fun r h => zq 127 [(0, zRef (some 102)), (1, .inl 100)] h (fun r' _ => match r, r' with | some (.inl a), some (.inl b) => Nat.beq a b | _, _ => false))))) = true := by decide +kernel
