/-! THE EXACT MACHINE: lookupswitch. -/
section Sy
variable {l : Launch} {S : zS} {D : va_G} {cy : Nat → ClassId} {Fk : Nat → Nat → Nat} {z : Nat} {d mi bc bs nc ns pc : Nat} {lo : yL} {st : List yV} {h : yHp} {K : yKo}
theorem ys_lookup {dflt : Int} {ps : Array (Int × Int)} {len t : Nat} {x off : Int} (hd : decode (sC S mi) pc = .ok (.lookupswitch dflt ps, len)) (hp : (ps.toList.zip (ps.toList.drop 1)).all (fun (a, next) => a.1 < next.1) = true) (ho : Op.lookupswitch.offset ps.toList dflt x = off) (ht : (pc : Int) + off = (t : Int)) (hk : yW l S D cy Fk z d mi bc bs K nc ns t lo st h) : yW l S D cy Fk z d mi bc bs K nc ns pc lo (yi x :: st) h := by
  intro p e s m args below meth c C ad0 n0 ad hA hN hB H locs ls lv vs ws hR hP hD hS hl hlo hst
  obtain ⟨v, vt, rfl, ⟨a, rfl, rfl⟩, hst⟩ := hst
  exact lv_lookup C.1 C.2.1 hd hp ho ht (hk p e s m args below meth c C ad0 n0 ad hA hN hB H locs ls lv _ ws hR hP hD hS hl hlo hst)
end Sy
