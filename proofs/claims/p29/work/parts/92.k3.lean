/-! THE CLASS: the two lookupswitches of holds. -/
section Sm
variable {l : Launch} {D : va_G} {cy : Nat → ClassId} {z d bc bs nc ns : Nat} {lo : yL} {st : List yV} {h : yHp} {K : yKo}
theorem d_48_27 : (match decode (sC zSS 48) 27 with | .ok (.lookupswitch dflt ps, len) => decide (dflt = 86) && decide (ps.toList = [(7, 50), (19, 33), (20, 58)]) && decide (len = 33) | _ => false) = true := by decide +kernel
theorem d_48_134 : (match decode (sC zSS 48) 134 with | .ok (.lookupswitch dflt ps, len) => decide (dflt = 60) && decide (ps.toList = [(60, 26), (62, 43)]) && decide (len = 26) | _ => false) = true := by decide +kernel
theorem e_48_27 {x : Int} (h1 : x = 7 → yW l zSS D cy zFk z d 48 bc bs K nc ns 77 lo st h) (h2 : x = 19 → yW l zSS D cy zFk z d 48 bc bs K nc ns 60 lo st h) (h3 : x = 20 → yW l zSS D cy zFk z d 48 bc bs K nc ns 85 lo st h) (h4 : x ≠ 7 → x ≠ 19 → x ≠ 20 → yW l zSS D cy zFk z d 48 bc bs K nc ns 113 lo st h) : yW l zSS D cy zFk z d 48 bc bs K nc ns 27 lo (yi x :: st) h := by
  have hr := d_48_27
  split at hr
  · rename_i dflt ps len hd
    simp only [Bool.and_eq_true, decide_eq_true_eq] at hr
    obtain ⟨⟨rfl, hps⟩, rfl⟩ := hr
    have hp : (ps.toList.zip (ps.toList.drop 1)).all (fun (a, next) => a.1 < next.1) = true := by rw [hps]; rfl
    by_cases c1 : x = 7
    · exact ys_lookup (t := 77) hd hp (off := 50) (by rw [hps, c1]; rfl) rfl (h1 c1)
    · by_cases c2 : x = 19
      · exact ys_lookup (t := 60) hd hp (off := 33) (by rw [hps, c2]; rfl) rfl (h2 c2)
      · by_cases c3 : x = 20
        · exact ys_lookup (t := 85) hd hp (off := 58) (by rw [hps, c3]; rfl) rfl (h3 c3)
        · refine ys_lookup (t := 113) hd hp (off := 86) ?_ rfl (h4 c1 c2 c3)
          rw [hps, Op.lookupswitch.offset_cons, if_neg (fun e => c1 (by omega)), Op.lookupswitch.offset_cons, if_neg (fun e => c2 (by omega)), Op.lookupswitch.offset_cons, if_neg (fun e => c3 (by omega))]
          rfl
  · cases hr
theorem e_48_134 {x : Int} (h1 : x = 60 → yW l zSS D cy zFk z d 48 bc bs K nc ns 160 lo st h) (h2 : x = 62 → yW l zSS D cy zFk z d 48 bc bs K nc ns 177 lo st h) (h4 : x ≠ 60 → x ≠ 62 → yW l zSS D cy zFk z d 48 bc bs K nc ns 194 lo st h) : yW l zSS D cy zFk z d 48 bc bs K nc ns 134 lo (yi x :: st) h := by
  have hr := d_48_134
  split at hr
  · rename_i dflt ps len hd
    simp only [Bool.and_eq_true, decide_eq_true_eq] at hr
    obtain ⟨⟨rfl, hps⟩, rfl⟩ := hr
    have hp : (ps.toList.zip (ps.toList.drop 1)).all (fun (a, next) => a.1 < next.1) = true := by rw [hps]; rfl
    by_cases c1 : x = 60
    · exact ys_lookup (t := 160) hd hp (off := 26) (by rw [hps, c1]; rfl) rfl (h1 c1)
    · by_cases c2 : x = 62
      · exact ys_lookup (t := 177) hd hp (off := 43) (by rw [hps, c2]; rfl) rfl (h2 c2)
      · refine ys_lookup (t := 194) hd hp (off := 60) ?_ rfl (h4 c1 c2)
        rw [hps, Op.lookupswitch.offset_cons, if_neg (fun e => c1 (by omega)), Op.lookupswitch.offset_cons, if_neg (fun e => c2 (by omega))]
        rfl
  · cases hr
end Sm
