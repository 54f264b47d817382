/-! printed by a program of mine (wip/whole/gen18.py): what the abstract machine rests on holds of this program -/
set_option maxRecDepth 100000 in
theorem zQ_0_ok : zW_0 = zQ_0.filterMap (fun i => lw_tbl[i]?) := by rfl
set_option maxRecDepth 100000 in
theorem zW_0_good : zW_0.all goodWord = true := by decide +kernel
set_option maxRecDepth 100000 in
theorem zQ_1_ok : zW_1 = zQ_1.filterMap (fun i => lw_tbl[i]?) := by rfl
set_option maxRecDepth 100000 in
theorem zW_1_good : zW_1.all goodWord = true := by decide +kernel
set_option maxRecDepth 100000 in
theorem zQ_2_ok : zW_2 = zQ_2.filterMap (fun i => lw_tbl[i]?) := by rfl
set_option maxRecDepth 100000 in
theorem zW_2_good : zW_2.all goodWord = true := by decide +kernel
set_option maxRecDepth 100000 in
theorem zQ_3_ok : zW_3 = zQ_3.filterMap (fun i => lw_tbl[i]?) := by rfl
set_option maxRecDepth 100000 in
theorem zW_3_good : zW_3.all goodWord = true := by decide +kernel
set_option maxRecDepth 100000 in
theorem zQ_4_ok : zW_4 = zQ_4.filterMap (fun i => lw_tbl[i]?) := by rfl
set_option maxRecDepth 100000 in
theorem zW_4_good : zW_4.all goodWord = true := by decide +kernel
set_option maxRecDepth 100000 in
theorem zQ_5_ok : zW_5 = zQ_5.filterMap (fun i => lw_tbl[i]?) := by rfl
set_option maxRecDepth 100000 in
theorem zW_5_good : zW_5.all goodWord = true := by decide +kernel
set_option maxRecDepth 100000 in
theorem zQ_6_ok : zW_6 = zQ_6.filterMap (fun i => lw_tbl[i]?) := by rfl
set_option maxRecDepth 100000 in
theorem zW_6_good : zW_6.all goodWord = true := by decide +kernel
set_option maxRecDepth 100000 in
theorem zQ_7_ok : zW_7 = zQ_7.filterMap (fun i => lw_tbl[i]?) := by rfl
set_option maxRecDepth 100000 in
theorem zW_7_good : zW_7.all goodWord = true := by decide +kernel
set_option maxRecDepth 100000 in
theorem zQ_8_ok : zW_8 = zQ_8.filterMap (fun i => lw_tbl[i]?) := by rfl
set_option maxRecDepth 100000 in
theorem zW_8_good : zW_8.all goodWord = true := by decide +kernel
set_option maxRecDepth 100000 in
theorem zQ_9_ok : zW_9 = zQ_9.filterMap (fun i => lw_tbl[i]?) := by rfl
set_option maxRecDepth 100000 in
theorem zW_9_good : zW_9.all goodWord = true := by decide +kernel
set_option maxRecDepth 100000 in
theorem zQ_10_ok : zW_10 = zQ_10.filterMap (fun i => lw_tbl[i]?) := by rfl
set_option maxRecDepth 100000 in
theorem zW_10_good : zW_10.all goodWord = true := by decide +kernel
set_option maxRecDepth 100000 in
theorem zQ_lay_ok : zW_lay = zQ_lay.filterMap (fun i => lw_tbl[i]?) := by rfl
set_option maxRecDepth 100000 in
theorem zW_lay_good : zW_lay.all goodWord = true := by decide +kernel
theorem zs_pls {w : Jvm.Cond} {ps : List Nat} {ws : List Jvm.Cond} (hp : ws = ps.filterMap (fun i => lw_tbl[i]?)) (hw : w ∈ ws) : w ∈ lw_tbl := by
  rw [hp] at hw
  obtain ⟨i, -, hi⟩ := List.mem_filterMap.mp hw
  exact List.mem_of_getElem? hi
theorem zWS_in : ∀ w ∈ zWS, w ∈ lw_tbl := fun w h => (List.mem_append.mp h).elim (fun h => zs_pls zQ_0_ok h) (fun h => (List.mem_append.mp h).elim (fun h => zs_pls zQ_1_ok h) (fun h => (List.mem_append.mp h).elim (fun h => zs_pls zQ_2_ok h) (fun h => (List.mem_append.mp h).elim (fun h => zs_pls zQ_3_ok h) (fun h => (List.mem_append.mp h).elim (fun h => zs_pls zQ_4_ok h) (fun h => (List.mem_append.mp h).elim (fun h => zs_pls zQ_5_ok h) (fun h => (List.mem_append.mp h).elim (fun h => zs_pls zQ_6_ok h) (fun h => (List.mem_append.mp h).elim (fun h => zs_pls zQ_7_ok h) (fun h => (List.mem_append.mp h).elim (fun h => zs_pls zQ_8_ok h) (fun h => (List.mem_append.mp h).elim (fun h => zs_pls zQ_9_ok h) (fun h => (List.mem_append.mp h).elim (fun h => zs_pls zQ_10_ok h) (fun h => zs_pls zQ_lay_ok h)))))))))))
theorem zWS_good : ∀ w ∈ zWS, goodWord w = true := fun w h => (List.mem_append.mp h).elim (fun h => List.all_eq_true.mp zW_0_good w h) (fun h => (List.mem_append.mp h).elim (fun h => List.all_eq_true.mp zW_1_good w h) (fun h => (List.mem_append.mp h).elim (fun h => List.all_eq_true.mp zW_2_good w h) (fun h => (List.mem_append.mp h).elim (fun h => List.all_eq_true.mp zW_3_good w h) (fun h => (List.mem_append.mp h).elim (fun h => List.all_eq_true.mp zW_4_good w h) (fun h => (List.mem_append.mp h).elim (fun h => List.all_eq_true.mp zW_5_good w h) (fun h => (List.mem_append.mp h).elim (fun h => List.all_eq_true.mp zW_6_good w h) (fun h => (List.mem_append.mp h).elim (fun h => List.all_eq_true.mp zW_7_good w h) (fun h => (List.mem_append.mp h).elim (fun h => List.all_eq_true.mp zW_8_good w h) (fun h => (List.mem_append.mp h).elim (fun h => List.all_eq_true.mp zW_9_good w h) (fun h => (List.mem_append.mp h).elim (fun h => List.all_eq_true.mp zW_10_good w h) (fun h => List.all_eq_true.mp zW_lay_good w h)))))))))))
theorem zs_layin {w : Jvm.Cond} (h : w ∈ zW_lay) : w ∈ zWS := List.mem_append_right _ (List.mem_append_right _ (List.mem_append_right _ (List.mem_append_right _ (List.mem_append_right _ (List.mem_append_right _ (List.mem_append_right _ (List.mem_append_right _ (List.mem_append_right _ (List.mem_append_right _ (List.mem_append_right _ (h)))))))))))
theorem zs_cls : zCls zSS := by
  intro ci C T N h
  match ci, h with
  | 0, h => cases h; exact ⟨fun w h => zs_layin (List.mem_append_left _ h), ⟨tyX0, tyX0_ok⟩, nmX0⟩
  | 1, h => cases h; exact ⟨fun w h => zs_layin (List.mem_append_right _ (List.mem_append_left _ h)), ⟨tyX1, tyX1_ok⟩, nmX1⟩
  | 2, h => cases h; exact ⟨fun w h => zs_layin (List.mem_append_right _ (List.mem_append_right _ (List.mem_append_left _ h))), ⟨tyX2, tyX2_ok⟩, nmX2⟩
  | 3, h => cases h; exact ⟨fun w h => zs_layin (List.mem_append_right _ (List.mem_append_right _ (List.mem_append_right _ (List.mem_append_left _ h)))), ⟨tyX3, tyX3_ok⟩, nmX3⟩
  | 4, h => cases h; exact ⟨fun w h => zs_layin (List.mem_append_right _ (List.mem_append_right _ (List.mem_append_right _ (List.mem_append_right _ (List.mem_append_left _ h))))), ⟨tyX4, tyX4_ok⟩, nmX4⟩
  | 5, h => cases h; exact ⟨fun w h => zs_layin (List.mem_append_right _ (List.mem_append_right _ (List.mem_append_right _ (List.mem_append_right _ (List.mem_append_right _ (List.mem_append_left _ h)))))), ⟨tyX5, tyX5_ok⟩, nmX5⟩
  | 6, h => cases h; exact ⟨fun w h => zs_layin (List.mem_append_right _ (List.mem_append_right _ (List.mem_append_right _ (List.mem_append_right _ (List.mem_append_right _ (List.mem_append_right _ (List.mem_append_left _ h))))))), ⟨tyX6, tyX6_ok⟩, nmX6⟩
  | 7, h => cases h; exact ⟨fun w h => zs_layin (List.mem_append_right _ (List.mem_append_right _ (List.mem_append_right _ (List.mem_append_right _ (List.mem_append_right _ (List.mem_append_right _ (List.mem_append_right _ (List.mem_append_left _ h)))))))), ⟨tyX7, tyX7_ok⟩, nmX7⟩
  | 8, h => cases h; exact ⟨fun w h => zs_layin (List.mem_append_right _ (List.mem_append_right _ (List.mem_append_right _ (List.mem_append_right _ (List.mem_append_right _ (List.mem_append_right _ (List.mem_append_right _ (List.mem_append_right _ (List.mem_append_left _ h))))))))), ⟨tyX8, tyX8_ok⟩, nmX8⟩
  | 9, h => cases h; exact ⟨fun w h => zs_layin (List.mem_append_right _ (List.mem_append_right _ (List.mem_append_right _ (List.mem_append_right _ (List.mem_append_right _ (List.mem_append_right _ (List.mem_append_right _ (List.mem_append_right _ (List.mem_append_right _ (List.mem_append_left _ h)))))))))), ⟨tyX9, tyX9_ok⟩, nmX9⟩
  | 10, h => cases h; exact ⟨fun w h => zs_layin (List.mem_append_right _ (List.mem_append_right _ (List.mem_append_right _ (List.mem_append_right _ (List.mem_append_right _ (List.mem_append_right _ (List.mem_append_right _ (List.mem_append_right _ (List.mem_append_right _ (List.mem_append_right _ (List.mem_append_left _ h))))))))))), ⟨tyX10, tyX10_ok⟩, nmX10⟩
  | 11, h => cases h; exact ⟨fun w h => zs_layin (List.mem_append_right _ (List.mem_append_right _ (List.mem_append_right _ (List.mem_append_right _ (List.mem_append_right _ (List.mem_append_right _ (List.mem_append_right _ (List.mem_append_right _ (List.mem_append_right _ (List.mem_append_right _ (List.mem_append_right _ (h)))))))))))), ⟨tyX11, tyX11_ok⟩, nmX11⟩
  | k + 12, h => cases h
theorem zs_bl0 : ∀ a ∈ ([zRef none, .inl 0] : List zV), zBl a := by
  intro a ha
  simp only [List.mem_cons, List.not_mem_nil, or_false] at ha
  rcases ha with rfl | rfl <;> first | exact Or.inl rfl | exact Or.inr (Or.inl rfl) | exact Or.inr (Or.inr rfl)
set_option maxRecDepth 100000 in
theorem zs_dv0 : ∀ j, j < 2 → defaultValue (tyX0 j) = vp_V (([zRef none, .inl 0] : List zV).map zDv) j := by decide +kernel
set_option maxRecDepth 100000 in
theorem zs_in1_0 : Jvm.Cond.instantiable RX0 2 ∈ zWS := by decide +kernel
set_option maxRecDepth 100000 in
theorem zs_in2_0 : Jvm.Cond.initialized RX0 ∈ zWS := by decide +kernel
theorem zs_bl1 : ∀ a ∈ ([.inl 0, .inl 0, zRef none, zRef none, zRef none, .inl 0, zRef none, zRef none, zRef none, zRef none, zRef none, zRef none, zRef none, zRef none, .inl 0] : List zV), zBl a := by
  intro a ha
  simp only [List.mem_cons, List.not_mem_nil, or_false] at ha
  rcases ha with rfl | rfl | rfl | rfl | rfl | rfl | rfl | rfl | rfl | rfl | rfl | rfl | rfl | rfl | rfl <;> first | exact Or.inl rfl | exact Or.inr (Or.inl rfl) | exact Or.inr (Or.inr rfl)
set_option maxRecDepth 100000 in
theorem zs_dv1 : ∀ j, j < 15 → defaultValue (tyX1 j) = vp_V (([.inl 0, .inl 0, zRef none, zRef none, zRef none, .inl 0, zRef none, zRef none, zRef none, zRef none, zRef none, zRef none, zRef none, zRef none, .inl 0] : List zV).map zDv) j := by decide +kernel
set_option maxRecDepth 100000 in
theorem zs_in1_1 : Jvm.Cond.instantiable RX1 15 ∈ zWS := by decide +kernel
set_option maxRecDepth 100000 in
theorem zs_in2_1 : Jvm.Cond.initialized RX1 ∈ zWS := by decide +kernel
theorem zs_bl2 : ∀ a ∈ ([.inl 0, zRef none] : List zV), zBl a := by
  intro a ha
  simp only [List.mem_cons, List.not_mem_nil, or_false] at ha
  rcases ha with rfl | rfl <;> first | exact Or.inl rfl | exact Or.inr (Or.inl rfl) | exact Or.inr (Or.inr rfl)
set_option maxRecDepth 100000 in
theorem zs_dv2 : ∀ j, j < 2 → defaultValue (tyX2 j) = vp_V (([.inl 0, zRef none] : List zV).map zDv) j := by decide +kernel
set_option maxRecDepth 100000 in
theorem zs_in1_2 : Jvm.Cond.instantiable RX2 2 ∈ zWS := by decide +kernel
set_option maxRecDepth 100000 in
theorem zs_in2_2 : Jvm.Cond.initialized RX2 ∈ zWS := by decide +kernel
theorem zs_bl3 : ∀ a ∈ ([zRef none, .inl 0, .inl 0, .inl 0, .inl 0, .inl 0, .inl 0, zLng, .inl 0, .inl 0, .inl 0, .inl 0] : List zV), zBl a := by
  intro a ha
  simp only [List.mem_cons, List.not_mem_nil, or_false] at ha
  rcases ha with rfl | rfl | rfl | rfl | rfl | rfl | rfl | rfl | rfl | rfl | rfl | rfl <;> first | exact Or.inl rfl | exact Or.inr (Or.inl rfl) | exact Or.inr (Or.inr rfl)
set_option maxRecDepth 100000 in
theorem zs_dv3 : ∀ j, j < 12 → defaultValue (tyX3 j) = vp_V (([zRef none, .inl 0, .inl 0, .inl 0, .inl 0, .inl 0, .inl 0, zLng, .inl 0, .inl 0, .inl 0, .inl 0] : List zV).map zDv) j := by decide +kernel
set_option maxRecDepth 100000 in
theorem zs_in1_3 : Jvm.Cond.instantiable RX3 12 ∈ zWS := by decide +kernel
set_option maxRecDepth 100000 in
theorem zs_in2_3 : Jvm.Cond.initialized RX3 ∈ zWS := by decide +kernel
theorem zs_bl4 : ∀ a ∈ ([.inl 0, zRef none, zRef none, zRef none, .inl 0] : List zV), zBl a := by
  intro a ha
  simp only [List.mem_cons, List.not_mem_nil, or_false] at ha
  rcases ha with rfl | rfl | rfl | rfl | rfl <;> first | exact Or.inl rfl | exact Or.inr (Or.inl rfl) | exact Or.inr (Or.inr rfl)
set_option maxRecDepth 100000 in
theorem zs_dv4 : ∀ j, j < 5 → defaultValue (tyX4 j) = vp_V (([.inl 0, zRef none, zRef none, zRef none, .inl 0] : List zV).map zDv) j := by decide +kernel
set_option maxRecDepth 100000 in
theorem zs_in1_4 : Jvm.Cond.instantiable RX4 5 ∈ zWS := by decide +kernel
set_option maxRecDepth 100000 in
theorem zs_in2_4 : Jvm.Cond.initialized RX4 ∈ zWS := by decide +kernel
theorem zs_bl5 : ∀ a ∈ ([.inl 0, zRef none, zRef none, zRef none, zRef none, zRef none, zRef none, zRef none, zRef none, zRef none, zRef none, zRef none, .inl 0, zRef none] : List zV), zBl a := by
  intro a ha
  simp only [List.mem_cons, List.not_mem_nil, or_false] at ha
  rcases ha with rfl | rfl | rfl | rfl | rfl | rfl | rfl | rfl | rfl | rfl | rfl | rfl | rfl | rfl <;> first | exact Or.inl rfl | exact Or.inr (Or.inl rfl) | exact Or.inr (Or.inr rfl)
set_option maxRecDepth 100000 in
theorem zs_dv5 : ∀ j, j < 14 → defaultValue (tyX5 j) = vp_V (([.inl 0, zRef none, zRef none, zRef none, zRef none, zRef none, zRef none, zRef none, zRef none, zRef none, zRef none, zRef none, .inl 0, zRef none] : List zV).map zDv) j := by decide +kernel
set_option maxRecDepth 100000 in
theorem zs_in1_5 : Jvm.Cond.instantiable RX5 14 ∈ zWS := by decide +kernel
set_option maxRecDepth 100000 in
theorem zs_in2_5 : Jvm.Cond.initialized RX5 ∈ zWS := by decide +kernel
theorem zs_bl6 : ∀ a ∈ ([.inl 0, .inl 0, .inl 0, zRef none, zRef none, zRef none, zRef none, zRef none, zRef none, zRef none, zRef none, .inl 0, zRef none, .inl 0] : List zV), zBl a := by
  intro a ha
  simp only [List.mem_cons, List.not_mem_nil, or_false] at ha
  rcases ha with rfl | rfl | rfl | rfl | rfl | rfl | rfl | rfl | rfl | rfl | rfl | rfl | rfl | rfl <;> first | exact Or.inl rfl | exact Or.inr (Or.inl rfl) | exact Or.inr (Or.inr rfl)
set_option maxRecDepth 100000 in
theorem zs_dv6 : ∀ j, j < 14 → defaultValue (tyX6 j) = vp_V (([.inl 0, .inl 0, .inl 0, zRef none, zRef none, zRef none, zRef none, zRef none, zRef none, zRef none, zRef none, .inl 0, zRef none, .inl 0] : List zV).map zDv) j := by decide +kernel
set_option maxRecDepth 100000 in
theorem zs_in1_6 : Jvm.Cond.instantiable RX6 14 ∈ zWS := by decide +kernel
set_option maxRecDepth 100000 in
theorem zs_in2_6 : Jvm.Cond.initialized RX6 ∈ zWS := by decide +kernel
theorem zs_bl7 : ∀ a ∈ ([zRef none, zRef none, zRef none, zRef none, zRef none, zRef none, zRef none, .inl 0] : List zV), zBl a := by
  intro a ha
  simp only [List.mem_cons, List.not_mem_nil, or_false] at ha
  rcases ha with rfl | rfl | rfl | rfl | rfl | rfl | rfl | rfl <;> first | exact Or.inl rfl | exact Or.inr (Or.inl rfl) | exact Or.inr (Or.inr rfl)
set_option maxRecDepth 100000 in
theorem zs_dv7 : ∀ j, j < 8 → defaultValue (tyX7 j) = vp_V (([zRef none, zRef none, zRef none, zRef none, zRef none, zRef none, zRef none, .inl 0] : List zV).map zDv) j := by decide +kernel
set_option maxRecDepth 100000 in
theorem zs_in1_7 : Jvm.Cond.instantiable RX7 8 ∈ zWS := by decide +kernel
set_option maxRecDepth 100000 in
theorem zs_in2_7 : Jvm.Cond.initialized RX7 ∈ zWS := by decide +kernel
theorem zs_bl8 : ∀ a ∈ ([zRef none, zRef none, zRef none, zRef none, .inl 0] : List zV), zBl a := by
  intro a ha
  simp only [List.mem_cons, List.not_mem_nil, or_false] at ha
  rcases ha with rfl | rfl | rfl | rfl | rfl <;> first | exact Or.inl rfl | exact Or.inr (Or.inl rfl) | exact Or.inr (Or.inr rfl)
set_option maxRecDepth 100000 in
theorem zs_dv8 : ∀ j, j < 5 → defaultValue (tyX8 j) = vp_V (([zRef none, zRef none, zRef none, zRef none, .inl 0] : List zV).map zDv) j := by decide +kernel
set_option maxRecDepth 100000 in
theorem zs_in1_8 : Jvm.Cond.instantiable RX8 5 ∈ zWS := by decide +kernel
set_option maxRecDepth 100000 in
theorem zs_in2_8 : Jvm.Cond.initialized RX8 ∈ zWS := by decide +kernel
theorem zs_bl9 : ∀ a ∈ ([zRef none, zRef none, zRef none, zRef none] : List zV), zBl a := by
  intro a ha
  simp only [List.mem_cons, List.not_mem_nil, or_false] at ha
  rcases ha with rfl | rfl | rfl | rfl <;> first | exact Or.inl rfl | exact Or.inr (Or.inl rfl) | exact Or.inr (Or.inr rfl)
set_option maxRecDepth 100000 in
theorem zs_dv9 : ∀ j, j < 4 → defaultValue (tyX9 j) = vp_V (([zRef none, zRef none, zRef none, zRef none] : List zV).map zDv) j := by decide +kernel
set_option maxRecDepth 100000 in
theorem zs_in1_9 : Jvm.Cond.instantiable RX9 4 ∈ zWS := by decide +kernel
set_option maxRecDepth 100000 in
theorem zs_in2_9 : Jvm.Cond.initialized RX9 ∈ zWS := by decide +kernel
theorem zs_bl10 : ∀ a ∈ ([zRef none, zRef none, zRef none, zRef none, zRef none, zRef none, zRef none, .inl 0, .inl 0, .inl 0] : List zV), zBl a := by
  intro a ha
  simp only [List.mem_cons, List.not_mem_nil, or_false] at ha
  rcases ha with rfl | rfl | rfl | rfl | rfl | rfl | rfl | rfl | rfl | rfl <;> first | exact Or.inl rfl | exact Or.inr (Or.inl rfl) | exact Or.inr (Or.inr rfl)
set_option maxRecDepth 100000 in
theorem zs_dv10 : ∀ j, j < 10 → defaultValue (tyX10 j) = vp_V (([zRef none, zRef none, zRef none, zRef none, zRef none, zRef none, zRef none, .inl 0, .inl 0, .inl 0] : List zV).map zDv) j := by decide +kernel
set_option maxRecDepth 100000 in
theorem zs_in1_10 : Jvm.Cond.instantiable RX10 10 ∈ zWS := by decide +kernel
set_option maxRecDepth 100000 in
theorem zs_in2_10 : Jvm.Cond.initialized RX10 ∈ zWS := by decide +kernel
theorem zs_bl11 : ∀ a ∈ ([.inl 0, zRef none, .inl 0, .inl 0, .inl 0, .inl 0, zRef none, zRef none, zRef none, zRef none, zRef none, .inl 0, .inl 0, .inl 0, .inl 0, .inl 0, .inl 0, zLng, .inl 0, .inl 0, .inl 0, .inl 0, .inl 0, .inl 0, zRef none, zRef none, zRef none, zRef none, .inl 0, .inl 0, .inl 0, .inl 0, .inl 0, zRef none, zRef none, .inl 0, zRef none, zRef none, zRef none, zRef none, .inl 0, .inl 0, .inl 0, zRef none, .inl 0, zRef none, .inl 0, zRef none, .inl 0, .inl 0, .inl 0, .inl 0, .inl 0, zRef none, zRef none, zRef none, zRef none] : List zV), zBl a := by
  intro a ha
  simp only [List.mem_cons, List.not_mem_nil, or_false] at ha
  rcases ha with rfl | rfl | rfl | rfl | rfl | rfl | rfl | rfl | rfl | rfl | rfl | rfl | rfl | rfl | rfl | rfl | rfl | rfl | rfl | rfl | rfl | rfl | rfl | rfl | rfl | rfl | rfl | rfl | rfl | rfl | rfl | rfl | rfl | rfl | rfl | rfl | rfl | rfl | rfl | rfl | rfl | rfl | rfl | rfl | rfl | rfl | rfl | rfl | rfl | rfl | rfl | rfl | rfl | rfl | rfl | rfl | rfl <;> first | exact Or.inl rfl | exact Or.inr (Or.inl rfl) | exact Or.inr (Or.inr rfl)
set_option maxRecDepth 100000 in
theorem zs_dv11 : ∀ j, j < 57 → defaultValue (tyX11 j) = vp_V (([.inl 0, zRef none, .inl 0, .inl 0, .inl 0, .inl 0, zRef none, zRef none, zRef none, zRef none, zRef none, .inl 0, .inl 0, .inl 0, .inl 0, .inl 0, .inl 0, zLng, .inl 0, .inl 0, .inl 0, .inl 0, .inl 0, .inl 0, zRef none, zRef none, zRef none, zRef none, .inl 0, .inl 0, .inl 0, .inl 0, .inl 0, zRef none, zRef none, .inl 0, zRef none, zRef none, zRef none, zRef none, .inl 0, .inl 0, .inl 0, zRef none, .inl 0, zRef none, .inl 0, zRef none, .inl 0, .inl 0, .inl 0, .inl 0, .inl 0, zRef none, zRef none, zRef none, zRef none] : List zV).map zDv) j := by decide +kernel
set_option maxRecDepth 100000 in
theorem zs_in1_11 : Jvm.Cond.instantiable RX11 57 ∈ zWS := by decide +kernel
set_option maxRecDepth 100000 in
theorem zs_in2_11 : Jvm.Cond.initialized RX11 ∈ zWS := by decide +kernel
theorem zs_mk : zMk zSS zGG := by
  intro ci fs h
  match ci, h with
  | 0, h =>
    cases h
    exact ⟨RX0, TX0, 2, tyX0, rfl, tyX0_ok, zs_bl0, zs_dv0, zs_in1_0, zs_in2_0⟩
  | 1, h =>
    cases h
    exact ⟨RX1, TX1, 15, tyX1, rfl, tyX1_ok, zs_bl1, zs_dv1, zs_in1_1, zs_in2_1⟩
  | 2, h =>
    cases h
    exact ⟨RX2, TX2, 2, tyX2, rfl, tyX2_ok, zs_bl2, zs_dv2, zs_in1_2, zs_in2_2⟩
  | 3, h =>
    cases h
    exact ⟨RX3, TX3, 12, tyX3, rfl, tyX3_ok, zs_bl3, zs_dv3, zs_in1_3, zs_in2_3⟩
  | 4, h =>
    cases h
    exact ⟨RX4, TX4, 5, tyX4, rfl, tyX4_ok, zs_bl4, zs_dv4, zs_in1_4, zs_in2_4⟩
  | 5, h =>
    cases h
    exact ⟨RX5, TX5, 14, tyX5, rfl, tyX5_ok, zs_bl5, zs_dv5, zs_in1_5, zs_in2_5⟩
  | 6, h =>
    cases h
    exact ⟨RX6, TX6, 14, tyX6, rfl, tyX6_ok, zs_bl6, zs_dv6, zs_in1_6, zs_in2_6⟩
  | 7, h =>
    cases h
    exact ⟨RX7, TX7, 8, tyX7, rfl, tyX7_ok, zs_bl7, zs_dv7, zs_in1_7, zs_in2_7⟩
  | 8, h =>
    cases h
    exact ⟨RX8, TX8, 5, tyX8, rfl, tyX8_ok, zs_bl8, zs_dv8, zs_in1_8, zs_in2_8⟩
  | 9, h =>
    cases h
    exact ⟨RX9, TX9, 4, tyX9, rfl, tyX9_ok, zs_bl9, zs_dv9, zs_in1_9, zs_in2_9⟩
  | 10, h =>
    cases h
    exact ⟨RX10, TX10, 10, tyX10, rfl, tyX10_ok, zs_bl10, zs_dv10, zs_in1_10, zs_in2_10⟩
  | 11, h =>
    cases h
    exact ⟨RX11, TX11, 57, tyX11, rfl, tyX11_ok, zs_bl11, zs_dv11, zs_in1_11, zs_in2_11⟩
  | k + 12, h => cases h
theorem zs_ra_ok : zRaOk zSS := ⟨⟨TX5, 14, rfl⟩, ⟨TX9, 4, rfl⟩⟩
set_option maxRecDepth 100000 in
theorem zs_nt : zNt zSS := by
  refine ⟨?_, ?_, ?_, ?_, ?_, ?_, ⟨?_, ?_⟩, ⟨?_, ?_⟩⟩ <;> decide +kernel
set_option maxRecDepth 100000 in
theorem zs_ac : Jvm.Cond.arrayClass .byte ∈ sW zSS ∧ Jvm.Cond.arrayClass .int ∈ sW zSS ∧ Jvm.Cond.arrayClass .long ∈ sW zSS ∧ Jvm.Cond.arrayClass .boolean ∈ sW zSS := by
  refine ⟨?_, ?_, ?_, ?_⟩ <;> decide +kernel
