/-! printed by wip/whole/y/gen67.py: what the exact machine rests on holds of this program -/
set_option maxRecDepth 100000 in
theorem jWs_in : ∀ w ∈ jWs, w ∈ lw_tbl := by decide +kernel
set_option maxRecDepth 100000 in
theorem jWs_good : ∀ w ∈ jWs, goodWord w = true := by decide +kernel
set_option maxRecDepth 100000 in
theorem xG_in : ∀ w ∈ xG, w ∈ lw_tbl := by decide +kernel
set_option maxRecDepth 100000 in
theorem xG_good : ∀ w ∈ xG, goodWord w = true := by decide +kernel
set_option maxRecDepth 100000 in
theorem xB_in : ∀ w ∈ xB, w ∈ lw_tbl := by decide +kernel
set_option maxRecDepth 100000 in
theorem xAt_bad : ∀ w ∈ (vx_at0 "ChairAlley" 126 xE xNm).filter (fun w => !goodWord w), w ∈ xB := by decide +kernel
set_option maxRecDepth 100000 in
theorem xAt_ot : ∀ w ∈ Jvm.Cond.classLink "ChairAlley" 124 xE :: Jvm.Cond.initialized xE :: vx_at0 "ChairAlley" 126 xE xNm, vx_ot w = true := by decide +kernel
set_option maxRecDepth 100000 in
theorem zQ_0_ok : zW_0 = zQ_0.filterMap (fun i => lw_tbl[i]?) := by rfl
set_option maxRecDepth 100000 in
theorem zW_0_good : zW_0.all goodWord = true := by decide +kernel
set_option maxRecDepth 100000 in
theorem zQ_1_ok : zW_1 = zQ_1.filterMap (fun i => lw_tbl[i]?) := by rfl
set_option maxRecDepth 100000 in
theorem zW_1_good : zW_1.all goodWord = true := by decide +kernel
set_option maxRecDepth 100000 in
theorem zQ_2_ok : zW_2 = zQ_2.filterMap (fun i => lw_tbl[i]?) := by rfl
set_option maxRecDepth 100000 in
theorem zW_2_good : zW_2.all goodWord = true := by decide +kernel
set_option maxRecDepth 100000 in
theorem zQ_3_ok : zW_3 = zQ_3.filterMap (fun i => lw_tbl[i]?) := by rfl
set_option maxRecDepth 100000 in
theorem zW_3_good : zW_3.all goodWord = true := by decide +kernel
set_option maxRecDepth 100000 in
theorem zQ_4_ok : zW_4 = zQ_4.filterMap (fun i => lw_tbl[i]?) := by rfl
set_option maxRecDepth 100000 in
theorem zW_4_good : zW_4.all goodWord = true := by decide +kernel
set_option maxRecDepth 100000 in
theorem zQ_5_ok : zW_5 = zQ_5.filterMap (fun i => lw_tbl[i]?) := by rfl
set_option maxRecDepth 100000 in
theorem zW_5_good : zW_5.all goodWord = true := by decide +kernel
set_option maxRecDepth 100000 in
theorem zQ_6_ok : zW_6 = zQ_6.filterMap (fun i => lw_tbl[i]?) := by rfl
set_option maxRecDepth 100000 in
theorem zW_6_good : zW_6.all goodWord = true := by decide +kernel
set_option maxRecDepth 100000 in
theorem zQ_7_ok : zW_7 = zQ_7.filterMap (fun i => lw_tbl[i]?) := by rfl
set_option maxRecDepth 100000 in
theorem zW_7_good : zW_7.all goodWord = true := by decide +kernel
set_option maxRecDepth 100000 in
theorem zQ_8_ok : zW_8 = zQ_8.filterMap (fun i => lw_tbl[i]?) := by rfl
set_option maxRecDepth 100000 in
theorem zW_8_good : zW_8.all goodWord = true := by decide +kernel
set_option maxRecDepth 100000 in
theorem zQ_9_ok : zW_9 = zQ_9.filterMap (fun i => lw_tbl[i]?) := by rfl
set_option maxRecDepth 100000 in
theorem zW_9_good : zW_9.all goodWord = true := by decide +kernel
set_option maxRecDepth 100000 in
theorem zQ_10_ok : zW_10 = zQ_10.filterMap (fun i => lw_tbl[i]?) := by rfl
set_option maxRecDepth 100000 in
theorem zW_10_good : zW_10.all goodWord = true := by decide +kernel
set_option maxRecDepth 100000 in
theorem zQ_11_ok : zW_11 = zQ_11.filterMap (fun i => lw_tbl[i]?) := by rfl
set_option maxRecDepth 100000 in
theorem zW_11_good : zW_11.all goodWord = true := by decide +kernel
set_option maxRecDepth 100000 in
theorem zQ_12_ok : zW_12 = zQ_12.filterMap (fun i => lw_tbl[i]?) := by rfl
set_option maxRecDepth 100000 in
theorem zW_12_good : zW_12.all goodWord = true := by decide +kernel
set_option maxRecDepth 100000 in
theorem zQ_13_ok : zW_13 = zQ_13.filterMap (fun i => lw_tbl[i]?) := by rfl
set_option maxRecDepth 100000 in
theorem zW_13_good : zW_13.all goodWord = true := by decide +kernel
set_option maxRecDepth 100000 in
theorem zQ_14_ok : zW_14 = zQ_14.filterMap (fun i => lw_tbl[i]?) := by rfl
set_option maxRecDepth 100000 in
theorem zW_14_good : zW_14.all goodWord = true := by decide +kernel
set_option maxRecDepth 100000 in
theorem zQ_15_ok : zW_15 = zQ_15.filterMap (fun i => lw_tbl[i]?) := by rfl
set_option maxRecDepth 100000 in
theorem zW_15_good : zW_15.all goodWord = true := by decide +kernel
set_option maxRecDepth 100000 in
theorem zQ_16_ok : zW_16 = zQ_16.filterMap (fun i => lw_tbl[i]?) := by rfl
set_option maxRecDepth 100000 in
theorem zW_16_good : zW_16.all goodWord = true := by decide +kernel
set_option maxRecDepth 100000 in
theorem zQ_lay_ok : zW_lay = zQ_lay.filterMap (fun i => lw_tbl[i]?) := by rfl
set_option maxRecDepth 100000 in
theorem zW_lay_good : zW_lay.all goodWord = true := by decide +kernel
theorem zs_pls {w : Jvm.Cond} {ps : List Nat} {ws : List Jvm.Cond} (hp : ws = ps.filterMap (fun i => lw_tbl[i]?)) (hw : w ∈ ws) : w ∈ lw_tbl := by
  rw [hp] at hw
  obtain ⟨i, -, hi⟩ := List.mem_filterMap.mp hw
  exact List.mem_of_getElem? hi
theorem zWS_in : ∀ w ∈ zWS, w ∈ lw_tbl := fun w h => (List.mem_append.mp h).elim (fun h => zs_pls zQ_0_ok h) (fun h => (List.mem_append.mp h).elim (fun h => zs_pls zQ_1_ok h) (fun h => (List.mem_append.mp h).elim (fun h => zs_pls zQ_2_ok h) (fun h => (List.mem_append.mp h).elim (fun h => zs_pls zQ_3_ok h) (fun h => (List.mem_append.mp h).elim (fun h => zs_pls zQ_4_ok h) (fun h => (List.mem_append.mp h).elim (fun h => zs_pls zQ_5_ok h) (fun h => (List.mem_append.mp h).elim (fun h => zs_pls zQ_6_ok h) (fun h => (List.mem_append.mp h).elim (fun h => zs_pls zQ_7_ok h) (fun h => (List.mem_append.mp h).elim (fun h => zs_pls zQ_8_ok h) (fun h => (List.mem_append.mp h).elim (fun h => zs_pls zQ_9_ok h) (fun h => (List.mem_append.mp h).elim (fun h => zs_pls zQ_10_ok h) (fun h => (List.mem_append.mp h).elim (fun h => zs_pls zQ_11_ok h) (fun h => (List.mem_append.mp h).elim (fun h => zs_pls zQ_12_ok h) (fun h => (List.mem_append.mp h).elim (fun h => zs_pls zQ_13_ok h) (fun h => (List.mem_append.mp h).elim (fun h => zs_pls zQ_14_ok h) (fun h => (List.mem_append.mp h).elim (fun h => zs_pls zQ_15_ok h) (fun h => (List.mem_append.mp h).elim (fun h => zs_pls zQ_16_ok h) (fun h => (List.mem_append.mp h).elim (fun h => jWs_in w h) (fun h => (List.mem_append.mp h).elim (fun h => xG_in w h) (fun h => zs_pls zQ_lay_ok h)))))))))))))))))))
theorem zWS_good : ∀ w ∈ zWS, goodWord w = true := fun w h => (List.mem_append.mp h).elim (fun h => List.all_eq_true.mp zW_0_good w h) (fun h => (List.mem_append.mp h).elim (fun h => List.all_eq_true.mp zW_1_good w h) (fun h => (List.mem_append.mp h).elim (fun h => List.all_eq_true.mp zW_2_good w h) (fun h => (List.mem_append.mp h).elim (fun h => List.all_eq_true.mp zW_3_good w h) (fun h => (List.mem_append.mp h).elim (fun h => List.all_eq_true.mp zW_4_good w h) (fun h => (List.mem_append.mp h).elim (fun h => List.all_eq_true.mp zW_5_good w h) (fun h => (List.mem_append.mp h).elim (fun h => List.all_eq_true.mp zW_6_good w h) (fun h => (List.mem_append.mp h).elim (fun h => List.all_eq_true.mp zW_7_good w h) (fun h => (List.mem_append.mp h).elim (fun h => List.all_eq_true.mp zW_8_good w h) (fun h => (List.mem_append.mp h).elim (fun h => List.all_eq_true.mp zW_9_good w h) (fun h => (List.mem_append.mp h).elim (fun h => List.all_eq_true.mp zW_10_good w h) (fun h => (List.mem_append.mp h).elim (fun h => List.all_eq_true.mp zW_11_good w h) (fun h => (List.mem_append.mp h).elim (fun h => List.all_eq_true.mp zW_12_good w h) (fun h => (List.mem_append.mp h).elim (fun h => List.all_eq_true.mp zW_13_good w h) (fun h => (List.mem_append.mp h).elim (fun h => List.all_eq_true.mp zW_14_good w h) (fun h => (List.mem_append.mp h).elim (fun h => List.all_eq_true.mp zW_15_good w h) (fun h => (List.mem_append.mp h).elim (fun h => List.all_eq_true.mp zW_16_good w h) (fun h => (List.mem_append.mp h).elim (fun h => jWs_good w h) (fun h => (List.mem_append.mp h).elim (fun h => xG_good w h) (fun h => List.all_eq_true.mp zW_lay_good w h)))))))))))))))))))
theorem zs_layin {w : Jvm.Cond} (h : w ∈ zW_lay) : w ∈ zWS := List.mem_append_right _ (List.mem_append_right _ (List.mem_append_right _ (List.mem_append_right _ (List.mem_append_right _ (List.mem_append_right _ (List.mem_append_right _ (List.mem_append_right _ (List.mem_append_right _ (List.mem_append_right _ (List.mem_append_right _ (List.mem_append_right _ (List.mem_append_right _ (List.mem_append_right _ (List.mem_append_right _ (List.mem_append_right _ (List.mem_append_right _ (List.mem_append_right _ (List.mem_append_right _ (h)))))))))))))))))))
theorem jWs_zs : ∀ w ∈ jWs, w ∈ zWS := fun w h => List.mem_append_right _ (List.mem_append_right _ (List.mem_append_right _ (List.mem_append_right _ (List.mem_append_right _ (List.mem_append_right _ (List.mem_append_right _ (List.mem_append_right _ (List.mem_append_right _ (List.mem_append_right _ (List.mem_append_right _ (List.mem_append_right _ (List.mem_append_right _ (List.mem_append_right _ (List.mem_append_right _ (List.mem_append_right _ (List.mem_append_right _ (List.mem_append_left _ h)))))))))))))))))
theorem xG_zs : ∀ w ∈ xG, w ∈ zWS := fun w h => List.mem_append_right _ (List.mem_append_right _ (List.mem_append_right _ (List.mem_append_right _ (List.mem_append_right _ (List.mem_append_right _ (List.mem_append_right _ (List.mem_append_right _ (List.mem_append_right _ (List.mem_append_right _ (List.mem_append_right _ (List.mem_append_right _ (List.mem_append_right _ (List.mem_append_right _ (List.mem_append_right _ (List.mem_append_right _ (List.mem_append_right _ (List.mem_append_right _ (List.mem_append_left _ h))))))))))))))))))
theorem zs_cls : zCls zSS := by
  intro ci C T N h
  match ci, h with
  | 0, h => cases h; exact ⟨fun w h => zs_layin (List.mem_append_left _ h), ⟨tyX0, tyX0_ok⟩, nmX0⟩
  | 1, h => cases h; exact ⟨fun w h => zs_layin (List.mem_append_right _ (List.mem_append_left _ h)), ⟨tyX1, tyX1_ok⟩, nmX1⟩
  | 2, h => cases h; exact ⟨fun w h => zs_layin (List.mem_append_right _ (List.mem_append_right _ (List.mem_append_left _ h))), ⟨tyX2, tyX2_ok⟩, nmX2⟩
  | 3, h => cases h; exact ⟨fun w h => zs_layin (List.mem_append_right _ (List.mem_append_right _ (List.mem_append_right _ (List.mem_append_left _ h)))), ⟨tyX3, tyX3_ok⟩, nmX3⟩
  | 4, h => cases h; exact ⟨fun w h => zs_layin (List.mem_append_right _ (List.mem_append_right _ (List.mem_append_right _ (List.mem_append_right _ (List.mem_append_left _ h))))), ⟨tyX4, tyX4_ok⟩, nmX4⟩
  | 5, h => cases h; exact ⟨fun w h => zs_layin (List.mem_append_right _ (List.mem_append_right _ (List.mem_append_right _ (List.mem_append_right _ (List.mem_append_right _ (List.mem_append_left _ h)))))), ⟨tyX5, tyX5_ok⟩, nmX5⟩
  | 6, h => cases h; exact ⟨fun w h => zs_layin (List.mem_append_right _ (List.mem_append_right _ (List.mem_append_right _ (List.mem_append_right _ (List.mem_append_right _ (List.mem_append_right _ (List.mem_append_left _ h))))))), ⟨tyX6, tyX6_ok⟩, nmX6⟩
  | 7, h => cases h; exact ⟨fun w h => zs_layin (List.mem_append_right _ (List.mem_append_right _ (List.mem_append_right _ (List.mem_append_right _ (List.mem_append_right _ (List.mem_append_right _ (List.mem_append_right _ (List.mem_append_left _ h)))))))), ⟨tyX7, tyX7_ok⟩, nmX7⟩
  | 8, h => cases h; exact ⟨fun w h => zs_layin (List.mem_append_right _ (List.mem_append_right _ (List.mem_append_right _ (List.mem_append_right _ (List.mem_append_right _ (List.mem_append_right _ (List.mem_append_right _ (List.mem_append_right _ (List.mem_append_left _ h))))))))), ⟨tyX8, tyX8_ok⟩, nmX8⟩
  | 9, h => cases h; exact ⟨fun w h => zs_layin (List.mem_append_right _ (List.mem_append_right _ (List.mem_append_right _ (List.mem_append_right _ (List.mem_append_right _ (List.mem_append_right _ (List.mem_append_right _ (List.mem_append_right _ (List.mem_append_right _ (List.mem_append_left _ h)))))))))), ⟨tyX9, tyX9_ok⟩, nmX9⟩
  | 10, h => cases h; exact ⟨fun w h => zs_layin (List.mem_append_right _ (List.mem_append_right _ (List.mem_append_right _ (List.mem_append_right _ (List.mem_append_right _ (List.mem_append_right _ (List.mem_append_right _ (List.mem_append_right _ (List.mem_append_right _ (List.mem_append_right _ (List.mem_append_left _ h))))))))))), ⟨tyX10, tyX10_ok⟩, nmX10⟩
  | 11, h => cases h; exact ⟨fun w h => zs_layin (List.mem_append_right _ (List.mem_append_right _ (List.mem_append_right _ (List.mem_append_right _ (List.mem_append_right _ (List.mem_append_right _ (List.mem_append_right _ (List.mem_append_right _ (List.mem_append_right _ (List.mem_append_right _ (List.mem_append_right _ (h)))))))))))), ⟨tyX11, tyX11_ok⟩, nmX11⟩
  | k + 12, h => cases h
set_option maxRecDepth 100000 in
theorem zs_dv0 : ∀ j, j < 2 → defaultValue (tyX0 j) = vp_V ([va_rf none, .int 0] : List Value) j := by decide +kernel
theorem zs_dw0 : ∀ j, j < 2 → ([va_rf none, .int 0] : List Value)[j]? = some (yDv (zFk 0 j)) := by
  intro j hj
  match j, hj with
  | 0, _ => rfl
  | 1, _ => rfl
  | j + 2, hj => omega
set_option maxRecDepth 100000 in
theorem zs_in1_0 : Jvm.Cond.instantiable RX0 2 ∈ zWS := by decide +kernel
set_option maxRecDepth 100000 in
theorem zs_in2_0 : Jvm.Cond.initialized RX0 ∈ zWS := by decide +kernel
set_option maxRecDepth 100000 in
theorem zs_dv1 : ∀ j, j < 15 → defaultValue (tyX1 j) = vp_V ([.int 0, .int 0, va_rf none, va_rf none, va_rf none, .int 0, va_rf none, va_rf none, va_rf none, va_rf none, va_rf none, va_rf none, va_rf none, va_rf none, .int 0] : List Value) j := by decide +kernel
theorem zs_dw1 : ∀ j, j < 15 → ([.int 0, .int 0, va_rf none, va_rf none, va_rf none, .int 0, va_rf none, va_rf none, va_rf none, va_rf none, va_rf none, va_rf none, va_rf none, va_rf none, .int 0] : List Value)[j]? = some (yDv (zFk 1 j)) := by
  intro j hj
  match j, hj with
  | 0, _ => rfl
  | 1, _ => rfl
  | 2, _ => rfl
  | 3, _ => rfl
  | 4, _ => rfl
  | 5, _ => rfl
  | 6, _ => rfl
  | 7, _ => rfl
  | 8, _ => rfl
  | 9, _ => rfl
  | 10, _ => rfl
  | 11, _ => rfl
  | 12, _ => rfl
  | 13, _ => rfl
  | 14, _ => rfl
  | j + 15, hj => omega
set_option maxRecDepth 100000 in
theorem zs_in1_1 : Jvm.Cond.instantiable RX1 15 ∈ zWS := by decide +kernel
set_option maxRecDepth 100000 in
theorem zs_in2_1 : Jvm.Cond.initialized RX1 ∈ zWS := by decide +kernel
set_option maxRecDepth 100000 in
theorem zs_dv2 : ∀ j, j < 2 → defaultValue (tyX2 j) = vp_V ([.int 0, va_rf none] : List Value) j := by decide +kernel
theorem zs_dw2 : ∀ j, j < 2 → ([.int 0, va_rf none] : List Value)[j]? = some (yDv (zFk 2 j)) := by
  intro j hj
  match j, hj with
  | 0, _ => rfl
  | 1, _ => rfl
  | j + 2, hj => omega
set_option maxRecDepth 100000 in
theorem zs_in1_2 : Jvm.Cond.instantiable RX2 2 ∈ zWS := by decide +kernel
set_option maxRecDepth 100000 in
theorem zs_in2_2 : Jvm.Cond.initialized RX2 ∈ zWS := by decide +kernel
set_option maxRecDepth 100000 in
theorem zs_dv3 : ∀ j, j < 12 → defaultValue (tyX3 j) = vp_V ([va_rf none, .int 0, .int 0, .int 0, .int 0, .int 0, .int 0, .long 0, .int 0, .int 0, .int 0, .int 0] : List Value) j := by decide +kernel
theorem zs_dw3 : ∀ j, j < 12 → ([va_rf none, .int 0, .int 0, .int 0, .int 0, .int 0, .int 0, .long 0, .int 0, .int 0, .int 0, .int 0] : List Value)[j]? = some (yDv (zFk 3 j)) := by
  intro j hj
  match j, hj with
  | 0, _ => rfl
  | 1, _ => rfl
  | 2, _ => rfl
  | 3, _ => rfl
  | 4, _ => rfl
  | 5, _ => rfl
  | 6, _ => rfl
  | 7, _ => rfl
  | 8, _ => rfl
  | 9, _ => rfl
  | 10, _ => rfl
  | 11, _ => rfl
  | j + 12, hj => omega
set_option maxRecDepth 100000 in
theorem zs_in1_3 : Jvm.Cond.instantiable RX3 12 ∈ zWS := by decide +kernel
set_option maxRecDepth 100000 in
theorem zs_in2_3 : Jvm.Cond.initialized RX3 ∈ zWS := by decide +kernel
set_option maxRecDepth 100000 in
theorem zs_dv4 : ∀ j, j < 5 → defaultValue (tyX4 j) = vp_V ([.int 0, va_rf none, va_rf none, va_rf none, .int 0] : List Value) j := by decide +kernel
theorem zs_dw4 : ∀ j, j < 5 → ([.int 0, va_rf none, va_rf none, va_rf none, .int 0] : List Value)[j]? = some (yDv (zFk 4 j)) := by
  intro j hj
  match j, hj with
  | 0, _ => rfl
  | 1, _ => rfl
  | 2, _ => rfl
  | 3, _ => rfl
  | 4, _ => rfl
  | j + 5, hj => omega
set_option maxRecDepth 100000 in
theorem zs_in1_4 : Jvm.Cond.instantiable RX4 5 ∈ zWS := by decide +kernel
set_option maxRecDepth 100000 in
theorem zs_in2_4 : Jvm.Cond.initialized RX4 ∈ zWS := by decide +kernel
set_option maxRecDepth 100000 in
theorem zs_dv5 : ∀ j, j < 14 → defaultValue (tyX5 j) = vp_V ([.int 0, va_rf none, va_rf none, va_rf none, va_rf none, va_rf none, va_rf none, va_rf none, va_rf none, va_rf none, va_rf none, va_rf none, .int 0, va_rf none] : List Value) j := by decide +kernel
theorem zs_dw5 : ∀ j, j < 14 → ([.int 0, va_rf none, va_rf none, va_rf none, va_rf none, va_rf none, va_rf none, va_rf none, va_rf none, va_rf none, va_rf none, va_rf none, .int 0, va_rf none] : List Value)[j]? = some (yDv (zFk 5 j)) := by
  intro j hj
  match j, hj with
  | 0, _ => rfl
  | 1, _ => rfl
  | 2, _ => rfl
  | 3, _ => rfl
  | 4, _ => rfl
  | 5, _ => rfl
  | 6, _ => rfl
  | 7, _ => rfl
  | 8, _ => rfl
  | 9, _ => rfl
  | 10, _ => rfl
  | 11, _ => rfl
  | 12, _ => rfl
  | 13, _ => rfl
  | j + 14, hj => omega
set_option maxRecDepth 100000 in
theorem zs_in1_5 : Jvm.Cond.instantiable RX5 14 ∈ zWS := by decide +kernel
set_option maxRecDepth 100000 in
theorem zs_in2_5 : Jvm.Cond.initialized RX5 ∈ zWS := by decide +kernel
set_option maxRecDepth 100000 in
theorem zs_dv6 : ∀ j, j < 14 → defaultValue (tyX6 j) = vp_V ([.int 0, .int 0, .int 0, va_rf none, va_rf none, va_rf none, va_rf none, va_rf none, va_rf none, va_rf none, va_rf none, .int 0, va_rf none, .int 0] : List Value) j := by decide +kernel
theorem zs_dw6 : ∀ j, j < 14 → ([.int 0, .int 0, .int 0, va_rf none, va_rf none, va_rf none, va_rf none, va_rf none, va_rf none, va_rf none, va_rf none, .int 0, va_rf none, .int 0] : List Value)[j]? = some (yDv (zFk 6 j)) := by
  intro j hj
  match j, hj with
  | 0, _ => rfl
  | 1, _ => rfl
  | 2, _ => rfl
  | 3, _ => rfl
  | 4, _ => rfl
  | 5, _ => rfl
  | 6, _ => rfl
  | 7, _ => rfl
  | 8, _ => rfl
  | 9, _ => rfl
  | 10, _ => rfl
  | 11, _ => rfl
  | 12, _ => rfl
  | 13, _ => rfl
  | j + 14, hj => omega
set_option maxRecDepth 100000 in
theorem zs_in1_6 : Jvm.Cond.instantiable RX6 14 ∈ zWS := by decide +kernel
set_option maxRecDepth 100000 in
theorem zs_in2_6 : Jvm.Cond.initialized RX6 ∈ zWS := by decide +kernel
set_option maxRecDepth 100000 in
theorem zs_dv7 : ∀ j, j < 8 → defaultValue (tyX7 j) = vp_V ([va_rf none, va_rf none, va_rf none, va_rf none, va_rf none, va_rf none, va_rf none, .int 0] : List Value) j := by decide +kernel
theorem zs_dw7 : ∀ j, j < 8 → ([va_rf none, va_rf none, va_rf none, va_rf none, va_rf none, va_rf none, va_rf none, .int 0] : List Value)[j]? = some (yDv (zFk 7 j)) := by
  intro j hj
  match j, hj with
  | 0, _ => rfl
  | 1, _ => rfl
  | 2, _ => rfl
  | 3, _ => rfl
  | 4, _ => rfl
  | 5, _ => rfl
  | 6, _ => rfl
  | 7, _ => rfl
  | j + 8, hj => omega
set_option maxRecDepth 100000 in
theorem zs_in1_7 : Jvm.Cond.instantiable RX7 8 ∈ zWS := by decide +kernel
set_option maxRecDepth 100000 in
theorem zs_in2_7 : Jvm.Cond.initialized RX7 ∈ zWS := by decide +kernel
set_option maxRecDepth 100000 in
theorem zs_dv8 : ∀ j, j < 5 → defaultValue (tyX8 j) = vp_V ([va_rf none, va_rf none, va_rf none, va_rf none, .int 0] : List Value) j := by decide +kernel
theorem zs_dw8 : ∀ j, j < 5 → ([va_rf none, va_rf none, va_rf none, va_rf none, .int 0] : List Value)[j]? = some (yDv (zFk 8 j)) := by
  intro j hj
  match j, hj with
  | 0, _ => rfl
  | 1, _ => rfl
  | 2, _ => rfl
  | 3, _ => rfl
  | 4, _ => rfl
  | j + 5, hj => omega
set_option maxRecDepth 100000 in
theorem zs_in1_8 : Jvm.Cond.instantiable RX8 5 ∈ zWS := by decide +kernel
set_option maxRecDepth 100000 in
theorem zs_in2_8 : Jvm.Cond.initialized RX8 ∈ zWS := by decide +kernel
set_option maxRecDepth 100000 in
theorem zs_dv9 : ∀ j, j < 4 → defaultValue (tyX9 j) = vp_V ([va_rf none, va_rf none, va_rf none, va_rf none] : List Value) j := by decide +kernel
theorem zs_dw9 : ∀ j, j < 4 → ([va_rf none, va_rf none, va_rf none, va_rf none] : List Value)[j]? = some (yDv (zFk 9 j)) := by
  intro j hj
  match j, hj with
  | 0, _ => rfl
  | 1, _ => rfl
  | 2, _ => rfl
  | 3, _ => rfl
  | j + 4, hj => omega
set_option maxRecDepth 100000 in
theorem zs_in1_9 : Jvm.Cond.instantiable RX9 4 ∈ zWS := by decide +kernel
set_option maxRecDepth 100000 in
theorem zs_in2_9 : Jvm.Cond.initialized RX9 ∈ zWS := by decide +kernel
set_option maxRecDepth 100000 in
theorem zs_dv10 : ∀ j, j < 10 → defaultValue (tyX10 j) = vp_V ([va_rf none, va_rf none, va_rf none, va_rf none, va_rf none, va_rf none, va_rf none, .int 0, .int 0, .int 0] : List Value) j := by decide +kernel
theorem zs_dw10 : ∀ j, j < 10 → ([va_rf none, va_rf none, va_rf none, va_rf none, va_rf none, va_rf none, va_rf none, .int 0, .int 0, .int 0] : List Value)[j]? = some (yDv (zFk 10 j)) := by
  intro j hj
  match j, hj with
  | 0, _ => rfl
  | 1, _ => rfl
  | 2, _ => rfl
  | 3, _ => rfl
  | 4, _ => rfl
  | 5, _ => rfl
  | 6, _ => rfl
  | 7, _ => rfl
  | 8, _ => rfl
  | 9, _ => rfl
  | j + 10, hj => omega
set_option maxRecDepth 100000 in
theorem zs_in1_10 : Jvm.Cond.instantiable RX10 10 ∈ zWS := by decide +kernel
set_option maxRecDepth 100000 in
theorem zs_in2_10 : Jvm.Cond.initialized RX10 ∈ zWS := by decide +kernel
set_option maxRecDepth 100000 in
theorem zs_dv11 : ∀ j, j < 57 → defaultValue (tyX11 j) = vp_V ([.int 0, va_rf none, .int 0, .int 0, .int 0, .int 0, va_rf none, va_rf none, va_rf none, va_rf none, va_rf none, .int 0, .int 0, .int 0, .int 0, .int 0, .int 0, .long 0, .int 0, .int 0, .int 0, .int 0, .int 0, .int 0, va_rf none, va_rf none, va_rf none, va_rf none, .int 0, .int 0, .int 0, .int 0, .int 0, va_rf none, va_rf none, .int 0, va_rf none, va_rf none, va_rf none, va_rf none, .int 0, .int 0, .int 0, va_rf none, .int 0, va_rf none, .int 0, va_rf none, .int 0, .int 0, .int 0, .int 0, .int 0, va_rf none, va_rf none, va_rf none, va_rf none] : List Value) j := by decide +kernel
theorem zs_dw11 : ∀ j, j < 57 → ([.int 0, va_rf none, .int 0, .int 0, .int 0, .int 0, va_rf none, va_rf none, va_rf none, va_rf none, va_rf none, .int 0, .int 0, .int 0, .int 0, .int 0, .int 0, .long 0, .int 0, .int 0, .int 0, .int 0, .int 0, .int 0, va_rf none, va_rf none, va_rf none, va_rf none, .int 0, .int 0, .int 0, .int 0, .int 0, va_rf none, va_rf none, .int 0, va_rf none, va_rf none, va_rf none, va_rf none, .int 0, .int 0, .int 0, va_rf none, .int 0, va_rf none, .int 0, va_rf none, .int 0, .int 0, .int 0, .int 0, .int 0, va_rf none, va_rf none, va_rf none, va_rf none] : List Value)[j]? = some (yDv (zFk 11 j)) := by
  intro j hj
  match j, hj with
  | 0, _ => rfl
  | 1, _ => rfl
  | 2, _ => rfl
  | 3, _ => rfl
  | 4, _ => rfl
  | 5, _ => rfl
  | 6, _ => rfl
  | 7, _ => rfl
  | 8, _ => rfl
  | 9, _ => rfl
  | 10, _ => rfl
  | 11, _ => rfl
  | 12, _ => rfl
  | 13, _ => rfl
  | 14, _ => rfl
  | 15, _ => rfl
  | 16, _ => rfl
  | 17, _ => rfl
  | 18, _ => rfl
  | 19, _ => rfl
  | 20, _ => rfl
  | 21, _ => rfl
  | 22, _ => rfl
  | 23, _ => rfl
  | 24, _ => rfl
  | 25, _ => rfl
  | 26, _ => rfl
  | 27, _ => rfl
  | 28, _ => rfl
  | 29, _ => rfl
  | 30, _ => rfl
  | 31, _ => rfl
  | 32, _ => rfl
  | 33, _ => rfl
  | 34, _ => rfl
  | 35, _ => rfl
  | 36, _ => rfl
  | 37, _ => rfl
  | 38, _ => rfl
  | 39, _ => rfl
  | 40, _ => rfl
  | 41, _ => rfl
  | 42, _ => rfl
  | 43, _ => rfl
  | 44, _ => rfl
  | 45, _ => rfl
  | 46, _ => rfl
  | 47, _ => rfl
  | 48, _ => rfl
  | 49, _ => rfl
  | 50, _ => rfl
  | 51, _ => rfl
  | 52, _ => rfl
  | 53, _ => rfl
  | 54, _ => rfl
  | 55, _ => rfl
  | 56, _ => rfl
  | j + 57, hj => omega
set_option maxRecDepth 100000 in
theorem zs_in1_11 : Jvm.Cond.instantiable RX11 57 ∈ zWS := by decide +kernel
set_option maxRecDepth 100000 in
theorem zs_in2_11 : Jvm.Cond.initialized RX11 ∈ zWS := by decide +kernel
theorem zs_mk : ∀ ci, ci < (sCl zSS).length → yMk zSS zFk ci := by
  intro ci h
  have h : ci < 12 := h
  match ci, h with
  | 0, _ => exact ⟨RX0, TX0, 2, tyX0, [va_rf none, .int 0], rfl, tyX0_ok, rfl, zs_dw0, zs_dv0, zs_in1_0, zs_in2_0⟩
  | 1, _ => exact ⟨RX1, TX1, 15, tyX1, [.int 0, .int 0, va_rf none, va_rf none, va_rf none, .int 0, va_rf none, va_rf none, va_rf none, va_rf none, va_rf none, va_rf none, va_rf none, va_rf none, .int 0], rfl, tyX1_ok, rfl, zs_dw1, zs_dv1, zs_in1_1, zs_in2_1⟩
  | 2, _ => exact ⟨RX2, TX2, 2, tyX2, [.int 0, va_rf none], rfl, tyX2_ok, rfl, zs_dw2, zs_dv2, zs_in1_2, zs_in2_2⟩
  | 3, _ => exact ⟨RX3, TX3, 12, tyX3, [va_rf none, .int 0, .int 0, .int 0, .int 0, .int 0, .int 0, .long 0, .int 0, .int 0, .int 0, .int 0], rfl, tyX3_ok, rfl, zs_dw3, zs_dv3, zs_in1_3, zs_in2_3⟩
  | 4, _ => exact ⟨RX4, TX4, 5, tyX4, [.int 0, va_rf none, va_rf none, va_rf none, .int 0], rfl, tyX4_ok, rfl, zs_dw4, zs_dv4, zs_in1_4, zs_in2_4⟩
  | 5, _ => exact ⟨RX5, TX5, 14, tyX5, [.int 0, va_rf none, va_rf none, va_rf none, va_rf none, va_rf none, va_rf none, va_rf none, va_rf none, va_rf none, va_rf none, va_rf none, .int 0, va_rf none], rfl, tyX5_ok, rfl, zs_dw5, zs_dv5, zs_in1_5, zs_in2_5⟩
  | 6, _ => exact ⟨RX6, TX6, 14, tyX6, [.int 0, .int 0, .int 0, va_rf none, va_rf none, va_rf none, va_rf none, va_rf none, va_rf none, va_rf none, va_rf none, .int 0, va_rf none, .int 0], rfl, tyX6_ok, rfl, zs_dw6, zs_dv6, zs_in1_6, zs_in2_6⟩
  | 7, _ => exact ⟨RX7, TX7, 8, tyX7, [va_rf none, va_rf none, va_rf none, va_rf none, va_rf none, va_rf none, va_rf none, .int 0], rfl, tyX7_ok, rfl, zs_dw7, zs_dv7, zs_in1_7, zs_in2_7⟩
  | 8, _ => exact ⟨RX8, TX8, 5, tyX8, [va_rf none, va_rf none, va_rf none, va_rf none, .int 0], rfl, tyX8_ok, rfl, zs_dw8, zs_dv8, zs_in1_8, zs_in2_8⟩
  | 9, _ => exact ⟨RX9, TX9, 4, tyX9, [va_rf none, va_rf none, va_rf none, va_rf none], rfl, tyX9_ok, rfl, zs_dw9, zs_dv9, zs_in1_9, zs_in2_9⟩
  | 10, _ => exact ⟨RX10, TX10, 10, tyX10, [va_rf none, va_rf none, va_rf none, va_rf none, va_rf none, va_rf none, va_rf none, .int 0, .int 0, .int 0], rfl, tyX10_ok, rfl, zs_dw10, zs_dv10, zs_in1_10, zs_in2_10⟩
  | 11, _ => exact ⟨RX11, TX11, 57, tyX11, [.int 0, va_rf none, .int 0, .int 0, .int 0, .int 0, va_rf none, va_rf none, va_rf none, va_rf none, va_rf none, .int 0, .int 0, .int 0, .int 0, .int 0, .int 0, .long 0, .int 0, .int 0, .int 0, .int 0, .int 0, .int 0, va_rf none, va_rf none, va_rf none, va_rf none, .int 0, .int 0, .int 0, .int 0, .int 0, va_rf none, va_rf none, .int 0, va_rf none, va_rf none, va_rf none, va_rf none, .int 0, .int 0, .int 0, va_rf none, .int 0, va_rf none, .int 0, va_rf none, .int 0, .int 0, .int 0, .int 0, .int 0, va_rf none, va_rf none, va_rf none, va_rf none], rfl, tyX11_ok, rfl, zs_dw11, zs_dv11, zs_in1_11, zs_in2_11⟩
  | k + 12, h => omega
theorem zs_ra_ok : zRaOk zSS := ⟨⟨TX5, 14, rfl⟩, ⟨TX9, 4, rfl⟩⟩
set_option maxRecDepth 100000 in
theorem zs_nt : zNt zSS := by
  refine ⟨?_, ?_, ?_, ?_, ?_, ?_, ⟨?_, ?_⟩, ⟨?_, ?_⟩⟩ <;> decide +kernel
set_option maxRecDepth 100000 in
theorem zs_ac : Jvm.Cond.arrayClass .byte ∈ sW zSS ∧ Jvm.Cond.arrayClass .int ∈ sW zSS ∧ Jvm.Cond.arrayClass .long ∈ sW zSS ∧ Jvm.Cond.arrayClass .boolean ∈ sW zSS := by
  refine ⟨?_, ?_, ?_, ?_⟩ <;> decide +kernel
