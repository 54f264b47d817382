/-! printed by wip/whole/y/gen67.py: what is known of the methods that are called; all of it -/
set_option maxRecDepth 100000 in
theorem zs_mtb0 : (List.range 16).all (fun j => match zGG.1[0 + j]? with | some mt => zMtB zSS zPl (0 + j) mt.1.2 | none => true) = true := by decide +kernel
set_option maxRecDepth 100000 in
theorem zs_mtb1 : (List.range 16).all (fun j => match zGG.1[16 + j]? with | some mt => zMtB zSS zPl (16 + j) mt.1.2 | none => true) = true := by decide +kernel
set_option maxRecDepth 100000 in
theorem zs_mtb2 : (List.range 16).all (fun j => match zGG.1[32 + j]? with | some mt => zMtB zSS zPl (32 + j) mt.1.2 | none => true) = true := by decide +kernel
set_option maxRecDepth 100000 in
theorem zs_mtb3 : (List.range 16).all (fun j => match zGG.1[48 + j]? with | some mt => zMtB zSS zPl (48 + j) mt.1.2 | none => true) = true := by decide +kernel
set_option maxRecDepth 100000 in
theorem zs_mtb4 : (List.range 16).all (fun j => match zGG.1[64 + j]? with | some mt => zMtB zSS zPl (64 + j) mt.1.2 | none => true) = true := by decide +kernel
set_option maxRecDepth 100000 in
theorem zs_mtb5 : (List.range 16).all (fun j => match zGG.1[80 + j]? with | some mt => zMtB zSS zPl (80 + j) mt.1.2 | none => true) = true := by decide +kernel
set_option maxRecDepth 100000 in
theorem zs_mtb6 : (List.range 16).all (fun j => match zGG.1[96 + j]? with | some mt => zMtB zSS zPl (96 + j) mt.1.2 | none => true) = true := by decide +kernel
set_option maxRecDepth 100000 in
theorem zs_mtb7 : (List.range 16).all (fun j => match zGG.1[112 + j]? with | some mt => zMtB zSS zPl (112 + j) mt.1.2 | none => true) = true := by decide +kernel
set_option maxRecDepth 100000 in
theorem zs_mtb8 : (List.range 16).all (fun j => match zGG.1[128 + j]? with | some mt => zMtB zSS zPl (128 + j) mt.1.2 | none => true) = true := by decide +kernel
set_option maxRecDepth 100000 in
theorem zs_mtb9 : (List.range 16).all (fun j => match zGG.1[144 + j]? with | some mt => zMtB zSS zPl (144 + j) mt.1.2 | none => true) = true := by decide +kernel
set_option maxRecDepth 100000 in
theorem zs_mtb10 : (List.range 16).all (fun j => match zGG.1[160 + j]? with | some mt => zMtB zSS zPl (160 + j) mt.1.2 | none => true) = true := by decide +kernel
set_option maxRecDepth 100000 in
theorem zs_mtb11 : (List.range 16).all (fun j => match zGG.1[176 + j]? with | some mt => zMtB zSS zPl (176 + j) mt.1.2 | none => true) = true := by decide +kernel
set_option maxRecDepth 100000 in
theorem zs_mtb12 : (List.range 16).all (fun j => match zGG.1[192 + j]? with | some mt => zMtB zSS zPl (192 + j) mt.1.2 | none => true) = true := by decide +kernel
set_option maxRecDepth 100000 in
theorem zs_mtb13 : (List.range 16).all (fun j => match zGG.1[208 + j]? with | some mt => zMtB zSS zPl (208 + j) mt.1.2 | none => true) = true := by decide +kernel
set_option maxRecDepth 100000 in
theorem zs_mtb14 : (List.range 16).all (fun j => match zGG.1[224 + j]? with | some mt => zMtB zSS zPl (224 + j) mt.1.2 | none => true) = true := by decide +kernel
set_option maxRecDepth 100000 in
theorem zs_mtb15 : (List.range 16).all (fun j => match zGG.1[240 + j]? with | some mt => zMtB zSS zPl (240 + j) mt.1.2 | none => true) = true := by decide +kernel
set_option maxRecDepth 100000 in
theorem zs_mtb16 : (List.range 16).all (fun j => match zGG.1[256 + j]? with | some mt => zMtB zSS zPl (256 + j) mt.1.2 | none => true) = true := by decide +kernel
theorem zs_mtl : zGG.1.length = 258 := by decide +kernel
theorem zs_mtk {c : Nat} (h0 : (List.range 16).all (fun j => match zGG.1[c + j]? with | some mt => zMtB zSS zPl (c + j) mt.1.2 | none => true) = true) {a : Nat} {mt : yM} (h : zGG.1[a]? = some mt) (h1 : c ≤ a) (h2 : a < c + 16) : zMtB zSS zPl a mt.1.2 = true := by
  have g := List.all_eq_true.mp h0 (a - c) (List.mem_range.mpr (by omega))
  have e : c + (a - c) = a := by omega
  rw [e, h] at g
  exact g
theorem zs_mts : ∀ (a : Nat) (mt : yM), zGG.1[a]? = some mt → zMtB zSS zPl a mt.1.2 = true := by
  intro a mt h
  have hlt : a < zGG.1.length := (List.getElem?_eq_some_iff.mp h).1
  rw [zs_mtl] at hlt
  by_cases h0 : a < 16
  · exact zs_mtk zs_mtb0 h (by omega) (by omega)
  by_cases h1 : a < 32
  · exact zs_mtk zs_mtb1 h (by omega) (by omega)
  by_cases h2 : a < 48
  · exact zs_mtk zs_mtb2 h (by omega) (by omega)
  by_cases h3 : a < 64
  · exact zs_mtk zs_mtb3 h (by omega) (by omega)
  by_cases h4 : a < 80
  · exact zs_mtk zs_mtb4 h (by omega) (by omega)
  by_cases h5 : a < 96
  · exact zs_mtk zs_mtb5 h (by omega) (by omega)
  by_cases h6 : a < 112
  · exact zs_mtk zs_mtb6 h (by omega) (by omega)
  by_cases h7 : a < 128
  · exact zs_mtk zs_mtb7 h (by omega) (by omega)
  by_cases h8 : a < 144
  · exact zs_mtk zs_mtb8 h (by omega) (by omega)
  by_cases h9 : a < 160
  · exact zs_mtk zs_mtb9 h (by omega) (by omega)
  by_cases h10 : a < 176
  · exact zs_mtk zs_mtb10 h (by omega) (by omega)
  by_cases h11 : a < 192
  · exact zs_mtk zs_mtb11 h (by omega) (by omega)
  by_cases h12 : a < 208
  · exact zs_mtk zs_mtb12 h (by omega) (by omega)
  by_cases h13 : a < 224
  · exact zs_mtk zs_mtb13 h (by omega) (by omega)
  by_cases h14 : a < 240
  · exact zs_mtk zs_mtb14 h (by omega) (by omega)
  by_cases h15 : a < 256
  · exact zs_mtk zs_mtb15 h (by omega) (by omega)
  exact zs_mtk zs_mtb16 h (by omega) (by omega)
theorem zA : yAll zSS zGG zFk zPl := ⟨zWS_good, zs_cls, zs_mk, zs_ra_ok, zs_nt, zs_ac, zs_mts⟩
