set_option maxRecDepth 100000 in
theorem zk_on_27 : zq 77 [(0, zRef (some 0)), (1, .inl 26)] zh0 (zThen 129 [(0, zRef (some 102)), (1, .inl 26)]) = true := by decide +kernel
set_option maxRecDepth 100000 in
theorem zk_on_28 : zq 77 [(0, zRef (some 0)), (1, .inl 27)] zh0 (zThen 129 [(0, zRef (some 102)), (1, .inl 27)]) = true := by decide +kernel
set_option maxRecDepth 100000 in
theorem zk_on_29 : zq 77 [(0, zRef (some 0)), (1, .inl 28)] zh0 (zThen 129 [(0, zRef (some 102)), (1, .inl 28)]) = true := by decide +kernel
set_option maxRecDepth 100000 in
theorem zk_on_30 : zq 77 [(0, zRef (some 0)), (1, .inl 29)] zh0 (zThen 129 [(0, zRef (some 102)), (1, .inl 29)]) = true := by decide +kernel
set_option maxRecDepth 100000 in
theorem zk_on_31 : zq 77 [(0, zRef (some 0)), (1, .inl 30)] zh0 (zThen 129 [(0, zRef (some 102)), (1, .inl 30)]) = true := by decide +kernel
set_option maxRecDepth 100000 in
theorem zk_on_32 : zq 77 [(0, zRef (some 0)), (1, .inl 31)] zh0 (zThen 129 [(0, zRef (some 102)), (1, .inl 31)]) = true := by decide +kernel
set_option maxRecDepth 100000 in
theorem zk_on_33 : zq 77 [(0, zRef (some 0)), (1, .inl 32)] zh0 (zThen 129 [(0, zRef (some 102)), (1, .inl 32)]) = true := by decide +kernel
set_option maxRecDepth 100000 in
theorem zk_on_34 : zq 77 [(0, zRef (some 0)), (1, .inl 33)] zh0 (zThen 129 [(0, zRef (some 102)), (1, .inl 33)]) = true := by decide +kernel
set_option maxRecDepth 100000 in
theorem zk_on_35 : zq 77 [(0, zRef (some 0)), (1, .inl 34)] zh0 (zThen 129 [(0, zRef (some 102)), (1, .inl 34)]) = true := by decide +kernel
set_option maxRecDepth 100000 in
theorem zk_on_36 : zq 77 [(0, zRef (some 0)), (1, .inl 35)] zh0 (zThen 129 [(0, zRef (some 102)), (1, .inl 35)]) = true := by decide +kernel
set_option maxRecDepth 100000 in
theorem zk_on_37 : zq 77 [(0, zRef (some 0)), (1, .inl 36)] zh0 (zThen 129 [(0, zRef (some 102)), (1, .inl 36)]) = true := by decide +kernel
set_option maxRecDepth 100000 in
theorem zk_on_38 : zq 77 [(0, zRef (some 0)), (1, .inl 37)] zh0 (zThen 129 [(0, zRef (some 102)), (1, .inl 37)]) = true := by decide +kernel
set_option maxRecDepth 100000 in
theorem zk_on_39 : zq 77 [(0, zRef (some 0)), (1, .inl 38)] zh0 (zThen 129 [(0, zRef (some 102)), (1, .inl 38)]) = true := by decide +kernel
set_option maxRecDepth 100000 in
theorem zk_on_40 : zq 77 [(0, zRef (some 0)), (1, .inl 39)] zh0 (zThen 129 [(0, zRef (some 102)), (1, .inl 39)]) = true := by decide +kernel
set_option maxRecDepth 100000 in
theorem zk_on_41 : zq 77 [(0, zRef (some 0)), (1, .inl 40)] zh0 (zThen 129 [(0, zRef (some 102)), (1, .inl 40)]) = true := by decide +kernel
set_option maxRecDepth 100000 in
theorem zk_on_42 : zq 77 [(0, zRef (some 0)), (1, .inl 41)] zh0 (zThen 129 [(0, zRef (some 102)), (1, .inl 41)]) = true := by decide +kernel
set_option maxRecDepth 100000 in
theorem zk_on_43 : zq 77 [(0, zRef (some 0)), (1, .inl 42)] zh0 (zThen 129 [(0, zRef (some 102)), (1, .inl 42)]) = true := by decide +kernel
set_option maxRecDepth 100000 in
theorem zk_on_44 : zq 77 [(0, zRef (some 0)), (1, .inl 43)] zh0 (zThen 129 [(0, zRef (some 102)), (1, .inl 43)]) = true := by decide +kernel
set_option maxRecDepth 100000 in
theorem zk_on_45 : zq 77 [(0, zRef (some 0)), (1, .inl 44)] zh0 (zThen 129 [(0, zRef (some 102)), (1, .inl 44)]) = true := by decide +kernel
set_option maxRecDepth 100000 in
theorem zk_on_46 : zq 77 [(0, zRef (some 0)), (1, .inl 45)] zh0 (zThen 129 [(0, zRef (some 102)), (1, .inl 45)]) = true := by decide +kernel
set_option maxRecDepth 100000 in
theorem zk_on_47 : zq 77 [(0, zRef (some 0)), (1, .inl 46)] zh0 (zThen 129 [(0, zRef (some 102)), (1, .inl 46)]) = true := by decide +kernel
set_option maxRecDepth 100000 in
theorem zk_on_48 : zq 77 [(0, zRef (some 0)), (1, .inl 47)] zh0 (zThen 129 [(0, zRef (some 102)), (1, .inl 47)]) = true := by decide +kernel
set_option maxRecDepth 100000 in
theorem zk_on_49 : zq 77 [(0, zRef (some 0)), (1, .inl 48)] zh0 (zThen 129 [(0, zRef (some 102)), (1, .inl 48)]) = true := by decide +kernel
set_option maxRecDepth 100000 in
theorem zk_on_50 : zq 77 [(0, zRef (some 0)), (1, .inl 49)] zh0 (zThen 129 [(0, zRef (some 102)), (1, .inl 49)]) = true := by decide +kernel
set_option maxRecDepth 100000 in
theorem zk_on_51 : zq 77 [(0, zRef (some 0)), (1, .inl 50)] zh0 (zThen 129 [(0, zRef (some 102)), (1, .inl 50)]) = true := by decide +kernel
