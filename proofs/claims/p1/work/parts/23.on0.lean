set_option maxRecDepth 100000 in
theorem zk_on_2 : zq 77 [(0, zRef (some 0)), (1, .inl 1)] zh0 (zThen 129 [(0, zRef (some 102)), (1, .inl 1)]) = true := by decide +kernel
set_option maxRecDepth 100000 in
theorem zk_on_3 : zq 77 [(0, zRef (some 0)), (1, .inl 2)] zh0 (zThen 129 [(0, zRef (some 102)), (1, .inl 2)]) = true := by decide +kernel
set_option maxRecDepth 100000 in
theorem zk_on_4 : zq 77 [(0, zRef (some 0)), (1, .inl 3)] zh0 (zThen 129 [(0, zRef (some 102)), (1, .inl 3)]) = true := by decide +kernel
set_option maxRecDepth 100000 in
theorem zk_on_5 : zq 77 [(0, zRef (some 0)), (1, .inl 4)] zh0 (zThen 129 [(0, zRef (some 102)), (1, .inl 4)]) = true := by decide +kernel
set_option maxRecDepth 100000 in
theorem zk_on_6 : zq 77 [(0, zRef (some 0)), (1, .inl 5)] zh0 (zThen 129 [(0, zRef (some 102)), (1, .inl 5)]) = true := by decide +kernel
set_option maxRecDepth 100000 in
theorem zk_on_7 : zq 77 [(0, zRef (some 0)), (1, .inl 6)] zh0 (zThen 129 [(0, zRef (some 102)), (1, .inl 6)]) = true := by decide +kernel
set_option maxRecDepth 100000 in
theorem zk_on_8 : zq 77 [(0, zRef (some 0)), (1, .inl 7)] zh0 (zThen 129 [(0, zRef (some 102)), (1, .inl 7)]) = true := by decide +kernel
set_option maxRecDepth 100000 in
theorem zk_on_9 : zq 77 [(0, zRef (some 0)), (1, .inl 8)] zh0 (zThen 129 [(0, zRef (some 102)), (1, .inl 8)]) = true := by decide +kernel
set_option maxRecDepth 100000 in
theorem zk_on_10 : zq 77 [(0, zRef (some 0)), (1, .inl 9)] zh0 (zThen 129 [(0, zRef (some 102)), (1, .inl 9)]) = true := by decide +kernel
set_option maxRecDepth 100000 in
theorem zk_on_11 : zq 77 [(0, zRef (some 0)), (1, .inl 10)] zh0 (zThen 129 [(0, zRef (some 102)), (1, .inl 10)]) = true := by decide +kernel
set_option maxRecDepth 100000 in
theorem zk_on_12 : zq 77 [(0, zRef (some 0)), (1, .inl 11)] zh0 (zThen 129 [(0, zRef (some 102)), (1, .inl 11)]) = true := by decide +kernel
set_option maxRecDepth 100000 in
theorem zk_on_13 : zq 77 [(0, zRef (some 0)), (1, .inl 12)] zh0 (zThen 129 [(0, zRef (some 102)), (1, .inl 12)]) = true := by decide +kernel
set_option maxRecDepth 100000 in
theorem zk_on_14 : zq 77 [(0, zRef (some 0)), (1, .inl 13)] zh0 (zThen 129 [(0, zRef (some 102)), (1, .inl 13)]) = true := by decide +kernel
set_option maxRecDepth 100000 in
theorem zk_on_15 : zq 77 [(0, zRef (some 0)), (1, .inl 14)] zh0 (zThen 129 [(0, zRef (some 102)), (1, .inl 14)]) = true := by decide +kernel
set_option maxRecDepth 100000 in
theorem zk_on_16 : zq 77 [(0, zRef (some 0)), (1, .inl 15)] zh0 (zThen 129 [(0, zRef (some 102)), (1, .inl 15)]) = true := by decide +kernel
set_option maxRecDepth 100000 in
theorem zk_on_17 : zq 77 [(0, zRef (some 0)), (1, .inl 16)] zh0 (zThen 129 [(0, zRef (some 102)), (1, .inl 16)]) = true := by decide +kernel
set_option maxRecDepth 100000 in
theorem zk_on_18 : zq 77 [(0, zRef (some 0)), (1, .inl 17)] zh0 (zThen 129 [(0, zRef (some 102)), (1, .inl 17)]) = true := by decide +kernel
set_option maxRecDepth 100000 in
theorem zk_on_19 : zq 77 [(0, zRef (some 0)), (1, .inl 18)] zh0 (zThen 129 [(0, zRef (some 102)), (1, .inl 18)]) = true := by decide +kernel
set_option maxRecDepth 100000 in
theorem zk_on_20 : zq 77 [(0, zRef (some 0)), (1, .inl 19)] zh0 (zThen 129 [(0, zRef (some 102)), (1, .inl 19)]) = true := by decide +kernel
set_option maxRecDepth 100000 in
theorem zk_on_21 : zq 77 [(0, zRef (some 0)), (1, .inl 20)] zh0 (zThen 129 [(0, zRef (some 102)), (1, .inl 20)]) = true := by decide +kernel
set_option maxRecDepth 100000 in
theorem zk_on_22 : zq 77 [(0, zRef (some 0)), (1, .inl 21)] zh0 (zThen 129 [(0, zRef (some 102)), (1, .inl 21)]) = true := by decide +kernel
set_option maxRecDepth 100000 in
theorem zk_on_23 : zq 77 [(0, zRef (some 0)), (1, .inl 22)] zh0 (zThen 129 [(0, zRef (some 102)), (1, .inl 22)]) = true := by decide +kernel
set_option maxRecDepth 100000 in
theorem zk_on_24 : zq 77 [(0, zRef (some 0)), (1, .inl 23)] zh0 (zThen 129 [(0, zRef (some 102)), (1, .inl 23)]) = true := by decide +kernel
set_option maxRecDepth 100000 in
theorem zk_on_25 : zq 77 [(0, zRef (some 0)), (1, .inl 24)] zh0 (zThen 129 [(0, zRef (some 102)), (1, .inl 24)]) = true := by decide +kernel
set_option maxRecDepth 100000 in
theorem zk_on_26 : zq 77 [(0, zRef (some 0)), (1, .inl 25)] zh0 (zThen 129 [(0, zRef (some 102)), (1, .inl 25)]) = true := by decide +kernel
