set_option maxRecDepth 100000 in
theorem zk_on_52 : zq 77 [(0, zRef (some 0)), (1, .inl 51)] zh0 (zThen 129 [(0, zRef (some 102)), (1, .inl 51)]) = true := by decide +kernel
set_option maxRecDepth 100000 in
theorem zk_on_53 : zq 77 [(0, zRef (some 0)), (1, .inl 52)] zh0 (zThen 129 [(0, zRef (some 102)), (1, .inl 52)]) = true := by decide +kernel
set_option maxRecDepth 100000 in
theorem zk_on_54 : zq 77 [(0, zRef (some 0)), (1, .inl 53)] zh0 (zThen 129 [(0, zRef (some 102)), (1, .inl 53)]) = true := by decide +kernel
set_option maxRecDepth 100000 in
theorem zk_on_55 : zq 77 [(0, zRef (some 0)), (1, .inl 54)] zh0 (zThen 129 [(0, zRef (some 102)), (1, .inl 54)]) = true := by decide +kernel
set_option maxRecDepth 100000 in
theorem zk_on_56 : zq 77 [(0, zRef (some 0)), (1, .inl 55)] zh0 (zThen 129 [(0, zRef (some 102)), (1, .inl 55)]) = true := by decide +kernel
set_option maxRecDepth 100000 in
theorem zk_on_57 : zq 77 [(0, zRef (some 0)), (1, .inl 56)] zh0 (zThen 129 [(0, zRef (some 102)), (1, .inl 56)]) = true := by decide +kernel
set_option maxRecDepth 100000 in
theorem zk_on_58 : zq 77 [(0, zRef (some 0)), (1, .inl 57)] zh0 (zThen 129 [(0, zRef (some 102)), (1, .inl 57)]) = true := by decide +kernel
set_option maxRecDepth 100000 in
theorem zk_on_59 : zq 77 [(0, zRef (some 0)), (1, .inl 58)] zh0 (zThen 129 [(0, zRef (some 102)), (1, .inl 58)]) = true := by decide +kernel
set_option maxRecDepth 100000 in
theorem zk_on_60 : zq 77 [(0, zRef (some 0)), (1, .inl 59)] zh0 (zThen 129 [(0, zRef (some 102)), (1, .inl 59)]) = true := by decide +kernel
set_option maxRecDepth 100000 in
theorem zk_on_61 : zq 77 [(0, zRef (some 0)), (1, .inl 60)] zh0 (zThen 129 [(0, zRef (some 102)), (1, .inl 60)]) = true := by decide +kernel
set_option maxRecDepth 100000 in
theorem zk_on_62 : zq 77 [(0, zRef (some 0)), (1, .inl 61)] zh0 (zThen 129 [(0, zRef (some 102)), (1, .inl 61)]) = true := by decide +kernel
set_option maxRecDepth 100000 in
theorem zk_on_63 : zq 77 [(0, zRef (some 0)), (1, .inl 62)] zh0 (zThen 129 [(0, zRef (some 102)), (1, .inl 62)]) = true := by decide +kernel
set_option maxRecDepth 100000 in
theorem zk_on_64 : zq 77 [(0, zRef (some 0)), (1, .inl 63)] zh0 (zThen 129 [(0, zRef (some 102)), (1, .inl 63)]) = true := by decide +kernel
set_option maxRecDepth 100000 in
theorem zk_on_65 : zq 77 [(0, zRef (some 0)), (1, .inl 64)] zh0 (zThen 129 [(0, zRef (some 102)), (1, .inl 64)]) = true := by decide +kernel
set_option maxRecDepth 100000 in
theorem zk_on_66 : zq 77 [(0, zRef (some 0)), (1, .inl 65)] zh0 (zThen 129 [(0, zRef (some 102)), (1, .inl 65)]) = true := by decide +kernel
set_option maxRecDepth 100000 in
theorem zk_on_67 : zq 77 [(0, zRef (some 0)), (1, .inl 66)] zh0 (zThen 129 [(0, zRef (some 102)), (1, .inl 66)]) = true := by decide +kernel
set_option maxRecDepth 100000 in
theorem zk_on_68 : zq 77 [(0, zRef (some 0)), (1, .inl 67)] zh0 (zThen 129 [(0, zRef (some 102)), (1, .inl 67)]) = true := by decide +kernel
set_option maxRecDepth 100000 in
theorem zk_on_69 : zq 77 [(0, zRef (some 0)), (1, .inl 68)] zh0 (zThen 129 [(0, zRef (some 102)), (1, .inl 68)]) = true := by decide +kernel
set_option maxRecDepth 100000 in
theorem zk_on_70 : zq 77 [(0, zRef (some 0)), (1, .inl 69)] zh0 (zThen 129 [(0, zRef (some 102)), (1, .inl 69)]) = true := by decide +kernel
set_option maxRecDepth 100000 in
theorem zk_on_71 : zq 77 [(0, zRef (some 0)), (1, .inl 70)] zh0 (zThen 129 [(0, zRef (some 102)), (1, .inl 70)]) = true := by decide +kernel
set_option maxRecDepth 100000 in
theorem zk_on_72 : zq 77 [(0, zRef (some 0)), (1, .inl 71)] zh0 (zThen 129 [(0, zRef (some 102)), (1, .inl 71)]) = true := by decide +kernel
set_option maxRecDepth 100000 in
theorem zk_on_73 : zq 77 [(0, zRef (some 0)), (1, .inl 72)] zh0 (zThen 129 [(0, zRef (some 102)), (1, .inl 72)]) = true := by decide +kernel
set_option maxRecDepth 100000 in
theorem zk_on_74 : zq 77 [(0, zRef (some 0)), (1, .inl 73)] zh0 (zThen 129 [(0, zRef (some 102)), (1, .inl 73)]) = true := by decide +kernel
set_option maxRecDepth 100000 in
theorem zk_on_75 : zq 77 [(0, zRef (some 0)), (1, .inl 74)] zh0 (zThen 129 [(0, zRef (some 102)), (1, .inl 74)]) = true := by decide +kernel
set_option maxRecDepth 100000 in
theorem zk_on_76 : zq 77 [(0, zRef (some 0)), (1, .inl 75)] zh0 (zThen 129 [(0, zRef (some 102)), (1, .inl 75)]) = true := by decide +kernel
