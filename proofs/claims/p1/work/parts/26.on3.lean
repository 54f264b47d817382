set_option maxRecDepth 100000 in
theorem zk_on_77 : zq 77 [(0, zRef (some 0)), (1, .inl 76)] zh0 (zThen 129 [(0, zRef (some 102)), (1, .inl 76)]) = true := by decide +kernel
set_option maxRecDepth 100000 in
theorem zk_on_78 : zq 77 [(0, zRef (some 0)), (1, .inl 77)] zh0 (zThen 129 [(0, zRef (some 102)), (1, .inl 77)]) = true := by decide +kernel
set_option maxRecDepth 100000 in
theorem zk_on_79 : zq 77 [(0, zRef (some 0)), (1, .inl 78)] zh0 (zThen 129 [(0, zRef (some 102)), (1, .inl 78)]) = true := by decide +kernel
set_option maxRecDepth 100000 in
theorem zk_on_80 : zq 77 [(0, zRef (some 0)), (1, .inl 79)] zh0 (zThen 129 [(0, zRef (some 102)), (1, .inl 79)]) = true := by decide +kernel
set_option maxRecDepth 100000 in
theorem zk_on_81 : zq 77 [(0, zRef (some 0)), (1, .inl 80)] zh0 (zThen 129 [(0, zRef (some 102)), (1, .inl 80)]) = true := by decide +kernel
set_option maxRecDepth 100000 in
theorem zk_on_82 : zq 77 [(0, zRef (some 0)), (1, .inl 81)] zh0 (zThen 129 [(0, zRef (some 102)), (1, .inl 81)]) = true := by decide +kernel
set_option maxRecDepth 100000 in
theorem zk_on_83 : zq 77 [(0, zRef (some 0)), (1, .inl 82)] zh0 (zThen 129 [(0, zRef (some 102)), (1, .inl 82)]) = true := by decide +kernel
set_option maxRecDepth 100000 in
theorem zk_on_84 : zq 77 [(0, zRef (some 0)), (1, .inl 83)] zh0 (zThen 129 [(0, zRef (some 102)), (1, .inl 83)]) = true := by decide +kernel
set_option maxRecDepth 100000 in
theorem zk_on_85 : zq 77 [(0, zRef (some 0)), (1, .inl 84)] zh0 (zThen 129 [(0, zRef (some 102)), (1, .inl 84)]) = true := by decide +kernel
set_option maxRecDepth 100000 in
theorem zk_on_86 : zq 77 [(0, zRef (some 0)), (1, .inl 85)] zh0 (zThen 129 [(0, zRef (some 102)), (1, .inl 85)]) = true := by decide +kernel
set_option maxRecDepth 100000 in
theorem zk_on_87 : zq 77 [(0, zRef (some 0)), (1, .inl 86)] zh0 (zThen 129 [(0, zRef (some 102)), (1, .inl 86)]) = true := by decide +kernel
set_option maxRecDepth 100000 in
theorem zk_on_88 : zq 77 [(0, zRef (some 0)), (1, .inl 87)] zh0 (zThen 129 [(0, zRef (some 102)), (1, .inl 87)]) = true := by decide +kernel
set_option maxRecDepth 100000 in
theorem zk_on_89 : zq 77 [(0, zRef (some 0)), (1, .inl 88)] zh0 (zThen 129 [(0, zRef (some 102)), (1, .inl 88)]) = true := by decide +kernel
set_option maxRecDepth 100000 in
theorem zk_on_90 : zq 77 [(0, zRef (some 0)), (1, .inl 89)] zh0 (zThen 129 [(0, zRef (some 102)), (1, .inl 89)]) = true := by decide +kernel
set_option maxRecDepth 100000 in
theorem zk_on_91 : zq 77 [(0, zRef (some 0)), (1, .inl 90)] zh0 (zThen 129 [(0, zRef (some 102)), (1, .inl 90)]) = true := by decide +kernel
set_option maxRecDepth 100000 in
theorem zk_on_92 : zq 77 [(0, zRef (some 0)), (1, .inl 91)] zh0 (zThen 129 [(0, zRef (some 102)), (1, .inl 91)]) = true := by decide +kernel
set_option maxRecDepth 100000 in
theorem zk_on_93 : zq 77 [(0, zRef (some 0)), (1, .inl 92)] zh0 (zThen 129 [(0, zRef (some 102)), (1, .inl 92)]) = true := by decide +kernel
set_option maxRecDepth 100000 in
theorem zk_on_94 : zq 77 [(0, zRef (some 0)), (1, .inl 93)] zh0 (zThen 129 [(0, zRef (some 102)), (1, .inl 93)]) = true := by decide +kernel
set_option maxRecDepth 100000 in
theorem zk_on_95 : zq 77 [(0, zRef (some 0)), (1, .inl 94)] zh0 (zThen 129 [(0, zRef (some 102)), (1, .inl 94)]) = true := by decide +kernel
set_option maxRecDepth 100000 in
theorem zk_on_96 : zq 77 [(0, zRef (some 0)), (1, .inl 95)] zh0 (zThen 129 [(0, zRef (some 102)), (1, .inl 95)]) = true := by decide +kernel
set_option maxRecDepth 100000 in
theorem zk_on_97 : zq 77 [(0, zRef (some 0)), (1, .inl 96)] zh0 (zThen 129 [(0, zRef (some 102)), (1, .inl 96)]) = true := by decide +kernel
set_option maxRecDepth 100000 in
theorem zk_on_98 : zq 77 [(0, zRef (some 0)), (1, .inl 97)] zh0 (zThen 129 [(0, zRef (some 102)), (1, .inl 97)]) = true := by decide +kernel
set_option maxRecDepth 100000 in
theorem zk_on_99 : zq 77 [(0, zRef (some 0)), (1, .inl 98)] zh0 (zThen 129 [(0, zRef (some 102)), (1, .inl 98)]) = true := by decide +kernel
set_option maxRecDepth 100000 in
theorem zk_on_100 : zq 77 [(0, zRef (some 0)), (1, .inl 99)] zh0 (zThen 129 [(0, zRef (some 102)), (1, .inl 99)]) = true := by decide +kernel
set_option maxRecDepth 100000 in
theorem zk_on_101 : zq 77 [(0, zRef (some 0)), (1, .inl 100)] zh0 (zThen 129 [(0, zRef (some 102)), (1, .inl 100)]) = true := by decide +kernel
