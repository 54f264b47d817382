/-! printed by wip/whole/y/gen67.py: the rows are the methods' own (2 of 3) -/
set_option maxRecDepth 100000 in
theorem zr_86 : zc_86.all (fun l => l.all (yRowB zSS zGG zPl 86)) = true := by decide +kernel
set_option maxRecDepth 100000 in
theorem zr_87 : zc_87.all (fun l => l.all (yRowB zSS zGG zPl 87)) = true := by decide +kernel
set_option maxRecDepth 100000 in
theorem zr_88 : zc_88.all (fun l => l.all (yRowB zSS zGG zPl 88)) = true := by decide +kernel
set_option maxRecDepth 100000 in
theorem zr_89 : zc_89.all (fun l => l.all (yRowB zSS zGG zPl 89)) = true := by decide +kernel
set_option maxRecDepth 100000 in
theorem zr_90 : zc_90.all (fun l => l.all (yRowB zSS zGG zPl 90)) = true := by decide +kernel
set_option maxRecDepth 100000 in
theorem zr_91 : zc_91.all (fun l => l.all (yRowB zSS zGG zPl 91)) = true := by decide +kernel
set_option maxRecDepth 100000 in
theorem zr_92 : zc_92.all (fun l => l.all (yRowB zSS zGG zPl 92)) = true := by decide +kernel
set_option maxRecDepth 100000 in
theorem zr_93 : zc_93.all (fun l => l.all (yRowB zSS zGG zPl 93)) = true := by decide +kernel
set_option maxRecDepth 100000 in
theorem zr_94 : zc_94.all (fun l => l.all (yRowB zSS zGG zPl 94)) = true := by decide +kernel
set_option maxRecDepth 100000 in
theorem zr_95 : zc_95.all (fun l => l.all (yRowB zSS zGG zPl 95)) = true := by decide +kernel
set_option maxRecDepth 100000 in
theorem zr_96 : zc_96.all (fun l => l.all (yRowB zSS zGG zPl 96)) = true := by decide +kernel
set_option maxRecDepth 100000 in
theorem zr_97 : zc_97.all (fun l => l.all (yRowB zSS zGG zPl 97)) = true := by decide +kernel
set_option maxRecDepth 100000 in
theorem zr_98 : zc_98.all (fun l => l.all (yRowB zSS zGG zPl 98)) = true := by decide +kernel
set_option maxRecDepth 100000 in
theorem zr_99 : zc_99.all (fun l => l.all (yRowB zSS zGG zPl 99)) = true := by decide +kernel
set_option maxRecDepth 100000 in
theorem zr_100 : zc_100.all (fun l => l.all (yRowB zSS zGG zPl 100)) = true := by decide +kernel
set_option maxRecDepth 100000 in
theorem zr_101 : zc_101.all (fun l => l.all (yRowB zSS zGG zPl 101)) = true := by decide +kernel
set_option maxRecDepth 100000 in
theorem zr_102 : zc_102.all (fun l => l.all (yRowB zSS zGG zPl 102)) = true := by decide +kernel
set_option maxRecDepth 100000 in
theorem zr_103 : zc_103.all (fun l => l.all (yRowB zSS zGG zPl 103)) = true := by decide +kernel
set_option maxRecDepth 100000 in
theorem zr_104 : zc_104.all (fun l => l.all (yRowB zSS zGG zPl 104)) = true := by decide +kernel
set_option maxRecDepth 100000 in
theorem zr_105 : zc_105.all (fun l => l.all (yRowB zSS zGG zPl 105)) = true := by decide +kernel
set_option maxRecDepth 100000 in
theorem zr_106 : zc_106.all (fun l => l.all (yRowB zSS zGG zPl 106)) = true := by decide +kernel
set_option maxRecDepth 100000 in
theorem zr_107 : zc_107.all (fun l => l.all (yRowB zSS zGG zPl 107)) = true := by decide +kernel
set_option maxRecDepth 100000 in
theorem zr_108 : zc_108.all (fun l => l.all (yRowB zSS zGG zPl 108)) = true := by decide +kernel
set_option maxRecDepth 100000 in
theorem zr_109 : zc_109.all (fun l => l.all (yRowB zSS zGG zPl 109)) = true := by decide +kernel
set_option maxRecDepth 100000 in
theorem zr_110 : zc_110.all (fun l => l.all (yRowB zSS zGG zPl 110)) = true := by decide +kernel
set_option maxRecDepth 100000 in
theorem zr_111 : zc_111.all (fun l => l.all (yRowB zSS zGG zPl 111)) = true := by decide +kernel
set_option maxRecDepth 100000 in
theorem zr_112 : zc_112.all (fun l => l.all (yRowB zSS zGG zPl 112)) = true := by decide +kernel
set_option maxRecDepth 100000 in
theorem zr_113 : zc_113.all (fun l => l.all (yRowB zSS zGG zPl 113)) = true := by decide +kernel
set_option maxRecDepth 100000 in
theorem zr_114 : zc_114.all (fun l => l.all (yRowB zSS zGG zPl 114)) = true := by decide +kernel
set_option maxRecDepth 100000 in
theorem zr_115 : zc_115.all (fun l => l.all (yRowB zSS zGG zPl 115)) = true := by decide +kernel
set_option maxRecDepth 100000 in
theorem zr_116 : zc_116.all (fun l => l.all (yRowB zSS zGG zPl 116)) = true := by decide +kernel
set_option maxRecDepth 100000 in
theorem zr_117 : zc_117.all (fun l => l.all (yRowB zSS zGG zPl 117)) = true := by decide +kernel
set_option maxRecDepth 100000 in
theorem zr_118 : zc_118.all (fun l => l.all (yRowB zSS zGG zPl 118)) = true := by decide +kernel
set_option maxRecDepth 100000 in
theorem zr_119 : zc_119.all (fun l => l.all (yRowB zSS zGG zPl 119)) = true := by decide +kernel
set_option maxRecDepth 100000 in
theorem zr_120 : zc_120.all (fun l => l.all (yRowB zSS zGG zPl 120)) = true := by decide +kernel
set_option maxRecDepth 100000 in
theorem zr_121 : zc_121.all (fun l => l.all (yRowB zSS zGG zPl 121)) = true := by decide +kernel
set_option maxRecDepth 100000 in
theorem zr_122 : zc_122.all (fun l => l.all (yRowB zSS zGG zPl 122)) = true := by decide +kernel
set_option maxRecDepth 100000 in
theorem zr_123 : zc_123.all (fun l => l.all (yRowB zSS zGG zPl 123)) = true := by decide +kernel
set_option maxRecDepth 100000 in
theorem zr_124 : zc_124.all (fun l => l.all (yRowB zSS zGG zPl 124)) = true := by decide +kernel
set_option maxRecDepth 100000 in
theorem zr_125 : zc_125.all (fun l => l.all (yRowB zSS zGG zPl 125)) = true := by decide +kernel
set_option maxRecDepth 100000 in
theorem zr_126 : zc_126.all (fun l => l.all (yRowB zSS zGG zPl 126)) = true := by decide +kernel
set_option maxRecDepth 100000 in
theorem zr_127 : zc_127.all (fun l => l.all (yRowB zSS zGG zPl 127)) = true := by decide +kernel
set_option maxRecDepth 100000 in
theorem zr_128 : zc_128.all (fun l => l.all (yRowB zSS zGG zPl 128)) = true := by decide +kernel
set_option maxRecDepth 100000 in
theorem zr_129 : zc_129.all (fun l => l.all (yRowB zSS zGG zPl 129)) = true := by decide +kernel
set_option maxRecDepth 100000 in
theorem zr_130 : zc_130.all (fun l => l.all (yRowB zSS zGG zPl 130)) = true := by decide +kernel
set_option maxRecDepth 100000 in
theorem zr_131 : zc_131.all (fun l => l.all (yRowB zSS zGG zPl 131)) = true := by decide +kernel
set_option maxRecDepth 100000 in
theorem zr_132 : zc_132.all (fun l => l.all (yRowB zSS zGG zPl 132)) = true := by decide +kernel
set_option maxRecDepth 100000 in
theorem zr_133 : zc_133.all (fun l => l.all (yRowB zSS zGG zPl 133)) = true := by decide +kernel
set_option maxRecDepth 100000 in
theorem zr_134 : zc_134.all (fun l => l.all (yRowB zSS zGG zPl 134)) = true := by decide +kernel
set_option maxRecDepth 100000 in
theorem zr_135 : zc_135.all (fun l => l.all (yRowB zSS zGG zPl 135)) = true := by decide +kernel
set_option maxRecDepth 100000 in
theorem zr_136 : zc_136.all (fun l => l.all (yRowB zSS zGG zPl 136)) = true := by decide +kernel
set_option maxRecDepth 100000 in
theorem zr_137 : zc_137.all (fun l => l.all (yRowB zSS zGG zPl 137)) = true := by decide +kernel
set_option maxRecDepth 100000 in
theorem zr_138 : zc_138.all (fun l => l.all (yRowB zSS zGG zPl 138)) = true := by decide +kernel
set_option maxRecDepth 100000 in
theorem zr_139 : zc_139.all (fun l => l.all (yRowB zSS zGG zPl 139)) = true := by decide +kernel
set_option maxRecDepth 100000 in
theorem zr_140 : zc_140.all (fun l => l.all (yRowB zSS zGG zPl 140)) = true := by decide +kernel
set_option maxRecDepth 100000 in
theorem zr_141 : zc_141.all (fun l => l.all (yRowB zSS zGG zPl 141)) = true := by decide +kernel
set_option maxRecDepth 100000 in
theorem zr_142 : zc_142.all (fun l => l.all (yRowB zSS zGG zPl 142)) = true := by decide +kernel
set_option maxRecDepth 100000 in
theorem zr_143 : zc_143.all (fun l => l.all (yRowB zSS zGG zPl 143)) = true := by decide +kernel
set_option maxRecDepth 100000 in
theorem zr_144 : zc_144.all (fun l => l.all (yRowB zSS zGG zPl 144)) = true := by decide +kernel
set_option maxRecDepth 100000 in
theorem zr_145 : zc_145.all (fun l => l.all (yRowB zSS zGG zPl 145)) = true := by decide +kernel
set_option maxRecDepth 100000 in
theorem zr_146 : zc_146.all (fun l => l.all (yRowB zSS zGG zPl 146)) = true := by decide +kernel
set_option maxRecDepth 100000 in
theorem zr_147 : zc_147.all (fun l => l.all (yRowB zSS zGG zPl 147)) = true := by decide +kernel
set_option maxRecDepth 100000 in
theorem zr_148 : zc_148.all (fun l => l.all (yRowB zSS zGG zPl 148)) = true := by decide +kernel
set_option maxRecDepth 100000 in
theorem zr_149 : zc_149.all (fun l => l.all (yRowB zSS zGG zPl 149)) = true := by decide +kernel
set_option maxRecDepth 100000 in
theorem zr_150 : zc_150.all (fun l => l.all (yRowB zSS zGG zPl 150)) = true := by decide +kernel
set_option maxRecDepth 100000 in
theorem zr_151 : zc_151.all (fun l => l.all (yRowB zSS zGG zPl 151)) = true := by decide +kernel
set_option maxRecDepth 100000 in
theorem zr_152 : zc_152.all (fun l => l.all (yRowB zSS zGG zPl 152)) = true := by decide +kernel
set_option maxRecDepth 100000 in
theorem zr_153 : zc_153.all (fun l => l.all (yRowB zSS zGG zPl 153)) = true := by decide +kernel
set_option maxRecDepth 100000 in
theorem zr_154 : zc_154.all (fun l => l.all (yRowB zSS zGG zPl 154)) = true := by decide +kernel
set_option maxRecDepth 100000 in
theorem zr_155 : zc_155.all (fun l => l.all (yRowB zSS zGG zPl 155)) = true := by decide +kernel
set_option maxRecDepth 100000 in
theorem zr_156 : zc_156.all (fun l => l.all (yRowB zSS zGG zPl 156)) = true := by decide +kernel
set_option maxRecDepth 100000 in
theorem zr_157 : zc_157.all (fun l => l.all (yRowB zSS zGG zPl 157)) = true := by decide +kernel
set_option maxRecDepth 100000 in
theorem zr_158 : zc_158.all (fun l => l.all (yRowB zSS zGG zPl 158)) = true := by decide +kernel
set_option maxRecDepth 100000 in
theorem zr_159 : zc_159.all (fun l => l.all (yRowB zSS zGG zPl 159)) = true := by decide +kernel
set_option maxRecDepth 100000 in
theorem zr_160 : zc_160.all (fun l => l.all (yRowB zSS zGG zPl 160)) = true := by decide +kernel
set_option maxRecDepth 100000 in
theorem zr_161 : zc_161.all (fun l => l.all (yRowB zSS zGG zPl 161)) = true := by decide +kernel
set_option maxRecDepth 100000 in
theorem zr_162 : zc_162.all (fun l => l.all (yRowB zSS zGG zPl 162)) = true := by decide +kernel
set_option maxRecDepth 100000 in
theorem zr_163 : zc_163.all (fun l => l.all (yRowB zSS zGG zPl 163)) = true := by decide +kernel
set_option maxRecDepth 100000 in
theorem zr_164 : zc_164.all (fun l => l.all (yRowB zSS zGG zPl 164)) = true := by decide +kernel
set_option maxRecDepth 100000 in
theorem zr_165 : zc_165.all (fun l => l.all (yRowB zSS zGG zPl 165)) = true := by decide +kernel
set_option maxRecDepth 100000 in
theorem zr_166 : zc_166.all (fun l => l.all (yRowB zSS zGG zPl 166)) = true := by decide +kernel
set_option maxRecDepth 100000 in
theorem zr_167 : zc_167.all (fun l => l.all (yRowB zSS zGG zPl 167)) = true := by decide +kernel
set_option maxRecDepth 100000 in
theorem zr_168 : zc_168.all (fun l => l.all (yRowB zSS zGG zPl 168)) = true := by decide +kernel
set_option maxRecDepth 100000 in
theorem zr_169 : zc_169.all (fun l => l.all (yRowB zSS zGG zPl 169)) = true := by decide +kernel
set_option maxRecDepth 100000 in
theorem zr_170 : zc_170.all (fun l => l.all (yRowB zSS zGG zPl 170)) = true := by decide +kernel
set_option maxRecDepth 100000 in
theorem zr_171 : zc_171.all (fun l => l.all (yRowB zSS zGG zPl 171)) = true := by decide +kernel
