/-! printed by wip/whole/y/gen67.py: what is known of the methods that are called (2 of 2); all of it -/
set_option maxRecDepth 100000 in
theorem zm_129 : zMtB zSS zPl 129 2 = true := by decide +kernel
set_option maxRecDepth 100000 in
theorem zm_130 : zMtB zSS zPl 130 3 = true := by decide +kernel
set_option maxRecDepth 100000 in
theorem zm_131 : zMtB zSS zPl 131 1 = true := by decide +kernel
set_option maxRecDepth 100000 in
theorem zm_132 : zMtB zSS zPl 132 3 = true := by decide +kernel
set_option maxRecDepth 100000 in
theorem zm_133 : zMtB zSS zPl 133 4 = true := by decide +kernel
set_option maxRecDepth 100000 in
theorem zm_134 : zMtB zSS zPl 134 1 = true := by decide +kernel
set_option maxRecDepth 100000 in
theorem zm_135 : zMtB zSS zPl 135 2 = true := by decide +kernel
set_option maxRecDepth 100000 in
theorem zm_136 : zMtB zSS zPl 136 3 = true := by decide +kernel
set_option maxRecDepth 100000 in
theorem zm_137 : zMtB zSS zPl 137 2 = true := by decide +kernel
set_option maxRecDepth 100000 in
theorem zm_138 : zMtB zSS zPl 138 4 = true := by decide +kernel
set_option maxRecDepth 100000 in
theorem zm_139 : zMtB zSS zPl 139 5 = true := by decide +kernel
set_option maxRecDepth 100000 in
theorem zm_140 : zMtB zSS zPl 140 3 = true := by decide +kernel
set_option maxRecDepth 100000 in
theorem zm_141 : zMtB zSS zPl 141 8 = true := by decide +kernel
set_option maxRecDepth 100000 in
theorem zm_142 : zMtB zSS zPl 142 2 = true := by decide +kernel
set_option maxRecDepth 100000 in
theorem zm_143 : zMtB zSS zPl 143 1 = true := by decide +kernel
set_option maxRecDepth 100000 in
theorem zm_144 : zMtB zSS zPl 144 2 = true := by decide +kernel
set_option maxRecDepth 100000 in
theorem zm_145 : zMtB zSS zPl 145 4 = true := by decide +kernel
set_option maxRecDepth 100000 in
theorem zm_146 : zMtB zSS zPl 146 2 = true := by decide +kernel
set_option maxRecDepth 100000 in
theorem zm_147 : zMtB zSS zPl 147 2 = true := by decide +kernel
set_option maxRecDepth 100000 in
theorem zm_148 : zMtB zSS zPl 148 9 = true := by decide +kernel
set_option maxRecDepth 100000 in
theorem zm_149 : zMtB zSS zPl 149 1 = true := by decide +kernel
set_option maxRecDepth 100000 in
theorem zm_150 : zMtB zSS zPl 150 1 = true := by decide +kernel
set_option maxRecDepth 100000 in
theorem zm_151 : zMtB zSS zPl 151 6 = true := by decide +kernel
set_option maxRecDepth 100000 in
theorem zm_152 : zMtB zSS zPl 152 3 = true := by decide +kernel
set_option maxRecDepth 100000 in
theorem zm_153 : zMtB zSS zPl 153 2 = true := by decide +kernel
set_option maxRecDepth 100000 in
theorem zm_154 : zMtB zSS zPl 154 1 = true := by decide +kernel
set_option maxRecDepth 100000 in
theorem zm_155 : zMtB zSS zPl 155 5 = true := by decide +kernel
set_option maxRecDepth 100000 in
theorem zm_156 : zMtB zSS zPl 156 2 = true := by decide +kernel
set_option maxRecDepth 100000 in
theorem zm_157 : zMtB zSS zPl 157 3 = true := by decide +kernel
set_option maxRecDepth 100000 in
theorem zm_158 : zMtB zSS zPl 158 2 = true := by decide +kernel
set_option maxRecDepth 100000 in
theorem zm_159 : zMtB zSS zPl 159 2 = true := by decide +kernel
set_option maxRecDepth 100000 in
theorem zm_160 : zMtB zSS zPl 160 3 = true := by decide +kernel
set_option maxRecDepth 100000 in
theorem zm_161 : zMtB zSS zPl 161 2 = true := by decide +kernel
set_option maxRecDepth 100000 in
theorem zm_162 : zMtB zSS zPl 162 1 = true := by decide +kernel
set_option maxRecDepth 100000 in
theorem zm_163 : zMtB zSS zPl 163 5 = true := by decide +kernel
set_option maxRecDepth 100000 in
theorem zm_164 : zMtB zSS zPl 164 2 = true := by decide +kernel
set_option maxRecDepth 100000 in
theorem zm_165 : zMtB zSS zPl 165 3 = true := by decide +kernel
set_option maxRecDepth 100000 in
theorem zm_166 : zMtB zSS zPl 166 2 = true := by decide +kernel
set_option maxRecDepth 100000 in
theorem zm_167 : zMtB zSS zPl 167 3 = true := by decide +kernel
set_option maxRecDepth 100000 in
theorem zm_168 : zMtB zSS zPl 168 4 = true := by decide +kernel
set_option maxRecDepth 100000 in
theorem zm_169 : zMtB zSS zPl 169 4 = true := by decide +kernel
set_option maxRecDepth 100000 in
theorem zm_170 : zMtB zSS zPl 170 4 = true := by decide +kernel
set_option maxRecDepth 100000 in
theorem zm_171 : zMtB zSS zPl 171 2 = true := by decide +kernel
set_option maxRecDepth 100000 in
theorem zm_172 : zMtB zSS zPl 172 1 = true := by decide +kernel
set_option maxRecDepth 100000 in
theorem zm_173 : zMtB zSS zPl 173 4 = true := by decide +kernel
set_option maxRecDepth 100000 in
theorem zm_174 : zMtB zSS zPl 174 2 = true := by decide +kernel
set_option maxRecDepth 100000 in
theorem zm_175 : zMtB zSS zPl 175 2 = true := by decide +kernel
set_option maxRecDepth 100000 in
theorem zm_176 : zMtB zSS zPl 176 2 = true := by decide +kernel
set_option maxRecDepth 100000 in
theorem zm_177 : zMtB zSS zPl 177 2 = true := by decide +kernel
set_option maxRecDepth 100000 in
theorem zm_178 : zMtB zSS zPl 178 1 = true := by decide +kernel
set_option maxRecDepth 100000 in
theorem zm_179 : zMtB zSS zPl 179 6 = true := by decide +kernel
set_option maxRecDepth 100000 in
theorem zm_180 : zMtB zSS zPl 180 4 = true := by decide +kernel
set_option maxRecDepth 100000 in
theorem zm_181 : zMtB zSS zPl 181 3 = true := by decide +kernel
set_option maxRecDepth 100000 in
theorem zm_182 : zMtB zSS zPl 182 4 = true := by decide +kernel
set_option maxRecDepth 100000 in
theorem zm_183 : zMtB zSS zPl 183 2 = true := by decide +kernel
set_option maxRecDepth 100000 in
theorem zm_184 : zMtB zSS zPl 184 3 = true := by decide +kernel
set_option maxRecDepth 100000 in
theorem zm_185 : zMtB zSS zPl 185 5 = true := by decide +kernel
set_option maxRecDepth 100000 in
theorem zm_186 : zMtB zSS zPl 186 5 = true := by decide +kernel
set_option maxRecDepth 100000 in
theorem zm_187 : zMtB zSS zPl 187 2 = true := by decide +kernel
set_option maxRecDepth 100000 in
theorem zm_188 : zMtB zSS zPl 188 2 = true := by decide +kernel
set_option maxRecDepth 100000 in
theorem zm_189 : zMtB zSS zPl 189 1 = true := by decide +kernel
set_option maxRecDepth 100000 in
theorem zm_190 : zMtB zSS zPl 190 2 = true := by decide +kernel
set_option maxRecDepth 100000 in
theorem zm_191 : zMtB zSS zPl 191 3 = true := by decide +kernel
set_option maxRecDepth 100000 in
theorem zm_192 : zMtB zSS zPl 192 6 = true := by decide +kernel
set_option maxRecDepth 100000 in
theorem zm_193 : zMtB zSS zPl 193 1 = true := by decide +kernel
set_option maxRecDepth 100000 in
theorem zm_194 : zMtB zSS zPl 194 3 = true := by decide +kernel
set_option maxRecDepth 100000 in
theorem zm_195 : zMtB zSS zPl 195 5 = true := by decide +kernel
set_option maxRecDepth 100000 in
theorem zm_196 : zMtB zSS zPl 196 2 = true := by decide +kernel
set_option maxRecDepth 100000 in
theorem zm_197 : zMtB zSS zPl 197 1 = true := by decide +kernel
set_option maxRecDepth 100000 in
theorem zm_198 : zMtB zSS zPl 198 2 = true := by decide +kernel
set_option maxRecDepth 100000 in
theorem zm_199 : zMtB zSS zPl 199 3 = true := by decide +kernel
set_option maxRecDepth 100000 in
theorem zm_200 : zMtB zSS zPl 200 2 = true := by decide +kernel
set_option maxRecDepth 100000 in
theorem zm_201 : zMtB zSS zPl 201 4 = true := by decide +kernel
set_option maxRecDepth 100000 in
theorem zm_202 : zMtB zSS zPl 202 2 = true := by decide +kernel
set_option maxRecDepth 100000 in
theorem zm_203 : zMtB zSS zPl 203 2 = true := by decide +kernel
set_option maxRecDepth 100000 in
theorem zm_204 : zMtB zSS zPl 204 5 = true := by decide +kernel
set_option maxRecDepth 100000 in
theorem zm_205 : zMtB zSS zPl 205 3 = true := by decide +kernel
set_option maxRecDepth 100000 in
theorem zm_206 : zMtB zSS zPl 206 2 = true := by decide +kernel
set_option maxRecDepth 100000 in
theorem zm_207 : zMtB zSS zPl 207 3 = true := by decide +kernel
set_option maxRecDepth 100000 in
theorem zm_208 : zMtB zSS zPl 208 3 = true := by decide +kernel
set_option maxRecDepth 100000 in
theorem zm_209 : zMtB zSS zPl 209 1 = true := by decide +kernel
set_option maxRecDepth 100000 in
theorem zm_210 : zMtB zSS zPl 210 6 = true := by decide +kernel
set_option maxRecDepth 100000 in
theorem zm_211 : zMtB zSS zPl 211 3 = true := by decide +kernel
set_option maxRecDepth 100000 in
theorem zm_212 : zMtB zSS zPl 212 2 = true := by decide +kernel
set_option maxRecDepth 100000 in
theorem zm_213 : zMtB zSS zPl 213 6 = true := by decide +kernel
set_option maxRecDepth 100000 in
theorem zm_214 : zMtB zSS zPl 214 3 = true := by decide +kernel
set_option maxRecDepth 100000 in
theorem zm_215 : zMtB zSS zPl 215 2 = true := by decide +kernel
set_option maxRecDepth 100000 in
theorem zm_216 : zMtB zSS zPl 216 2 = true := by decide +kernel
set_option maxRecDepth 100000 in
theorem zm_217 : zMtB zSS zPl 217 1 = true := by decide +kernel
set_option maxRecDepth 100000 in
theorem zm_218 : zMtB zSS zPl 218 6 = true := by decide +kernel
set_option maxRecDepth 100000 in
theorem zm_219 : zMtB zSS zPl 219 5 = true := by decide +kernel
set_option maxRecDepth 100000 in
theorem zm_220 : zMtB zSS zPl 220 3 = true := by decide +kernel
set_option maxRecDepth 100000 in
theorem zm_221 : zMtB zSS zPl 221 8 = true := by decide +kernel
set_option maxRecDepth 100000 in
theorem zm_222 : zMtB zSS zPl 222 5 = true := by decide +kernel
set_option maxRecDepth 100000 in
theorem zm_223 : zMtB zSS zPl 223 2 = true := by decide +kernel
set_option maxRecDepth 100000 in
theorem zm_224 : zMtB zSS zPl 224 4 = true := by decide +kernel
set_option maxRecDepth 100000 in
theorem zm_225 : zMtB zSS zPl 225 1 = true := by decide +kernel
set_option maxRecDepth 100000 in
theorem zm_226 : zMtB zSS zPl 226 2 = true := by decide +kernel
set_option maxRecDepth 100000 in
theorem zm_227 : zMtB zSS zPl 227 4 = true := by decide +kernel
set_option maxRecDepth 100000 in
theorem zm_228 : zMtB zSS zPl 228 4 = true := by decide +kernel
set_option maxRecDepth 100000 in
theorem zm_229 : zMtB zSS zPl 229 2 = true := by decide +kernel
set_option maxRecDepth 100000 in
theorem zm_230 : zMtB zSS zPl 230 4 = true := by decide +kernel
set_option maxRecDepth 100000 in
theorem zm_231 : zMtB zSS zPl 231 3 = true := by decide +kernel
set_option maxRecDepth 100000 in
theorem zm_232 : zMtB zSS zPl 232 1 = true := by decide +kernel
set_option maxRecDepth 100000 in
theorem zm_233 : zMtB zSS zPl 233 4 = true := by decide +kernel
set_option maxRecDepth 100000 in
theorem zm_234 : zMtB zSS zPl 234 3 = true := by decide +kernel
set_option maxRecDepth 100000 in
theorem zm_235 : zMtB zSS zPl 235 2 = true := by decide +kernel
set_option maxRecDepth 100000 in
theorem zm_236 : zMtB zSS zPl 236 2 = true := by decide +kernel
set_option maxRecDepth 100000 in
theorem zm_237 : zMtB zSS zPl 237 8 = true := by decide +kernel
set_option maxRecDepth 100000 in
theorem zm_238 : zMtB zSS zPl 238 10 = true := by decide +kernel
set_option maxRecDepth 100000 in
theorem zm_239 : zMtB zSS zPl 239 3 = true := by decide +kernel
set_option maxRecDepth 100000 in
theorem zm_240 : zMtB zSS zPl 240 2 = true := by decide +kernel
set_option maxRecDepth 100000 in
theorem zm_241 : zMtB zSS zPl 241 5 = true := by decide +kernel
set_option maxRecDepth 100000 in
theorem zm_242 : zMtB zSS zPl 242 4 = true := by decide +kernel
set_option maxRecDepth 100000 in
theorem zm_243 : zMtB zSS zPl 243 3 = true := by decide +kernel
set_option maxRecDepth 100000 in
theorem zm_244 : zMtB zSS zPl 244 2 = true := by decide +kernel
set_option maxRecDepth 100000 in
theorem zm_245 : zMtB zSS zPl 245 3 = true := by decide +kernel
set_option maxRecDepth 100000 in
theorem zm_246 : zMtB zSS zPl 246 2 = true := by decide +kernel
set_option maxRecDepth 100000 in
theorem zm_247 : zMtB zSS zPl 247 2 = true := by decide +kernel
set_option maxRecDepth 100000 in
theorem zm_248 : zMtB zSS zPl 248 7 = true := by decide +kernel
set_option maxRecDepth 100000 in
theorem zm_249 : zMtB zSS zPl 249 2 = true := by decide +kernel
set_option maxRecDepth 100000 in
theorem zm_250 : zMtB zSS zPl 250 2 = true := by decide +kernel
set_option maxRecDepth 100000 in
theorem zm_251 : zMtB zSS zPl 251 4 = true := by decide +kernel
set_option maxRecDepth 100000 in
theorem zm_252 : zMtB zSS zPl 252 5 = true := by decide +kernel
set_option maxRecDepth 100000 in
theorem zm_253 : zMtB zSS zPl 253 3 = true := by decide +kernel
set_option maxRecDepth 100000 in
theorem zm_254 : zMtB zSS zPl 254 3 = true := by decide +kernel
set_option maxRecDepth 100000 in
theorem zm_255 : zMtB zSS zPl 255 2 = true := by decide +kernel
set_option maxRecDepth 100000 in
theorem zm_256 : zMtB zSS zPl 256 2 = true := by decide +kernel
set_option maxRecDepth 100000 in
theorem zm_257 : zMtB zSS zPl 257 3 = true := by decide +kernel
theorem zs_mtl : zGG.1.length = 258 := by decide +kernel
set_option maxRecDepth 100000 in
theorem zs_mtg0 {a : Nat} {mt : yM} (h : zGG.1[a]? = some mt) (h1 : 0 ≤ a) (h2 : a < 8) : zMtB zSS zPl a mt.1.2 = true := by
  have e : a = 0 ∨ a = 1 ∨ a = 2 ∨ a = 3 ∨ a = 4 ∨ a = 5 ∨ a = 6 ∨ a = 7 := by omega
  rcases e with rfl | rfl | rfl | rfl | rfl | rfl | rfl | rfl
  · cases h; exact zm_0
  · cases h; exact zm_1
  · cases h; exact zm_2
  · cases h; exact zm_3
  · cases h; exact zm_4
  · cases h; exact zm_5
  · cases h; exact zm_6
  · cases h; exact zm_7
set_option maxRecDepth 100000 in
theorem zs_mtg1 {a : Nat} {mt : yM} (h : zGG.1[a]? = some mt) (h1 : 8 ≤ a) (h2 : a < 16) : zMtB zSS zPl a mt.1.2 = true := by
  have e : a = 8 ∨ a = 9 ∨ a = 10 ∨ a = 11 ∨ a = 12 ∨ a = 13 ∨ a = 14 ∨ a = 15 := by omega
  rcases e with rfl | rfl | rfl | rfl | rfl | rfl | rfl | rfl
  · cases h; exact zm_8
  · cases h; exact zm_9
  · cases h; exact zm_10
  · cases h; exact zm_11
  · cases h; exact zm_12
  · cases h; exact zm_13
  · cases h; exact zm_14
  · cases h; exact zm_15
set_option maxRecDepth 100000 in
theorem zs_mtg2 {a : Nat} {mt : yM} (h : zGG.1[a]? = some mt) (h1 : 16 ≤ a) (h2 : a < 24) : zMtB zSS zPl a mt.1.2 = true := by
  have e : a = 16 ∨ a = 17 ∨ a = 18 ∨ a = 19 ∨ a = 20 ∨ a = 21 ∨ a = 22 ∨ a = 23 := by omega
  rcases e with rfl | rfl | rfl | rfl | rfl | rfl | rfl | rfl
  · cases h; exact zm_16
  · cases h; exact zm_17
  · cases h; exact zm_18
  · cases h; exact zm_19
  · cases h; exact zm_20
  · cases h; exact zm_21
  · cases h; exact zm_22
  · cases h; exact zm_23
set_option maxRecDepth 100000 in
theorem zs_mtg3 {a : Nat} {mt : yM} (h : zGG.1[a]? = some mt) (h1 : 24 ≤ a) (h2 : a < 32) : zMtB zSS zPl a mt.1.2 = true := by
  have e : a = 24 ∨ a = 25 ∨ a = 26 ∨ a = 27 ∨ a = 28 ∨ a = 29 ∨ a = 30 ∨ a = 31 := by omega
  rcases e with rfl | rfl | rfl | rfl | rfl | rfl | rfl | rfl
  · cases h; exact zm_24
  · cases h; exact zm_25
  · cases h; exact zm_26
  · cases h; exact zm_27
  · cases h; exact zm_28
  · cases h; exact zm_29
  · cases h; exact zm_30
  · cases h; exact zm_31
set_option maxRecDepth 100000 in
theorem zs_mtg4 {a : Nat} {mt : yM} (h : zGG.1[a]? = some mt) (h1 : 32 ≤ a) (h2 : a < 40) : zMtB zSS zPl a mt.1.2 = true := by
  have e : a = 32 ∨ a = 33 ∨ a = 34 ∨ a = 35 ∨ a = 36 ∨ a = 37 ∨ a = 38 ∨ a = 39 := by omega
  rcases e with rfl | rfl | rfl | rfl | rfl | rfl | rfl | rfl
  · cases h; exact zm_32
  · cases h; exact zm_33
  · cases h; exact zm_34
  · cases h; exact zm_35
  · cases h; exact zm_36
  · cases h; exact zm_37
  · cases h; exact zm_38
  · cases h; exact zm_39
set_option maxRecDepth 100000 in
theorem zs_mtg5 {a : Nat} {mt : yM} (h : zGG.1[a]? = some mt) (h1 : 40 ≤ a) (h2 : a < 48) : zMtB zSS zPl a mt.1.2 = true := by
  have e : a = 40 ∨ a = 41 ∨ a = 42 ∨ a = 43 ∨ a = 44 ∨ a = 45 ∨ a = 46 ∨ a = 47 := by omega
  rcases e with rfl | rfl | rfl | rfl | rfl | rfl | rfl | rfl
  · cases h; exact zm_40
  · cases h; exact zm_41
  · cases h; exact zm_42
  · cases h; exact zm_43
  · cases h; exact zm_44
  · cases h; exact zm_45
  · cases h; exact zm_46
  · cases h; exact zm_47
set_option maxRecDepth 100000 in
theorem zs_mtg6 {a : Nat} {mt : yM} (h : zGG.1[a]? = some mt) (h1 : 48 ≤ a) (h2 : a < 56) : zMtB zSS zPl a mt.1.2 = true := by
  have e : a = 48 ∨ a = 49 ∨ a = 50 ∨ a = 51 ∨ a = 52 ∨ a = 53 ∨ a = 54 ∨ a = 55 := by omega
  rcases e with rfl | rfl | rfl | rfl | rfl | rfl | rfl | rfl
  · cases h; exact zm_48
  · cases h; exact zm_49
  · cases h; exact zm_50
  · cases h; exact zm_51
  · cases h; exact zm_52
  · cases h; exact zm_53
  · cases h; exact zm_54
  · cases h; exact zm_55
set_option maxRecDepth 100000 in
theorem zs_mtg7 {a : Nat} {mt : yM} (h : zGG.1[a]? = some mt) (h1 : 56 ≤ a) (h2 : a < 64) : zMtB zSS zPl a mt.1.2 = true := by
  have e : a = 56 ∨ a = 57 ∨ a = 58 ∨ a = 59 ∨ a = 60 ∨ a = 61 ∨ a = 62 ∨ a = 63 := by omega
  rcases e with rfl | rfl | rfl | rfl | rfl | rfl | rfl | rfl
  · cases h; exact zm_56
  · cases h; exact zm_57
  · cases h; exact zm_58
  · cases h; exact zm_59
  · cases h; exact zm_60
  · cases h; exact zm_61
  · cases h; exact zm_62
  · cases h; exact zm_63
set_option maxRecDepth 100000 in
theorem zs_mtg8 {a : Nat} {mt : yM} (h : zGG.1[a]? = some mt) (h1 : 64 ≤ a) (h2 : a < 72) : zMtB zSS zPl a mt.1.2 = true := by
  have e : a = 64 ∨ a = 65 ∨ a = 66 ∨ a = 67 ∨ a = 68 ∨ a = 69 ∨ a = 70 ∨ a = 71 := by omega
  rcases e with rfl | rfl | rfl | rfl | rfl | rfl | rfl | rfl
  · cases h; exact zm_64
  · cases h; exact zm_65
  · cases h; exact zm_66
  · cases h; exact zm_67
  · cases h; exact zm_68
  · cases h; exact zm_69
  · cases h; exact zm_70
  · cases h; exact zm_71
set_option maxRecDepth 100000 in
theorem zs_mtg9 {a : Nat} {mt : yM} (h : zGG.1[a]? = some mt) (h1 : 72 ≤ a) (h2 : a < 80) : zMtB zSS zPl a mt.1.2 = true := by
  have e : a = 72 ∨ a = 73 ∨ a = 74 ∨ a = 75 ∨ a = 76 ∨ a = 77 ∨ a = 78 ∨ a = 79 := by omega
  rcases e with rfl | rfl | rfl | rfl | rfl | rfl | rfl | rfl
  · cases h; exact zm_72
  · cases h; exact zm_73
  · cases h; exact zm_74
  · cases h; exact zm_75
  · cases h; exact zm_76
  · cases h; exact zm_77
  · cases h; exact zm_78
  · cases h; exact zm_79
set_option maxRecDepth 100000 in
theorem zs_mtg10 {a : Nat} {mt : yM} (h : zGG.1[a]? = some mt) (h1 : 80 ≤ a) (h2 : a < 88) : zMtB zSS zPl a mt.1.2 = true := by
  have e : a = 80 ∨ a = 81 ∨ a = 82 ∨ a = 83 ∨ a = 84 ∨ a = 85 ∨ a = 86 ∨ a = 87 := by omega
  rcases e with rfl | rfl | rfl | rfl | rfl | rfl | rfl | rfl
  · cases h; exact zm_80
  · cases h; exact zm_81
  · cases h; exact zm_82
  · cases h; exact zm_83
  · cases h; exact zm_84
  · cases h; exact zm_85
  · cases h; exact zm_86
  · cases h; exact zm_87
set_option maxRecDepth 100000 in
theorem zs_mtg11 {a : Nat} {mt : yM} (h : zGG.1[a]? = some mt) (h1 : 88 ≤ a) (h2 : a < 96) : zMtB zSS zPl a mt.1.2 = true := by
  have e : a = 88 ∨ a = 89 ∨ a = 90 ∨ a = 91 ∨ a = 92 ∨ a = 93 ∨ a = 94 ∨ a = 95 := by omega
  rcases e with rfl | rfl | rfl | rfl | rfl | rfl | rfl | rfl
  · cases h; exact zm_88
  · cases h; exact zm_89
  · cases h; exact zm_90
  · cases h; exact zm_91
  · cases h; exact zm_92
  · cases h; exact zm_93
  · cases h; exact zm_94
  · cases h; exact zm_95
set_option maxRecDepth 100000 in
theorem zs_mtg12 {a : Nat} {mt : yM} (h : zGG.1[a]? = some mt) (h1 : 96 ≤ a) (h2 : a < 104) : zMtB zSS zPl a mt.1.2 = true := by
  have e : a = 96 ∨ a = 97 ∨ a = 98 ∨ a = 99 ∨ a = 100 ∨ a = 101 ∨ a = 102 ∨ a = 103 := by omega
  rcases e with rfl | rfl | rfl | rfl | rfl | rfl | rfl | rfl
  · cases h; exact zm_96
  · cases h; exact zm_97
  · cases h; exact zm_98
  · cases h; exact zm_99
  · cases h; exact zm_100
  · cases h; exact zm_101
  · cases h; exact zm_102
  · cases h; exact zm_103
set_option maxRecDepth 100000 in
theorem zs_mtg13 {a : Nat} {mt : yM} (h : zGG.1[a]? = some mt) (h1 : 104 ≤ a) (h2 : a < 112) : zMtB zSS zPl a mt.1.2 = true := by
  have e : a = 104 ∨ a = 105 ∨ a = 106 ∨ a = 107 ∨ a = 108 ∨ a = 109 ∨ a = 110 ∨ a = 111 := by omega
  rcases e with rfl | rfl | rfl | rfl | rfl | rfl | rfl | rfl
  · cases h; exact zm_104
  · cases h; exact zm_105
  · cases h; exact zm_106
  · cases h; exact zm_107
  · cases h; exact zm_108
  · cases h; exact zm_109
  · cases h; exact zm_110
  · cases h; exact zm_111
set_option maxRecDepth 100000 in
theorem zs_mtg14 {a : Nat} {mt : yM} (h : zGG.1[a]? = some mt) (h1 : 112 ≤ a) (h2 : a < 120) : zMtB zSS zPl a mt.1.2 = true := by
  have e : a = 112 ∨ a = 113 ∨ a = 114 ∨ a = 115 ∨ a = 116 ∨ a = 117 ∨ a = 118 ∨ a = 119 := by omega
  rcases e with rfl | rfl | rfl | rfl | rfl | rfl | rfl | rfl
  · cases h; exact zm_112
  · cases h; exact zm_113
  · cases h; exact zm_114
  · cases h; exact zm_115
  · cases h; exact zm_116
  · cases h; exact zm_117
  · cases h; exact zm_118
  · cases h; exact zm_119
set_option maxRecDepth 100000 in
theorem zs_mtg15 {a : Nat} {mt : yM} (h : zGG.1[a]? = some mt) (h1 : 120 ≤ a) (h2 : a < 128) : zMtB zSS zPl a mt.1.2 = true := by
  have e : a = 120 ∨ a = 121 ∨ a = 122 ∨ a = 123 ∨ a = 124 ∨ a = 125 ∨ a = 126 ∨ a = 127 := by omega
  rcases e with rfl | rfl | rfl | rfl | rfl | rfl | rfl | rfl
  · cases h; exact zm_120
  · cases h; exact zm_121
  · cases h; exact zm_122
  · cases h; exact zm_123
  · cases h; exact zm_124
  · cases h; exact zm_125
  · cases h; exact zm_126
  · cases h; exact zm_127
set_option maxRecDepth 100000 in
theorem zs_mtg16 {a : Nat} {mt : yM} (h : zGG.1[a]? = some mt) (h1 : 128 ≤ a) (h2 : a < 136) : zMtB zSS zPl a mt.1.2 = true := by
  have e : a = 128 ∨ a = 129 ∨ a = 130 ∨ a = 131 ∨ a = 132 ∨ a = 133 ∨ a = 134 ∨ a = 135 := by omega
  rcases e with rfl | rfl | rfl | rfl | rfl | rfl | rfl | rfl
  · cases h; exact zm_128
  · cases h; exact zm_129
  · cases h; exact zm_130
  · cases h; exact zm_131
  · cases h; exact zm_132
  · cases h; exact zm_133
  · cases h; exact zm_134
  · cases h; exact zm_135
set_option maxRecDepth 100000 in
theorem zs_mtg17 {a : Nat} {mt : yM} (h : zGG.1[a]? = some mt) (h1 : 136 ≤ a) (h2 : a < 144) : zMtB zSS zPl a mt.1.2 = true := by
  have e : a = 136 ∨ a = 137 ∨ a = 138 ∨ a = 139 ∨ a = 140 ∨ a = 141 ∨ a = 142 ∨ a = 143 := by omega
  rcases e with rfl | rfl | rfl | rfl | rfl | rfl | rfl | rfl
  · cases h; exact zm_136
  · cases h; exact zm_137
  · cases h; exact zm_138
  · cases h; exact zm_139
  · cases h; exact zm_140
  · cases h; exact zm_141
  · cases h; exact zm_142
  · cases h; exact zm_143
set_option maxRecDepth 100000 in
theorem zs_mtg18 {a : Nat} {mt : yM} (h : zGG.1[a]? = some mt) (h1 : 144 ≤ a) (h2 : a < 152) : zMtB zSS zPl a mt.1.2 = true := by
  have e : a = 144 ∨ a = 145 ∨ a = 146 ∨ a = 147 ∨ a = 148 ∨ a = 149 ∨ a = 150 ∨ a = 151 := by omega
  rcases e with rfl | rfl | rfl | rfl | rfl | rfl | rfl | rfl
  · cases h; exact zm_144
  · cases h; exact zm_145
  · cases h; exact zm_146
  · cases h; exact zm_147
  · cases h; exact zm_148
  · cases h; exact zm_149
  · cases h; exact zm_150
  · cases h; exact zm_151
set_option maxRecDepth 100000 in
theorem zs_mtg19 {a : Nat} {mt : yM} (h : zGG.1[a]? = some mt) (h1 : 152 ≤ a) (h2 : a < 160) : zMtB zSS zPl a mt.1.2 = true := by
  have e : a = 152 ∨ a = 153 ∨ a = 154 ∨ a = 155 ∨ a = 156 ∨ a = 157 ∨ a = 158 ∨ a = 159 := by omega
  rcases e with rfl | rfl | rfl | rfl | rfl | rfl | rfl | rfl
  · cases h; exact zm_152
  · cases h; exact zm_153
  · cases h; exact zm_154
  · cases h; exact zm_155
  · cases h; exact zm_156
  · cases h; exact zm_157
  · cases h; exact zm_158
  · cases h; exact zm_159
set_option maxRecDepth 100000 in
theorem zs_mtg20 {a : Nat} {mt : yM} (h : zGG.1[a]? = some mt) (h1 : 160 ≤ a) (h2 : a < 168) : zMtB zSS zPl a mt.1.2 = true := by
  have e : a = 160 ∨ a = 161 ∨ a = 162 ∨ a = 163 ∨ a = 164 ∨ a = 165 ∨ a = 166 ∨ a = 167 := by omega
  rcases e with rfl | rfl | rfl | rfl | rfl | rfl | rfl | rfl
  · cases h; exact zm_160
  · cases h; exact zm_161
  · cases h; exact zm_162
  · cases h; exact zm_163
  · cases h; exact zm_164
  · cases h; exact zm_165
  · cases h; exact zm_166
  · cases h; exact zm_167
set_option maxRecDepth 100000 in
theorem zs_mtg21 {a : Nat} {mt : yM} (h : zGG.1[a]? = some mt) (h1 : 168 ≤ a) (h2 : a < 176) : zMtB zSS zPl a mt.1.2 = true := by
  have e : a = 168 ∨ a = 169 ∨ a = 170 ∨ a = 171 ∨ a = 172 ∨ a = 173 ∨ a = 174 ∨ a = 175 := by omega
  rcases e with rfl | rfl | rfl | rfl | rfl | rfl | rfl | rfl
  · cases h; exact zm_168
  · cases h; exact zm_169
  · cases h; exact zm_170
  · cases h; exact zm_171
  · cases h; exact zm_172
  · cases h; exact zm_173
  · cases h; exact zm_174
  · cases h; exact zm_175
set_option maxRecDepth 100000 in
theorem zs_mtg22 {a : Nat} {mt : yM} (h : zGG.1[a]? = some mt) (h1 : 176 ≤ a) (h2 : a < 184) : zMtB zSS zPl a mt.1.2 = true := by
  have e : a = 176 ∨ a = 177 ∨ a = 178 ∨ a = 179 ∨ a = 180 ∨ a = 181 ∨ a = 182 ∨ a = 183 := by omega
  rcases e with rfl | rfl | rfl | rfl | rfl | rfl | rfl | rfl
  · cases h; exact zm_176
  · cases h; exact zm_177
  · cases h; exact zm_178
  · cases h; exact zm_179
  · cases h; exact zm_180
  · cases h; exact zm_181
  · cases h; exact zm_182
  · cases h; exact zm_183
set_option maxRecDepth 100000 in
theorem zs_mtg23 {a : Nat} {mt : yM} (h : zGG.1[a]? = some mt) (h1 : 184 ≤ a) (h2 : a < 192) : zMtB zSS zPl a mt.1.2 = true := by
  have e : a = 184 ∨ a = 185 ∨ a = 186 ∨ a = 187 ∨ a = 188 ∨ a = 189 ∨ a = 190 ∨ a = 191 := by omega
  rcases e with rfl | rfl | rfl | rfl | rfl | rfl | rfl | rfl
  · cases h; exact zm_184
  · cases h; exact zm_185
  · cases h; exact zm_186
  · cases h; exact zm_187
  · cases h; exact zm_188
  · cases h; exact zm_189
  · cases h; exact zm_190
  · cases h; exact zm_191
set_option maxRecDepth 100000 in
theorem zs_mtg24 {a : Nat} {mt : yM} (h : zGG.1[a]? = some mt) (h1 : 192 ≤ a) (h2 : a < 200) : zMtB zSS zPl a mt.1.2 = true := by
  have e : a = 192 ∨ a = 193 ∨ a = 194 ∨ a = 195 ∨ a = 196 ∨ a = 197 ∨ a = 198 ∨ a = 199 := by omega
  rcases e with rfl | rfl | rfl | rfl | rfl | rfl | rfl | rfl
  · cases h; exact zm_192
  · cases h; exact zm_193
  · cases h; exact zm_194
  · cases h; exact zm_195
  · cases h; exact zm_196
  · cases h; exact zm_197
  · cases h; exact zm_198
  · cases h; exact zm_199
set_option maxRecDepth 100000 in
theorem zs_mtg25 {a : Nat} {mt : yM} (h : zGG.1[a]? = some mt) (h1 : 200 ≤ a) (h2 : a < 208) : zMtB zSS zPl a mt.1.2 = true := by
  have e : a = 200 ∨ a = 201 ∨ a = 202 ∨ a = 203 ∨ a = 204 ∨ a = 205 ∨ a = 206 ∨ a = 207 := by omega
  rcases e with rfl | rfl | rfl | rfl | rfl | rfl | rfl | rfl
  · cases h; exact zm_200
  · cases h; exact zm_201
  · cases h; exact zm_202
  · cases h; exact zm_203
  · cases h; exact zm_204
  · cases h; exact zm_205
  · cases h; exact zm_206
  · cases h; exact zm_207
set_option maxRecDepth 100000 in
theorem zs_mtg26 {a : Nat} {mt : yM} (h : zGG.1[a]? = some mt) (h1 : 208 ≤ a) (h2 : a < 216) : zMtB zSS zPl a mt.1.2 = true := by
  have e : a = 208 ∨ a = 209 ∨ a = 210 ∨ a = 211 ∨ a = 212 ∨ a = 213 ∨ a = 214 ∨ a = 215 := by omega
  rcases e with rfl | rfl | rfl | rfl | rfl | rfl | rfl | rfl
  · cases h; exact zm_208
  · cases h; exact zm_209
  · cases h; exact zm_210
  · cases h; exact zm_211
  · cases h; exact zm_212
  · cases h; exact zm_213
  · cases h; exact zm_214
  · cases h; exact zm_215
set_option maxRecDepth 100000 in
theorem zs_mtg27 {a : Nat} {mt : yM} (h : zGG.1[a]? = some mt) (h1 : 216 ≤ a) (h2 : a < 224) : zMtB zSS zPl a mt.1.2 = true := by
  have e : a = 216 ∨ a = 217 ∨ a = 218 ∨ a = 219 ∨ a = 220 ∨ a = 221 ∨ a = 222 ∨ a = 223 := by omega
  rcases e with rfl | rfl | rfl | rfl | rfl | rfl | rfl | rfl
  · cases h; exact zm_216
  · cases h; exact zm_217
  · cases h; exact zm_218
  · cases h; exact zm_219
  · cases h; exact zm_220
  · cases h; exact zm_221
  · cases h; exact zm_222
  · cases h; exact zm_223
set_option maxRecDepth 100000 in
theorem zs_mtg28 {a : Nat} {mt : yM} (h : zGG.1[a]? = some mt) (h1 : 224 ≤ a) (h2 : a < 232) : zMtB zSS zPl a mt.1.2 = true := by
  have e : a = 224 ∨ a = 225 ∨ a = 226 ∨ a = 227 ∨ a = 228 ∨ a = 229 ∨ a = 230 ∨ a = 231 := by omega
  rcases e with rfl | rfl | rfl | rfl | rfl | rfl | rfl | rfl
  · cases h; exact zm_224
  · cases h; exact zm_225
  · cases h; exact zm_226
  · cases h; exact zm_227
  · cases h; exact zm_228
  · cases h; exact zm_229
  · cases h; exact zm_230
  · cases h; exact zm_231
set_option maxRecDepth 100000 in
theorem zs_mtg29 {a : Nat} {mt : yM} (h : zGG.1[a]? = some mt) (h1 : 232 ≤ a) (h2 : a < 240) : zMtB zSS zPl a mt.1.2 = true := by
  have e : a = 232 ∨ a = 233 ∨ a = 234 ∨ a = 235 ∨ a = 236 ∨ a = 237 ∨ a = 238 ∨ a = 239 := by omega
  rcases e with rfl | rfl | rfl | rfl | rfl | rfl | rfl | rfl
  · cases h; exact zm_232
  · cases h; exact zm_233
  · cases h; exact zm_234
  · cases h; exact zm_235
  · cases h; exact zm_236
  · cases h; exact zm_237
  · cases h; exact zm_238
  · cases h; exact zm_239
set_option maxRecDepth 100000 in
theorem zs_mtg30 {a : Nat} {mt : yM} (h : zGG.1[a]? = some mt) (h1 : 240 ≤ a) (h2 : a < 248) : zMtB zSS zPl a mt.1.2 = true := by
  have e : a = 240 ∨ a = 241 ∨ a = 242 ∨ a = 243 ∨ a = 244 ∨ a = 245 ∨ a = 246 ∨ a = 247 := by omega
  rcases e with rfl | rfl | rfl | rfl | rfl | rfl | rfl | rfl
  · cases h; exact zm_240
  · cases h; exact zm_241
  · cases h; exact zm_242
  · cases h; exact zm_243
  · cases h; exact zm_244
  · cases h; exact zm_245
  · cases h; exact zm_246
  · cases h; exact zm_247
set_option maxRecDepth 100000 in
theorem zs_mtg31 {a : Nat} {mt : yM} (h : zGG.1[a]? = some mt) (h1 : 248 ≤ a) (h2 : a < 256) : zMtB zSS zPl a mt.1.2 = true := by
  have e : a = 248 ∨ a = 249 ∨ a = 250 ∨ a = 251 ∨ a = 252 ∨ a = 253 ∨ a = 254 ∨ a = 255 := by omega
  rcases e with rfl | rfl | rfl | rfl | rfl | rfl | rfl | rfl
  · cases h; exact zm_248
  · cases h; exact zm_249
  · cases h; exact zm_250
  · cases h; exact zm_251
  · cases h; exact zm_252
  · cases h; exact zm_253
  · cases h; exact zm_254
  · cases h; exact zm_255
set_option maxRecDepth 100000 in
theorem zs_mtg32 {a : Nat} {mt : yM} (h : zGG.1[a]? = some mt) (h1 : 256 ≤ a) (h2 : a < 258) : zMtB zSS zPl a mt.1.2 = true := by
  have e : a = 256 ∨ a = 257 := by omega
  rcases e with rfl | rfl
  · cases h; exact zm_256
  · cases h; exact zm_257
theorem zs_mts : ∀ (a : Nat) (mt : yM), zGG.1[a]? = some mt → zMtB zSS zPl a mt.1.2 = true := by
  intro a mt h
  have hlt : a < zGG.1.length := (List.getElem?_eq_some_iff.mp h).1
  rw [zs_mtl] at hlt
  by_cases h0 : a < 8
  · exact zs_mtg0 h (by omega) (by omega)
  by_cases h1 : a < 16
  · exact zs_mtg1 h (by omega) (by omega)
  by_cases h2 : a < 24
  · exact zs_mtg2 h (by omega) (by omega)
  by_cases h3 : a < 32
  · exact zs_mtg3 h (by omega) (by omega)
  by_cases h4 : a < 40
  · exact zs_mtg4 h (by omega) (by omega)
  by_cases h5 : a < 48
  · exact zs_mtg5 h (by omega) (by omega)
  by_cases h6 : a < 56
  · exact zs_mtg6 h (by omega) (by omega)
  by_cases h7 : a < 64
  · exact zs_mtg7 h (by omega) (by omega)
  by_cases h8 : a < 72
  · exact zs_mtg8 h (by omega) (by omega)
  by_cases h9 : a < 80
  · exact zs_mtg9 h (by omega) (by omega)
  by_cases h10 : a < 88
  · exact zs_mtg10 h (by omega) (by omega)
  by_cases h11 : a < 96
  · exact zs_mtg11 h (by omega) (by omega)
  by_cases h12 : a < 104
  · exact zs_mtg12 h (by omega) (by omega)
  by_cases h13 : a < 112
  · exact zs_mtg13 h (by omega) (by omega)
  by_cases h14 : a < 120
  · exact zs_mtg14 h (by omega) (by omega)
  by_cases h15 : a < 128
  · exact zs_mtg15 h (by omega) (by omega)
  by_cases h16 : a < 136
  · exact zs_mtg16 h (by omega) (by omega)
  by_cases h17 : a < 144
  · exact zs_mtg17 h (by omega) (by omega)
  by_cases h18 : a < 152
  · exact zs_mtg18 h (by omega) (by omega)
  by_cases h19 : a < 160
  · exact zs_mtg19 h (by omega) (by omega)
  by_cases h20 : a < 168
  · exact zs_mtg20 h (by omega) (by omega)
  by_cases h21 : a < 176
  · exact zs_mtg21 h (by omega) (by omega)
  by_cases h22 : a < 184
  · exact zs_mtg22 h (by omega) (by omega)
  by_cases h23 : a < 192
  · exact zs_mtg23 h (by omega) (by omega)
  by_cases h24 : a < 200
  · exact zs_mtg24 h (by omega) (by omega)
  by_cases h25 : a < 208
  · exact zs_mtg25 h (by omega) (by omega)
  by_cases h26 : a < 216
  · exact zs_mtg26 h (by omega) (by omega)
  by_cases h27 : a < 224
  · exact zs_mtg27 h (by omega) (by omega)
  by_cases h28 : a < 232
  · exact zs_mtg28 h (by omega) (by omega)
  by_cases h29 : a < 240
  · exact zs_mtg29 h (by omega) (by omega)
  by_cases h30 : a < 248
  · exact zs_mtg30 h (by omega) (by omega)
  by_cases h31 : a < 256
  · exact zs_mtg31 h (by omega) (by omega)
  exact zs_mtg32 h (by omega) (by omega)
theorem zA : yAll zSS zGG zFk zPl := ⟨zWS_good, zs_cls, zs_mk, zs_ra_ok, zs_nt, zs_ac, zs_mts⟩
