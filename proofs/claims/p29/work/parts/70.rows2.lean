/-! printed by wip/whole/y/gen67.py: the rows are the methods' own (3 of 3) -/
set_option maxRecDepth 100000 in
theorem zr_172 : zc_172.all (fun l => l.all (yRowB zSS zGG zPl 172)) = true := by decide +kernel
set_option maxRecDepth 100000 in
theorem zr_173 : zc_173.all (fun l => l.all (yRowB zSS zGG zPl 173)) = true := by decide +kernel
set_option maxRecDepth 100000 in
theorem zr_174 : zc_174.all (fun l => l.all (yRowB zSS zGG zPl 174)) = true := by decide +kernel
set_option maxRecDepth 100000 in
theorem zr_175 : zc_175.all (fun l => l.all (yRowB zSS zGG zPl 175)) = true := by decide +kernel
set_option maxRecDepth 100000 in
theorem zr_176 : zc_176.all (fun l => l.all (yRowB zSS zGG zPl 176)) = true := by decide +kernel
set_option maxRecDepth 100000 in
theorem zr_177 : zc_177.all (fun l => l.all (yRowB zSS zGG zPl 177)) = true := by decide +kernel
set_option maxRecDepth 100000 in
theorem zr_178 : zc_178.all (fun l => l.all (yRowB zSS zGG zPl 178)) = true := by decide +kernel
set_option maxRecDepth 100000 in
theorem zr_179 : zc_179.all (fun l => l.all (yRowB zSS zGG zPl 179)) = true := by decide +kernel
set_option maxRecDepth 100000 in
theorem zr_180 : zc_180.all (fun l => l.all (yRowB zSS zGG zPl 180)) = true := by decide +kernel
set_option maxRecDepth 100000 in
theorem zr_181 : zc_181.all (fun l => l.all (yRowB zSS zGG zPl 181)) = true := by decide +kernel
set_option maxRecDepth 100000 in
theorem zr_182 : zc_182.all (fun l => l.all (yRowB zSS zGG zPl 182)) = true := by decide +kernel
set_option maxRecDepth 100000 in
theorem zr_183 : zc_183.all (fun l => l.all (yRowB zSS zGG zPl 183)) = true := by decide +kernel
set_option maxRecDepth 100000 in
theorem zr_184 : zc_184.all (fun l => l.all (yRowB zSS zGG zPl 184)) = true := by decide +kernel
set_option maxRecDepth 100000 in
theorem zr_185 : zc_185.all (fun l => l.all (yRowB zSS zGG zPl 185)) = true := by decide +kernel
set_option maxRecDepth 100000 in
theorem zr_186 : zc_186.all (fun l => l.all (yRowB zSS zGG zPl 186)) = true := by decide +kernel
set_option maxRecDepth 100000 in
theorem zr_187 : zc_187.all (fun l => l.all (yRowB zSS zGG zPl 187)) = true := by decide +kernel
set_option maxRecDepth 100000 in
theorem zr_188 : zc_188.all (fun l => l.all (yRowB zSS zGG zPl 188)) = true := by decide +kernel
set_option maxRecDepth 100000 in
theorem zr_189 : zc_189.all (fun l => l.all (yRowB zSS zGG zPl 189)) = true := by decide +kernel
set_option maxRecDepth 100000 in
theorem zr_190 : zc_190.all (fun l => l.all (yRowB zSS zGG zPl 190)) = true := by decide +kernel
set_option maxRecDepth 100000 in
theorem zr_191 : zc_191.all (fun l => l.all (yRowB zSS zGG zPl 191)) = true := by decide +kernel
set_option maxRecDepth 100000 in
theorem zr_192 : zc_192.all (fun l => l.all (yRowB zSS zGG zPl 192)) = true := by decide +kernel
set_option maxRecDepth 100000 in
theorem zr_193 : zc_193.all (fun l => l.all (yRowB zSS zGG zPl 193)) = true := by decide +kernel
set_option maxRecDepth 100000 in
theorem zr_194 : zc_194.all (fun l => l.all (yRowB zSS zGG zPl 194)) = true := by decide +kernel
set_option maxRecDepth 100000 in
theorem zr_195 : zc_195.all (fun l => l.all (yRowB zSS zGG zPl 195)) = true := by decide +kernel
set_option maxRecDepth 100000 in
theorem zr_196 : zc_196.all (fun l => l.all (yRowB zSS zGG zPl 196)) = true := by decide +kernel
set_option maxRecDepth 100000 in
theorem zr_197 : zc_197.all (fun l => l.all (yRowB zSS zGG zPl 197)) = true := by decide +kernel
set_option maxRecDepth 100000 in
theorem zr_198 : zc_198.all (fun l => l.all (yRowB zSS zGG zPl 198)) = true := by decide +kernel
set_option maxRecDepth 100000 in
theorem zr_199 : zc_199.all (fun l => l.all (yRowB zSS zGG zPl 199)) = true := by decide +kernel
set_option maxRecDepth 100000 in
theorem zr_200 : zc_200.all (fun l => l.all (yRowB zSS zGG zPl 200)) = true := by decide +kernel
set_option maxRecDepth 100000 in
theorem zr_201 : zc_201.all (fun l => l.all (yRowB zSS zGG zPl 201)) = true := by decide +kernel
set_option maxRecDepth 100000 in
theorem zr_202 : zc_202.all (fun l => l.all (yRowB zSS zGG zPl 202)) = true := by decide +kernel
set_option maxRecDepth 100000 in
theorem zr_203 : zc_203.all (fun l => l.all (yRowB zSS zGG zPl 203)) = true := by decide +kernel
set_option maxRecDepth 100000 in
theorem zr_204 : zc_204.all (fun l => l.all (yRowB zSS zGG zPl 204)) = true := by decide +kernel
set_option maxRecDepth 100000 in
theorem zr_205 : zc_205.all (fun l => l.all (yRowB zSS zGG zPl 205)) = true := by decide +kernel
set_option maxRecDepth 100000 in
theorem zr_206 : zc_206.all (fun l => l.all (yRowB zSS zGG zPl 206)) = true := by decide +kernel
set_option maxRecDepth 100000 in
theorem zr_207 : zc_207.all (fun l => l.all (yRowB zSS zGG zPl 207)) = true := by decide +kernel
set_option maxRecDepth 100000 in
theorem zr_208 : zc_208.all (fun l => l.all (yRowB zSS zGG zPl 208)) = true := by decide +kernel
set_option maxRecDepth 100000 in
theorem zr_209 : zc_209.all (fun l => l.all (yRowB zSS zGG zPl 209)) = true := by decide +kernel
set_option maxRecDepth 100000 in
theorem zr_210 : zc_210.all (fun l => l.all (yRowB zSS zGG zPl 210)) = true := by decide +kernel
set_option maxRecDepth 100000 in
theorem zr_211 : zc_211.all (fun l => l.all (yRowB zSS zGG zPl 211)) = true := by decide +kernel
set_option maxRecDepth 100000 in
theorem zr_212 : zc_212.all (fun l => l.all (yRowB zSS zGG zPl 212)) = true := by decide +kernel
set_option maxRecDepth 100000 in
theorem zr_213 : zc_213.all (fun l => l.all (yRowB zSS zGG zPl 213)) = true := by decide +kernel
set_option maxRecDepth 100000 in
theorem zr_214 : zc_214.all (fun l => l.all (yRowB zSS zGG zPl 214)) = true := by decide +kernel
set_option maxRecDepth 100000 in
theorem zr_215 : zc_215.all (fun l => l.all (yRowB zSS zGG zPl 215)) = true := by decide +kernel
set_option maxRecDepth 100000 in
theorem zr_216 : zc_216.all (fun l => l.all (yRowB zSS zGG zPl 216)) = true := by decide +kernel
set_option maxRecDepth 100000 in
theorem zr_217 : zc_217.all (fun l => l.all (yRowB zSS zGG zPl 217)) = true := by decide +kernel
set_option maxRecDepth 100000 in
theorem zr_218 : zc_218.all (fun l => l.all (yRowB zSS zGG zPl 218)) = true := by decide +kernel
set_option maxRecDepth 100000 in
theorem zr_219 : zc_219.all (fun l => l.all (yRowB zSS zGG zPl 219)) = true := by decide +kernel
set_option maxRecDepth 100000 in
theorem zr_220 : zc_220.all (fun l => l.all (yRowB zSS zGG zPl 220)) = true := by decide +kernel
set_option maxRecDepth 100000 in
theorem zr_221 : zc_221.all (fun l => l.all (yRowB zSS zGG zPl 221)) = true := by decide +kernel
set_option maxRecDepth 100000 in
theorem zr_222 : zc_222.all (fun l => l.all (yRowB zSS zGG zPl 222)) = true := by decide +kernel
set_option maxRecDepth 100000 in
theorem zr_223 : zc_223.all (fun l => l.all (yRowB zSS zGG zPl 223)) = true := by decide +kernel
set_option maxRecDepth 100000 in
theorem zr_224 : zc_224.all (fun l => l.all (yRowB zSS zGG zPl 224)) = true := by decide +kernel
set_option maxRecDepth 100000 in
theorem zr_225 : zc_225.all (fun l => l.all (yRowB zSS zGG zPl 225)) = true := by decide +kernel
set_option maxRecDepth 100000 in
theorem zr_226 : zc_226.all (fun l => l.all (yRowB zSS zGG zPl 226)) = true := by decide +kernel
set_option maxRecDepth 100000 in
theorem zr_227 : zc_227.all (fun l => l.all (yRowB zSS zGG zPl 227)) = true := by decide +kernel
set_option maxRecDepth 100000 in
theorem zr_228 : zc_228.all (fun l => l.all (yRowB zSS zGG zPl 228)) = true := by decide +kernel
set_option maxRecDepth 100000 in
theorem zr_229 : zc_229.all (fun l => l.all (yRowB zSS zGG zPl 229)) = true := by decide +kernel
set_option maxRecDepth 100000 in
theorem zr_230 : zc_230.all (fun l => l.all (yRowB zSS zGG zPl 230)) = true := by decide +kernel
set_option maxRecDepth 100000 in
theorem zr_231 : zc_231.all (fun l => l.all (yRowB zSS zGG zPl 231)) = true := by decide +kernel
set_option maxRecDepth 100000 in
theorem zr_232 : zc_232.all (fun l => l.all (yRowB zSS zGG zPl 232)) = true := by decide +kernel
set_option maxRecDepth 100000 in
theorem zr_233 : zc_233.all (fun l => l.all (yRowB zSS zGG zPl 233)) = true := by decide +kernel
set_option maxRecDepth 100000 in
theorem zr_234 : zc_234.all (fun l => l.all (yRowB zSS zGG zPl 234)) = true := by decide +kernel
set_option maxRecDepth 100000 in
theorem zr_235 : zc_235.all (fun l => l.all (yRowB zSS zGG zPl 235)) = true := by decide +kernel
set_option maxRecDepth 100000 in
theorem zr_236 : zc_236.all (fun l => l.all (yRowB zSS zGG zPl 236)) = true := by decide +kernel
set_option maxRecDepth 100000 in
theorem zr_237 : zc_237.all (fun l => l.all (yRowB zSS zGG zPl 237)) = true := by decide +kernel
set_option maxRecDepth 100000 in
theorem zr_238 : zc_238.all (fun l => l.all (yRowB zSS zGG zPl 238)) = true := by decide +kernel
set_option maxRecDepth 100000 in
theorem zr_239 : zc_239.all (fun l => l.all (yRowB zSS zGG zPl 239)) = true := by decide +kernel
set_option maxRecDepth 100000 in
theorem zr_240 : zc_240.all (fun l => l.all (yRowB zSS zGG zPl 240)) = true := by decide +kernel
set_option maxRecDepth 100000 in
theorem zr_241 : zc_241.all (fun l => l.all (yRowB zSS zGG zPl 241)) = true := by decide +kernel
set_option maxRecDepth 100000 in
theorem zr_242 : zc_242.all (fun l => l.all (yRowB zSS zGG zPl 242)) = true := by decide +kernel
set_option maxRecDepth 100000 in
theorem zr_243 : zc_243.all (fun l => l.all (yRowB zSS zGG zPl 243)) = true := by decide +kernel
set_option maxRecDepth 100000 in
theorem zr_244 : zc_244.all (fun l => l.all (yRowB zSS zGG zPl 244)) = true := by decide +kernel
set_option maxRecDepth 100000 in
theorem zr_245 : zc_245.all (fun l => l.all (yRowB zSS zGG zPl 245)) = true := by decide +kernel
set_option maxRecDepth 100000 in
theorem zr_246 : zc_246.all (fun l => l.all (yRowB zSS zGG zPl 246)) = true := by decide +kernel
set_option maxRecDepth 100000 in
theorem zr_247 : zc_247.all (fun l => l.all (yRowB zSS zGG zPl 247)) = true := by decide +kernel
set_option maxRecDepth 100000 in
theorem zr_248 : zc_248.all (fun l => l.all (yRowB zSS zGG zPl 248)) = true := by decide +kernel
set_option maxRecDepth 100000 in
theorem zr_249 : zc_249.all (fun l => l.all (yRowB zSS zGG zPl 249)) = true := by decide +kernel
set_option maxRecDepth 100000 in
theorem zr_250 : zc_250.all (fun l => l.all (yRowB zSS zGG zPl 250)) = true := by decide +kernel
set_option maxRecDepth 100000 in
theorem zr_251 : zc_251.all (fun l => l.all (yRowB zSS zGG zPl 251)) = true := by decide +kernel
set_option maxRecDepth 100000 in
theorem zr_252 : zc_252.all (fun l => l.all (yRowB zSS zGG zPl 252)) = true := by decide +kernel
set_option maxRecDepth 100000 in
theorem zr_253 : zc_253.all (fun l => l.all (yRowB zSS zGG zPl 253)) = true := by decide +kernel
set_option maxRecDepth 100000 in
theorem zr_254 : zc_254.all (fun l => l.all (yRowB zSS zGG zPl 254)) = true := by decide +kernel
set_option maxRecDepth 100000 in
theorem zr_255 : zc_255.all (fun l => l.all (yRowB zSS zGG zPl 255)) = true := by decide +kernel
set_option maxRecDepth 100000 in
theorem zr_256 : zc_256.all (fun l => l.all (yRowB zSS zGG zPl 256)) = true := by decide +kernel
set_option maxRecDepth 100000 in
theorem zr_257 : zc_257.all (fun l => l.all (yRowB zSS zGG zPl 257)) = true := by decide +kernel
