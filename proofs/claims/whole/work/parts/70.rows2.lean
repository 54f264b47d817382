/-! printed by wip/whole/y/gen67.py: the rows are the methods' own (3 of 3) -/
set_option maxRecDepth 100000 in
theorem zm_172 : zMtB zSS zPl 172 1 = true := by decide +kernel
set_option maxRecDepth 100000 in
theorem zr_172 : zc_172.all (fun l => l.all (yRowB zSS zGG zPl 172)) = true := by decide +kernel
set_option maxRecDepth 100000 in
theorem zm_173 : zMtB zSS zPl 173 4 = true := by decide +kernel
set_option maxRecDepth 100000 in
theorem zr_173 : zc_173.all (fun l => l.all (yRowB zSS zGG zPl 173)) = true := by decide +kernel
set_option maxRecDepth 100000 in
theorem zm_174 : zMtB zSS zPl 174 2 = true := by decide +kernel
set_option maxRecDepth 100000 in
theorem zr_174 : zc_174.all (fun l => l.all (yRowB zSS zGG zPl 174)) = true := by decide +kernel
set_option maxRecDepth 100000 in
theorem zm_175 : zMtB zSS zPl 175 2 = true := by decide +kernel
set_option maxRecDepth 100000 in
theorem zr_175 : zc_175.all (fun l => l.all (yRowB zSS zGG zPl 175)) = true := by decide +kernel
set_option maxRecDepth 100000 in
theorem zm_176 : zMtB zSS zPl 176 2 = true := by decide +kernel
set_option maxRecDepth 100000 in
theorem zr_176 : zc_176.all (fun l => l.all (yRowB zSS zGG zPl 176)) = true := by decide +kernel
set_option maxRecDepth 100000 in
theorem zm_177 : zMtB zSS zPl 177 2 = true := by decide +kernel
set_option maxRecDepth 100000 in
theorem zr_177 : zc_177.all (fun l => l.all (yRowB zSS zGG zPl 177)) = true := by decide +kernel
set_option maxRecDepth 100000 in
theorem zm_178 : zMtB zSS zPl 178 1 = true := by decide +kernel
set_option maxRecDepth 100000 in
theorem zr_178 : zc_178.all (fun l => l.all (yRowB zSS zGG zPl 178)) = true := by decide +kernel
set_option maxRecDepth 100000 in
theorem zm_179 : zMtB zSS zPl 179 6 = true := by decide +kernel
set_option maxRecDepth 100000 in
theorem zr_179 : zc_179.all (fun l => l.all (yRowB zSS zGG zPl 179)) = true := by decide +kernel
set_option maxRecDepth 100000 in
theorem zm_180 : zMtB zSS zPl 180 4 = true := by decide +kernel
set_option maxRecDepth 100000 in
theorem zr_180 : zc_180.all (fun l => l.all (yRowB zSS zGG zPl 180)) = true := by decide +kernel
set_option maxRecDepth 100000 in
theorem zm_181 : zMtB zSS zPl 181 3 = true := by decide +kernel
set_option maxRecDepth 100000 in
theorem zr_181 : zc_181.all (fun l => l.all (yRowB zSS zGG zPl 181)) = true := by decide +kernel
set_option maxRecDepth 100000 in
theorem zm_182 : zMtB zSS zPl 182 4 = true := by decide +kernel
set_option maxRecDepth 100000 in
theorem zr_182 : zc_182.all (fun l => l.all (yRowB zSS zGG zPl 182)) = true := by decide +kernel
set_option maxRecDepth 100000 in
theorem zm_183 : zMtB zSS zPl 183 2 = true := by decide +kernel
set_option maxRecDepth 100000 in
theorem zr_183 : zc_183.all (fun l => l.all (yRowB zSS zGG zPl 183)) = true := by decide +kernel
set_option maxRecDepth 100000 in
theorem zm_184 : zMtB zSS zPl 184 3 = true := by decide +kernel
set_option maxRecDepth 100000 in
theorem zr_184 : zc_184.all (fun l => l.all (yRowB zSS zGG zPl 184)) = true := by decide +kernel
set_option maxRecDepth 100000 in
theorem zm_185 : zMtB zSS zPl 185 5 = true := by decide +kernel
set_option maxRecDepth 100000 in
theorem zr_185 : zc_185.all (fun l => l.all (yRowB zSS zGG zPl 185)) = true := by decide +kernel
set_option maxRecDepth 100000 in
theorem zm_186 : zMtB zSS zPl 186 5 = true := by decide +kernel
set_option maxRecDepth 100000 in
theorem zr_186 : zc_186.all (fun l => l.all (yRowB zSS zGG zPl 186)) = true := by decide +kernel
set_option maxRecDepth 100000 in
theorem zm_187 : zMtB zSS zPl 187 2 = true := by decide +kernel
set_option maxRecDepth 100000 in
theorem zr_187 : zc_187.all (fun l => l.all (yRowB zSS zGG zPl 187)) = true := by decide +kernel
set_option maxRecDepth 100000 in
theorem zm_188 : zMtB zSS zPl 188 2 = true := by decide +kernel
set_option maxRecDepth 100000 in
theorem zr_188 : zc_188.all (fun l => l.all (yRowB zSS zGG zPl 188)) = true := by decide +kernel
set_option maxRecDepth 100000 in
theorem zm_189 : zMtB zSS zPl 189 1 = true := by decide +kernel
set_option maxRecDepth 100000 in
theorem zr_189 : zc_189.all (fun l => l.all (yRowB zSS zGG zPl 189)) = true := by decide +kernel
set_option maxRecDepth 100000 in
theorem zm_190 : zMtB zSS zPl 190 2 = true := by decide +kernel
set_option maxRecDepth 100000 in
theorem zr_190 : zc_190.all (fun l => l.all (yRowB zSS zGG zPl 190)) = true := by decide +kernel
set_option maxRecDepth 100000 in
theorem zm_191 : zMtB zSS zPl 191 3 = true := by decide +kernel
set_option maxRecDepth 100000 in
theorem zr_191 : zc_191.all (fun l => l.all (yRowB zSS zGG zPl 191)) = true := by decide +kernel
set_option maxRecDepth 100000 in
theorem zm_192 : zMtB zSS zPl 192 6 = true := by decide +kernel
set_option maxRecDepth 100000 in
theorem zr_192 : zc_192.all (fun l => l.all (yRowB zSS zGG zPl 192)) = true := by decide +kernel
set_option maxRecDepth 100000 in
theorem zm_193 : zMtB zSS zPl 193 1 = true := by decide +kernel
set_option maxRecDepth 100000 in
theorem zr_193 : zc_193.all (fun l => l.all (yRowB zSS zGG zPl 193)) = true := by decide +kernel
set_option maxRecDepth 100000 in
theorem zm_194 : zMtB zSS zPl 194 3 = true := by decide +kernel
set_option maxRecDepth 100000 in
theorem zr_194 : zc_194.all (fun l => l.all (yRowB zSS zGG zPl 194)) = true := by decide +kernel
set_option maxRecDepth 100000 in
theorem zm_195 : zMtB zSS zPl 195 5 = true := by decide +kernel
set_option maxRecDepth 100000 in
theorem zr_195 : zc_195.all (fun l => l.all (yRowB zSS zGG zPl 195)) = true := by decide +kernel
set_option maxRecDepth 100000 in
theorem zm_196 : zMtB zSS zPl 196 2 = true := by decide +kernel
set_option maxRecDepth 100000 in
theorem zr_196 : zc_196.all (fun l => l.all (yRowB zSS zGG zPl 196)) = true := by decide +kernel
set_option maxRecDepth 100000 in
theorem zm_197 : zMtB zSS zPl 197 1 = true := by decide +kernel
set_option maxRecDepth 100000 in
theorem zr_197 : zc_197.all (fun l => l.all (yRowB zSS zGG zPl 197)) = true := by decide +kernel
set_option maxRecDepth 100000 in
theorem zm_198 : zMtB zSS zPl 198 2 = true := by decide +kernel
set_option maxRecDepth 100000 in
theorem zr_198 : zc_198.all (fun l => l.all (yRowB zSS zGG zPl 198)) = true := by decide +kernel
set_option maxRecDepth 100000 in
theorem zm_199 : zMtB zSS zPl 199 3 = true := by decide +kernel
set_option maxRecDepth 100000 in
theorem zr_199 : zc_199.all (fun l => l.all (yRowB zSS zGG zPl 199)) = true := by decide +kernel
set_option maxRecDepth 100000 in
theorem zm_200 : zMtB zSS zPl 200 2 = true := by decide +kernel
set_option maxRecDepth 100000 in
theorem zr_200 : zc_200.all (fun l => l.all (yRowB zSS zGG zPl 200)) = true := by decide +kernel
set_option maxRecDepth 100000 in
theorem zm_201 : zMtB zSS zPl 201 4 = true := by decide +kernel
set_option maxRecDepth 100000 in
theorem zr_201 : zc_201.all (fun l => l.all (yRowB zSS zGG zPl 201)) = true := by decide +kernel
set_option maxRecDepth 100000 in
theorem zm_202 : zMtB zSS zPl 202 2 = true := by decide +kernel
set_option maxRecDepth 100000 in
theorem zr_202 : zc_202.all (fun l => l.all (yRowB zSS zGG zPl 202)) = true := by decide +kernel
set_option maxRecDepth 100000 in
theorem zm_203 : zMtB zSS zPl 203 2 = true := by decide +kernel
set_option maxRecDepth 100000 in
theorem zr_203 : zc_203.all (fun l => l.all (yRowB zSS zGG zPl 203)) = true := by decide +kernel
set_option maxRecDepth 100000 in
theorem zm_204 : zMtB zSS zPl 204 5 = true := by decide +kernel
set_option maxRecDepth 100000 in
theorem zr_204 : zc_204.all (fun l => l.all (yRowB zSS zGG zPl 204)) = true := by decide +kernel
set_option maxRecDepth 100000 in
theorem zm_205 : zMtB zSS zPl 205 3 = true := by decide +kernel
set_option maxRecDepth 100000 in
theorem zr_205 : zc_205.all (fun l => l.all (yRowB zSS zGG zPl 205)) = true := by decide +kernel
set_option maxRecDepth 100000 in
theorem zm_206 : zMtB zSS zPl 206 2 = true := by decide +kernel
set_option maxRecDepth 100000 in
theorem zr_206 : zc_206.all (fun l => l.all (yRowB zSS zGG zPl 206)) = true := by decide +kernel
set_option maxRecDepth 100000 in
theorem zm_207 : zMtB zSS zPl 207 3 = true := by decide +kernel
set_option maxRecDepth 100000 in
theorem zr_207 : zc_207.all (fun l => l.all (yRowB zSS zGG zPl 207)) = true := by decide +kernel
set_option maxRecDepth 100000 in
theorem zm_208 : zMtB zSS zPl 208 3 = true := by decide +kernel
set_option maxRecDepth 100000 in
theorem zr_208 : zc_208.all (fun l => l.all (yRowB zSS zGG zPl 208)) = true := by decide +kernel
set_option maxRecDepth 100000 in
theorem zm_209 : zMtB zSS zPl 209 1 = true := by decide +kernel
set_option maxRecDepth 100000 in
theorem zr_209 : zc_209.all (fun l => l.all (yRowB zSS zGG zPl 209)) = true := by decide +kernel
set_option maxRecDepth 100000 in
theorem zm_210 : zMtB zSS zPl 210 6 = true := by decide +kernel
set_option maxRecDepth 100000 in
theorem zr_210 : zc_210.all (fun l => l.all (yRowB zSS zGG zPl 210)) = true := by decide +kernel
set_option maxRecDepth 100000 in
theorem zm_211 : zMtB zSS zPl 211 3 = true := by decide +kernel
set_option maxRecDepth 100000 in
theorem zr_211 : zc_211.all (fun l => l.all (yRowB zSS zGG zPl 211)) = true := by decide +kernel
set_option maxRecDepth 100000 in
theorem zm_212 : zMtB zSS zPl 212 2 = true := by decide +kernel
set_option maxRecDepth 100000 in
theorem zr_212 : zc_212.all (fun l => l.all (yRowB zSS zGG zPl 212)) = true := by decide +kernel
set_option maxRecDepth 100000 in
theorem zm_213 : zMtB zSS zPl 213 6 = true := by decide +kernel
set_option maxRecDepth 100000 in
theorem zr_213 : zc_213.all (fun l => l.all (yRowB zSS zGG zPl 213)) = true := by decide +kernel
set_option maxRecDepth 100000 in
theorem zm_214 : zMtB zSS zPl 214 3 = true := by decide +kernel
set_option maxRecDepth 100000 in
theorem zr_214 : zc_214.all (fun l => l.all (yRowB zSS zGG zPl 214)) = true := by decide +kernel
set_option maxRecDepth 100000 in
theorem zm_215 : zMtB zSS zPl 215 2 = true := by decide +kernel
set_option maxRecDepth 100000 in
theorem zr_215 : zc_215.all (fun l => l.all (yRowB zSS zGG zPl 215)) = true := by decide +kernel
set_option maxRecDepth 100000 in
theorem zm_216 : zMtB zSS zPl 216 2 = true := by decide +kernel
set_option maxRecDepth 100000 in
theorem zr_216 : zc_216.all (fun l => l.all (yRowB zSS zGG zPl 216)) = true := by decide +kernel
set_option maxRecDepth 100000 in
theorem zm_217 : zMtB zSS zPl 217 1 = true := by decide +kernel
set_option maxRecDepth 100000 in
theorem zr_217 : zc_217.all (fun l => l.all (yRowB zSS zGG zPl 217)) = true := by decide +kernel
set_option maxRecDepth 100000 in
theorem zm_218 : zMtB zSS zPl 218 6 = true := by decide +kernel
set_option maxRecDepth 100000 in
theorem zr_218 : zc_218.all (fun l => l.all (yRowB zSS zGG zPl 218)) = true := by decide +kernel
set_option maxRecDepth 100000 in
theorem zm_219 : zMtB zSS zPl 219 5 = true := by decide +kernel
set_option maxRecDepth 100000 in
theorem zr_219 : zc_219.all (fun l => l.all (yRowB zSS zGG zPl 219)) = true := by decide +kernel
set_option maxRecDepth 100000 in
theorem zm_220 : zMtB zSS zPl 220 3 = true := by decide +kernel
set_option maxRecDepth 100000 in
theorem zr_220 : zc_220.all (fun l => l.all (yRowB zSS zGG zPl 220)) = true := by decide +kernel
set_option maxRecDepth 100000 in
theorem zm_221 : zMtB zSS zPl 221 8 = true := by decide +kernel
set_option maxRecDepth 100000 in
theorem zr_221 : zc_221.all (fun l => l.all (yRowB zSS zGG zPl 221)) = true := by decide +kernel
set_option maxRecDepth 100000 in
theorem zm_222 : zMtB zSS zPl 222 5 = true := by decide +kernel
set_option maxRecDepth 100000 in
theorem zr_222 : zc_222.all (fun l => l.all (yRowB zSS zGG zPl 222)) = true := by decide +kernel
set_option maxRecDepth 100000 in
theorem zm_223 : zMtB zSS zPl 223 2 = true := by decide +kernel
set_option maxRecDepth 100000 in
theorem zr_223 : zc_223.all (fun l => l.all (yRowB zSS zGG zPl 223)) = true := by decide +kernel
set_option maxRecDepth 100000 in
theorem zm_224 : zMtB zSS zPl 224 4 = true := by decide +kernel
set_option maxRecDepth 100000 in
theorem zr_224 : zc_224.all (fun l => l.all (yRowB zSS zGG zPl 224)) = true := by decide +kernel
set_option maxRecDepth 100000 in
theorem zm_225 : zMtB zSS zPl 225 1 = true := by decide +kernel
set_option maxRecDepth 100000 in
theorem zr_225 : zc_225.all (fun l => l.all (yRowB zSS zGG zPl 225)) = true := by decide +kernel
set_option maxRecDepth 100000 in
theorem zm_226 : zMtB zSS zPl 226 2 = true := by decide +kernel
set_option maxRecDepth 100000 in
theorem zr_226 : zc_226.all (fun l => l.all (yRowB zSS zGG zPl 226)) = true := by decide +kernel
set_option maxRecDepth 100000 in
theorem zm_227 : zMtB zSS zPl 227 4 = true := by decide +kernel
set_option maxRecDepth 100000 in
theorem zr_227 : zc_227.all (fun l => l.all (yRowB zSS zGG zPl 227)) = true := by decide +kernel
set_option maxRecDepth 100000 in
theorem zm_228 : zMtB zSS zPl 228 4 = true := by decide +kernel
set_option maxRecDepth 100000 in
theorem zr_228 : zc_228.all (fun l => l.all (yRowB zSS zGG zPl 228)) = true := by decide +kernel
set_option maxRecDepth 100000 in
theorem zm_229 : zMtB zSS zPl 229 2 = true := by decide +kernel
set_option maxRecDepth 100000 in
theorem zr_229 : zc_229.all (fun l => l.all (yRowB zSS zGG zPl 229)) = true := by decide +kernel
set_option maxRecDepth 100000 in
theorem zm_230 : zMtB zSS zPl 230 4 = true := by decide +kernel
set_option maxRecDepth 100000 in
theorem zr_230 : zc_230.all (fun l => l.all (yRowB zSS zGG zPl 230)) = true := by decide +kernel
set_option maxRecDepth 100000 in
theorem zm_231 : zMtB zSS zPl 231 3 = true := by decide +kernel
set_option maxRecDepth 100000 in
theorem zr_231 : zc_231.all (fun l => l.all (yRowB zSS zGG zPl 231)) = true := by decide +kernel
set_option maxRecDepth 100000 in
theorem zm_232 : zMtB zSS zPl 232 1 = true := by decide +kernel
set_option maxRecDepth 100000 in
theorem zr_232 : zc_232.all (fun l => l.all (yRowB zSS zGG zPl 232)) = true := by decide +kernel
set_option maxRecDepth 100000 in
theorem zm_233 : zMtB zSS zPl 233 4 = true := by decide +kernel
set_option maxRecDepth 100000 in
theorem zr_233 : zc_233.all (fun l => l.all (yRowB zSS zGG zPl 233)) = true := by decide +kernel
set_option maxRecDepth 100000 in
theorem zm_234 : zMtB zSS zPl 234 3 = true := by decide +kernel
set_option maxRecDepth 100000 in
theorem zr_234 : zc_234.all (fun l => l.all (yRowB zSS zGG zPl 234)) = true := by decide +kernel
set_option maxRecDepth 100000 in
theorem zm_235 : zMtB zSS zPl 235 2 = true := by decide +kernel
set_option maxRecDepth 100000 in
theorem zr_235 : zc_235.all (fun l => l.all (yRowB zSS zGG zPl 235)) = true := by decide +kernel
set_option maxRecDepth 100000 in
theorem zm_236 : zMtB zSS zPl 236 2 = true := by decide +kernel
set_option maxRecDepth 100000 in
theorem zr_236 : zc_236.all (fun l => l.all (yRowB zSS zGG zPl 236)) = true := by decide +kernel
set_option maxRecDepth 100000 in
theorem zm_237 : zMtB zSS zPl 237 8 = true := by decide +kernel
set_option maxRecDepth 100000 in
theorem zr_237 : zc_237.all (fun l => l.all (yRowB zSS zGG zPl 237)) = true := by decide +kernel
set_option maxRecDepth 100000 in
theorem zm_238 : zMtB zSS zPl 238 10 = true := by decide +kernel
set_option maxRecDepth 100000 in
theorem zr_238 : zc_238.all (fun l => l.all (yRowB zSS zGG zPl 238)) = true := by decide +kernel
set_option maxRecDepth 100000 in
theorem zm_239 : zMtB zSS zPl 239 3 = true := by decide +kernel
set_option maxRecDepth 100000 in
theorem zr_239 : zc_239.all (fun l => l.all (yRowB zSS zGG zPl 239)) = true := by decide +kernel
set_option maxRecDepth 100000 in
theorem zm_240 : zMtB zSS zPl 240 2 = true := by decide +kernel
set_option maxRecDepth 100000 in
theorem zr_240 : zc_240.all (fun l => l.all (yRowB zSS zGG zPl 240)) = true := by decide +kernel
set_option maxRecDepth 100000 in
theorem zm_241 : zMtB zSS zPl 241 5 = true := by decide +kernel
set_option maxRecDepth 100000 in
theorem zr_241 : zc_241.all (fun l => l.all (yRowB zSS zGG zPl 241)) = true := by decide +kernel
set_option maxRecDepth 100000 in
theorem zm_242 : zMtB zSS zPl 242 4 = true := by decide +kernel
set_option maxRecDepth 100000 in
theorem zr_242 : zc_242.all (fun l => l.all (yRowB zSS zGG zPl 242)) = true := by decide +kernel
set_option maxRecDepth 100000 in
theorem zm_243 : zMtB zSS zPl 243 3 = true := by decide +kernel
set_option maxRecDepth 100000 in
theorem zr_243 : zc_243.all (fun l => l.all (yRowB zSS zGG zPl 243)) = true := by decide +kernel
set_option maxRecDepth 100000 in
theorem zm_244 : zMtB zSS zPl 244 2 = true := by decide +kernel
set_option maxRecDepth 100000 in
theorem zr_244 : zc_244.all (fun l => l.all (yRowB zSS zGG zPl 244)) = true := by decide +kernel
set_option maxRecDepth 100000 in
theorem zm_245 : zMtB zSS zPl 245 3 = true := by decide +kernel
set_option maxRecDepth 100000 in
theorem zr_245 : zc_245.all (fun l => l.all (yRowB zSS zGG zPl 245)) = true := by decide +kernel
set_option maxRecDepth 100000 in
theorem zm_246 : zMtB zSS zPl 246 1 = true := by decide +kernel
set_option maxRecDepth 100000 in
theorem zr_246 : zc_246.all (fun l => l.all (yRowB zSS zGG zPl 246)) = true := by decide +kernel
set_option maxRecDepth 100000 in
theorem zm_247 : zMtB zSS zPl 247 2 = true := by decide +kernel
set_option maxRecDepth 100000 in
theorem zr_247 : zc_247.all (fun l => l.all (yRowB zSS zGG zPl 247)) = true := by decide +kernel
set_option maxRecDepth 100000 in
theorem zm_248 : zMtB zSS zPl 248 7 = true := by decide +kernel
set_option maxRecDepth 100000 in
theorem zr_248 : zc_248.all (fun l => l.all (yRowB zSS zGG zPl 248)) = true := by decide +kernel
set_option maxRecDepth 100000 in
theorem zm_249 : zMtB zSS zPl 249 2 = true := by decide +kernel
set_option maxRecDepth 100000 in
theorem zr_249 : zc_249.all (fun l => l.all (yRowB zSS zGG zPl 249)) = true := by decide +kernel
set_option maxRecDepth 100000 in
theorem zm_250 : zMtB zSS zPl 250 2 = true := by decide +kernel
set_option maxRecDepth 100000 in
theorem zr_250 : zc_250.all (fun l => l.all (yRowB zSS zGG zPl 250)) = true := by decide +kernel
set_option maxRecDepth 100000 in
theorem zm_251 : zMtB zSS zPl 251 4 = true := by decide +kernel
set_option maxRecDepth 100000 in
theorem zr_251 : zc_251.all (fun l => l.all (yRowB zSS zGG zPl 251)) = true := by decide +kernel
set_option maxRecDepth 100000 in
theorem zm_252 : zMtB zSS zPl 252 5 = true := by decide +kernel
set_option maxRecDepth 100000 in
theorem zr_252 : zc_252.all (fun l => l.all (yRowB zSS zGG zPl 252)) = true := by decide +kernel
set_option maxRecDepth 100000 in
theorem zm_253 : zMtB zSS zPl 253 3 = true := by decide +kernel
set_option maxRecDepth 100000 in
theorem zr_253 : zc_253.all (fun l => l.all (yRowB zSS zGG zPl 253)) = true := by decide +kernel
set_option maxRecDepth 100000 in
theorem zm_254 : zMtB zSS zPl 254 3 = true := by decide +kernel
set_option maxRecDepth 100000 in
theorem zr_254 : zc_254.all (fun l => l.all (yRowB zSS zGG zPl 254)) = true := by decide +kernel
set_option maxRecDepth 100000 in
theorem zm_255 : zMtB zSS zPl 255 2 = true := by decide +kernel
set_option maxRecDepth 100000 in
theorem zr_255 : zc_255.all (fun l => l.all (yRowB zSS zGG zPl 255)) = true := by decide +kernel
set_option maxRecDepth 100000 in
theorem zm_256 : zMtB zSS zPl 256 2 = true := by decide +kernel
set_option maxRecDepth 100000 in
theorem zr_256 : zc_256.all (fun l => l.all (yRowB zSS zGG zPl 256)) = true := by decide +kernel
set_option maxRecDepth 100000 in
theorem zm_257 : zMtB zSS zPl 257 3 = true := by decide +kernel
set_option maxRecDepth 100000 in
theorem zr_257 : zc_257.all (fun l => l.all (yRowB zSS zGG zPl 257)) = true := by decide +kernel
set_option maxRecDepth 100000 in
theorem zs_mts : ∀ (a : Nat) (mt : yM), zGG.1[a]? = some mt → zMtB zSS zPl a mt.1.2 = true := by
  intro a mt h
  have hlt : a < 258 := (List.getElem?_eq_some_iff.mp h).1
  match a, h, hlt with
  | 0, h, _ => cases h; exact zm_0
  | 1, h, _ => cases h; exact zm_1
  | 2, h, _ => cases h; exact zm_2
  | 3, h, _ => cases h; exact zm_3
  | 4, h, _ => cases h; exact zm_4
  | 5, h, _ => cases h; exact zm_5
  | 6, h, _ => cases h; exact zm_6
  | 7, h, _ => cases h; exact zm_7
  | 8, h, _ => cases h; exact zm_8
  | 9, h, _ => cases h; exact zm_9
  | 10, h, _ => cases h; exact zm_10
  | 11, h, _ => cases h; exact zm_11
  | 12, h, _ => cases h; exact zm_12
  | 13, h, _ => cases h; exact zm_13
  | 14, h, _ => cases h; exact zm_14
  | 15, h, _ => cases h; exact zm_15
  | 16, h, _ => cases h; exact zm_16
  | 17, h, _ => cases h; exact zm_17
  | 18, h, _ => cases h; exact zm_18
  | 19, h, _ => cases h; exact zm_19
  | 20, h, _ => cases h; exact zm_20
  | 21, h, _ => cases h; exact zm_21
  | 22, h, _ => cases h; exact zm_22
  | 23, h, _ => cases h; exact zm_23
  | 24, h, _ => cases h; exact zm_24
  | 25, h, _ => cases h; exact zm_25
  | 26, h, _ => cases h; exact zm_26
  | 27, h, _ => cases h; exact zm_27
  | 28, h, _ => cases h; exact zm_28
  | 29, h, _ => cases h; exact zm_29
  | 30, h, _ => cases h; exact zm_30
  | 31, h, _ => cases h; exact zm_31
  | 32, h, _ => cases h; exact zm_32
  | 33, h, _ => cases h; exact zm_33
  | 34, h, _ => cases h; exact zm_34
  | 35, h, _ => cases h; exact zm_35
  | 36, h, _ => cases h; exact zm_36
  | 37, h, _ => cases h; exact zm_37
  | 38, h, _ => cases h; exact zm_38
  | 39, h, _ => cases h; exact zm_39
  | 40, h, _ => cases h; exact zm_40
  | 41, h, _ => cases h; exact zm_41
  | 42, h, _ => cases h; exact zm_42
  | 43, h, _ => cases h; exact zm_43
  | 44, h, _ => cases h; exact zm_44
  | 45, h, _ => cases h; exact zm_45
  | 46, h, _ => cases h; exact zm_46
  | 47, h, _ => cases h; exact zm_47
  | 48, h, _ => cases h; exact zm_48
  | 49, h, _ => cases h; exact zm_49
  | 50, h, _ => cases h; exact zm_50
  | 51, h, _ => cases h; exact zm_51
  | 52, h, _ => cases h; exact zm_52
  | 53, h, _ => cases h; exact zm_53
  | 54, h, _ => cases h; exact zm_54
  | 55, h, _ => cases h; exact zm_55
  | 56, h, _ => cases h; exact zm_56
  | 57, h, _ => cases h; exact zm_57
  | 58, h, _ => cases h; exact zm_58
  | 59, h, _ => cases h; exact zm_59
  | 60, h, _ => cases h; exact zm_60
  | 61, h, _ => cases h; exact zm_61
  | 62, h, _ => cases h; exact zm_62
  | 63, h, _ => cases h; exact zm_63
  | 64, h, _ => cases h; exact zm_64
  | 65, h, _ => cases h; exact zm_65
  | 66, h, _ => cases h; exact zm_66
  | 67, h, _ => cases h; exact zm_67
  | 68, h, _ => cases h; exact zm_68
  | 69, h, _ => cases h; exact zm_69
  | 70, h, _ => cases h; exact zm_70
  | 71, h, _ => cases h; exact zm_71
  | 72, h, _ => cases h; exact zm_72
  | 73, h, _ => cases h; exact zm_73
  | 74, h, _ => cases h; exact zm_74
  | 75, h, _ => cases h; exact zm_75
  | 76, h, _ => cases h; exact zm_76
  | 77, h, _ => cases h; exact zm_77
  | 78, h, _ => cases h; exact zm_78
  | 79, h, _ => cases h; exact zm_79
  | 80, h, _ => cases h; exact zm_80
  | 81, h, _ => cases h; exact zm_81
  | 82, h, _ => cases h; exact zm_82
  | 83, h, _ => cases h; exact zm_83
  | 84, h, _ => cases h; exact zm_84
  | 85, h, _ => cases h; exact zm_85
  | 86, h, _ => cases h; exact zm_86
  | 87, h, _ => cases h; exact zm_87
  | 88, h, _ => cases h; exact zm_88
  | 89, h, _ => cases h; exact zm_89
  | 90, h, _ => cases h; exact zm_90
  | 91, h, _ => cases h; exact zm_91
  | 92, h, _ => cases h; exact zm_92
  | 93, h, _ => cases h; exact zm_93
  | 94, h, _ => cases h; exact zm_94
  | 95, h, _ => cases h; exact zm_95
  | 96, h, _ => cases h; exact zm_96
  | 97, h, _ => cases h; exact zm_97
  | 98, h, _ => cases h; exact zm_98
  | 99, h, _ => cases h; exact zm_99
  | 100, h, _ => cases h; exact zm_100
  | 101, h, _ => cases h; exact zm_101
  | 102, h, _ => cases h; exact zm_102
  | 103, h, _ => cases h; exact zm_103
  | 104, h, _ => cases h; exact zm_104
  | 105, h, _ => cases h; exact zm_105
  | 106, h, _ => cases h; exact zm_106
  | 107, h, _ => cases h; exact zm_107
  | 108, h, _ => cases h; exact zm_108
  | 109, h, _ => cases h; exact zm_109
  | 110, h, _ => cases h; exact zm_110
  | 111, h, _ => cases h; exact zm_111
  | 112, h, _ => cases h; exact zm_112
  | 113, h, _ => cases h; exact zm_113
  | 114, h, _ => cases h; exact zm_114
  | 115, h, _ => cases h; exact zm_115
  | 116, h, _ => cases h; exact zm_116
  | 117, h, _ => cases h; exact zm_117
  | 118, h, _ => cases h; exact zm_118
  | 119, h, _ => cases h; exact zm_119
  | 120, h, _ => cases h; exact zm_120
  | 121, h, _ => cases h; exact zm_121
  | 122, h, _ => cases h; exact zm_122
  | 123, h, _ => cases h; exact zm_123
  | 124, h, _ => cases h; exact zm_124
  | 125, h, _ => cases h; exact zm_125
  | 126, h, _ => cases h; exact zm_126
  | 127, h, _ => cases h; exact zm_127
  | 128, h, _ => cases h; exact zm_128
  | 129, h, _ => cases h; exact zm_129
  | 130, h, _ => cases h; exact zm_130
  | 131, h, _ => cases h; exact zm_131
  | 132, h, _ => cases h; exact zm_132
  | 133, h, _ => cases h; exact zm_133
  | 134, h, _ => cases h; exact zm_134
  | 135, h, _ => cases h; exact zm_135
  | 136, h, _ => cases h; exact zm_136
  | 137, h, _ => cases h; exact zm_137
  | 138, h, _ => cases h; exact zm_138
  | 139, h, _ => cases h; exact zm_139
  | 140, h, _ => cases h; exact zm_140
  | 141, h, _ => cases h; exact zm_141
  | 142, h, _ => cases h; exact zm_142
  | 143, h, _ => cases h; exact zm_143
  | 144, h, _ => cases h; exact zm_144
  | 145, h, _ => cases h; exact zm_145
  | 146, h, _ => cases h; exact zm_146
  | 147, h, _ => cases h; exact zm_147
  | 148, h, _ => cases h; exact zm_148
  | 149, h, _ => cases h; exact zm_149
  | 150, h, _ => cases h; exact zm_150
  | 151, h, _ => cases h; exact zm_151
  | 152, h, _ => cases h; exact zm_152
  | 153, h, _ => cases h; exact zm_153
  | 154, h, _ => cases h; exact zm_154
  | 155, h, _ => cases h; exact zm_155
  | 156, h, _ => cases h; exact zm_156
  | 157, h, _ => cases h; exact zm_157
  | 158, h, _ => cases h; exact zm_158
  | 159, h, _ => cases h; exact zm_159
  | 160, h, _ => cases h; exact zm_160
  | 161, h, _ => cases h; exact zm_161
  | 162, h, _ => cases h; exact zm_162
  | 163, h, _ => cases h; exact zm_163
  | 164, h, _ => cases h; exact zm_164
  | 165, h, _ => cases h; exact zm_165
  | 166, h, _ => cases h; exact zm_166
  | 167, h, _ => cases h; exact zm_167
  | 168, h, _ => cases h; exact zm_168
  | 169, h, _ => cases h; exact zm_169
  | 170, h, _ => cases h; exact zm_170
  | 171, h, _ => cases h; exact zm_171
  | 172, h, _ => cases h; exact zm_172
  | 173, h, _ => cases h; exact zm_173
  | 174, h, _ => cases h; exact zm_174
  | 175, h, _ => cases h; exact zm_175
  | 176, h, _ => cases h; exact zm_176
  | 177, h, _ => cases h; exact zm_177
  | 178, h, _ => cases h; exact zm_178
  | 179, h, _ => cases h; exact zm_179
  | 180, h, _ => cases h; exact zm_180
  | 181, h, _ => cases h; exact zm_181
  | 182, h, _ => cases h; exact zm_182
  | 183, h, _ => cases h; exact zm_183
  | 184, h, _ => cases h; exact zm_184
  | 185, h, _ => cases h; exact zm_185
  | 186, h, _ => cases h; exact zm_186
  | 187, h, _ => cases h; exact zm_187
  | 188, h, _ => cases h; exact zm_188
  | 189, h, _ => cases h; exact zm_189
  | 190, h, _ => cases h; exact zm_190
  | 191, h, _ => cases h; exact zm_191
  | 192, h, _ => cases h; exact zm_192
  | 193, h, _ => cases h; exact zm_193
  | 194, h, _ => cases h; exact zm_194
  | 195, h, _ => cases h; exact zm_195
  | 196, h, _ => cases h; exact zm_196
  | 197, h, _ => cases h; exact zm_197
  | 198, h, _ => cases h; exact zm_198
  | 199, h, _ => cases h; exact zm_199
  | 200, h, _ => cases h; exact zm_200
  | 201, h, _ => cases h; exact zm_201
  | 202, h, _ => cases h; exact zm_202
  | 203, h, _ => cases h; exact zm_203
  | 204, h, _ => cases h; exact zm_204
  | 205, h, _ => cases h; exact zm_205
  | 206, h, _ => cases h; exact zm_206
  | 207, h, _ => cases h; exact zm_207
  | 208, h, _ => cases h; exact zm_208
  | 209, h, _ => cases h; exact zm_209
  | 210, h, _ => cases h; exact zm_210
  | 211, h, _ => cases h; exact zm_211
  | 212, h, _ => cases h; exact zm_212
  | 213, h, _ => cases h; exact zm_213
  | 214, h, _ => cases h; exact zm_214
  | 215, h, _ => cases h; exact zm_215
  | 216, h, _ => cases h; exact zm_216
  | 217, h, _ => cases h; exact zm_217
  | 218, h, _ => cases h; exact zm_218
  | 219, h, _ => cases h; exact zm_219
  | 220, h, _ => cases h; exact zm_220
  | 221, h, _ => cases h; exact zm_221
  | 222, h, _ => cases h; exact zm_222
  | 223, h, _ => cases h; exact zm_223
  | 224, h, _ => cases h; exact zm_224
  | 225, h, _ => cases h; exact zm_225
  | 226, h, _ => cases h; exact zm_226
  | 227, h, _ => cases h; exact zm_227
  | 228, h, _ => cases h; exact zm_228
  | 229, h, _ => cases h; exact zm_229
  | 230, h, _ => cases h; exact zm_230
  | 231, h, _ => cases h; exact zm_231
  | 232, h, _ => cases h; exact zm_232
  | 233, h, _ => cases h; exact zm_233
  | 234, h, _ => cases h; exact zm_234
  | 235, h, _ => cases h; exact zm_235
  | 236, h, _ => cases h; exact zm_236
  | 237, h, _ => cases h; exact zm_237
  | 238, h, _ => cases h; exact zm_238
  | 239, h, _ => cases h; exact zm_239
  | 240, h, _ => cases h; exact zm_240
  | 241, h, _ => cases h; exact zm_241
  | 242, h, _ => cases h; exact zm_242
  | 243, h, _ => cases h; exact zm_243
  | 244, h, _ => cases h; exact zm_244
  | 245, h, _ => cases h; exact zm_245
  | 246, h, _ => cases h; exact zm_246
  | 247, h, _ => cases h; exact zm_247
  | 248, h, _ => cases h; exact zm_248
  | 249, h, _ => cases h; exact zm_249
  | 250, h, _ => cases h; exact zm_250
  | 251, h, _ => cases h; exact zm_251
  | 252, h, _ => cases h; exact zm_252
  | 253, h, _ => cases h; exact zm_253
  | 254, h, _ => cases h; exact zm_254
  | 255, h, _ => cases h; exact zm_255
  | 256, h, _ => cases h; exact zm_256
  | 257, h, _ => cases h; exact zm_257
  | a + 258, _, h => omega
theorem zA : yAll zSS zGG zFk zPl := ⟨zWS_good, zs_cls, zs_mk, zs_ra_ok, zs_nt, zs_ac, zs_mts⟩
