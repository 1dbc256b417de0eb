/-! THE CHECK, proofs 3 -/
set_option maxRecDepth 100000 in
theorem chk_200 : chkM 200 = true := by decide +kernel
set_option maxRecDepth 100000 in
theorem chk_201 : chkM 201 = true := by decide +kernel
set_option maxRecDepth 100000 in
theorem chk_202 : chkM 202 = true := by decide +kernel
set_option maxRecDepth 100000 in
theorem chk_203 : chkM 203 = true := by decide +kernel
set_option maxRecDepth 100000 in
theorem chk_204 : chkM 204 = true := by decide +kernel
set_option maxRecDepth 100000 in
theorem chk_205 : chkM 205 = true := by decide +kernel
set_option maxRecDepth 100000 in
theorem chk_206 : chkM 206 = true := by decide +kernel
set_option maxRecDepth 100000 in
theorem chk_207 : chkM 207 = true := by decide +kernel
set_option maxRecDepth 100000 in
theorem chk_208 : chkM 208 = true := by decide +kernel
set_option maxRecDepth 100000 in
theorem chk_209 : chkM 209 = true := by decide +kernel
set_option maxRecDepth 100000 in
theorem chk_210 : chkM 210 = true := by decide +kernel
set_option maxRecDepth 100000 in
theorem chk_211 : chkM 211 = true := by decide +kernel
set_option maxRecDepth 100000 in
theorem chk_212 : chkM 212 = true := by decide +kernel
set_option maxRecDepth 100000 in
theorem chk_213 : chkM 213 = true := by decide +kernel
set_option maxRecDepth 100000 in
theorem chk_214 : chkM 214 = true := by decide +kernel
set_option maxRecDepth 100000 in
theorem chk_215 : chkM 215 = true := by decide +kernel
set_option maxRecDepth 100000 in
theorem chk_216 : chkM 216 = true := by decide +kernel
set_option maxRecDepth 100000 in
theorem chk_217 : chkM 217 = true := by decide +kernel
set_option maxRecDepth 100000 in
theorem chk_218 : chkM 218 = true := by decide +kernel
set_option maxRecDepth 100000 in
theorem chk_219 : chkM 219 = true := by decide +kernel
set_option maxRecDepth 100000 in
theorem chk_220 : chkM 220 = true := by decide +kernel
set_option maxRecDepth 100000 in
theorem chk_221 : chkM 221 = true := by decide +kernel
set_option maxRecDepth 100000 in
theorem chk_222 : chkM 222 = true := by decide +kernel
set_option maxRecDepth 100000 in
theorem chk_223 : chkM 223 = true := by decide +kernel
set_option maxRecDepth 100000 in
theorem chk_224 : chkM 224 = true := by decide +kernel
set_option maxRecDepth 100000 in
theorem chk_225 : chkM 225 = true := by decide +kernel
set_option maxRecDepth 100000 in
theorem chk_226 : chkM 226 = true := by decide +kernel
set_option maxRecDepth 100000 in
theorem chk_228 : chkM 228 = true := by decide +kernel
set_option maxRecDepth 100000 in
theorem chk_229 : chkM 229 = true := by decide +kernel
set_option maxRecDepth 100000 in
theorem chk_230 : chkM 230 = true := by decide +kernel
set_option maxRecDepth 100000 in
theorem chk_231 : chkM 231 = true := by decide +kernel
set_option maxRecDepth 100000 in
theorem chk_232 : chkM 232 = true := by decide +kernel
set_option maxRecDepth 100000 in
theorem chk_233 : chkM 233 = true := by decide +kernel
set_option maxRecDepth 100000 in
theorem chk_234 : chkM 234 = true := by decide +kernel
set_option maxRecDepth 100000 in
theorem chk_235 : chkM 235 = true := by decide +kernel
set_option maxRecDepth 100000 in
theorem chk_236 : chkM 236 = true := by decide +kernel
set_option maxRecDepth 100000 in
theorem chk_237 : chkM 237 = true := by decide +kernel
set_option maxRecDepth 100000 in
theorem chk_238 : chkM 238 = true := by decide +kernel
set_option maxRecDepth 100000 in
theorem chk_239 : chkM 239 = true := by decide +kernel
set_option maxRecDepth 100000 in
theorem chk_240 : chkM 240 = true := by decide +kernel
set_option maxRecDepth 100000 in
theorem chk_241 : chkM 241 = true := by decide +kernel
set_option maxRecDepth 100000 in
theorem chk_242 : chkM 242 = true := by decide +kernel
set_option maxRecDepth 100000 in
theorem chk_243 : chkM 243 = true := by decide +kernel
set_option maxRecDepth 100000 in
theorem chk_244 : chkM 244 = true := by decide +kernel
set_option maxRecDepth 100000 in
theorem chk_245 : chkM 245 = true := by decide +kernel
set_option maxRecDepth 100000 in
theorem chk_246 : chkM 246 = true := by decide +kernel
set_option maxRecDepth 100000 in
theorem chk_247 : chkM 247 = true := by decide +kernel
set_option maxRecDepth 100000 in
theorem chk_248 : chkM 248 = true := by decide +kernel
set_option maxRecDepth 100000 in
theorem chk_249 : chkM 249 = true := by decide +kernel
set_option maxRecDepth 100000 in
theorem chk_250 : chkM 250 = true := by decide +kernel
set_option maxRecDepth 100000 in
theorem chk_251 : chkM 251 = true := by decide +kernel
set_option maxRecDepth 100000 in
theorem chk_252 : chkM 252 = true := by decide +kernel
set_option maxRecDepth 100000 in
theorem chk_253 : chkM 253 = true := by decide +kernel
set_option maxRecDepth 100000 in
theorem chk_254 : chkM 254 = true := by decide +kernel
set_option maxRecDepth 100000 in
theorem chk_255 : chkM 255 = true := by decide +kernel
set_option maxRecDepth 100000 in
theorem chk_256 : chkM 256 = true := by decide +kernel
set_option maxRecDepth 100000 in
theorem chk_257 : chkM 257 = true := by decide +kernel
set_option maxRecDepth 100000 in
theorem chk_258 : chkM 258 = true := by decide +kernel
set_option maxRecDepth 100000 in
theorem chk_259 : chkM 259 = true := by decide +kernel
set_option maxRecDepth 100000 in
theorem chk_260 : chkM 260 = true := by decide +kernel
set_option maxRecDepth 100000 in
theorem chk_261 : chkM 261 = true := by decide +kernel
set_option maxRecDepth 100000 in
theorem chk_262 : chkM 262 = true := by decide +kernel
set_option maxRecDepth 100000 in
theorem chk_263 : chkM 263 = true := by decide +kernel
set_option maxRecDepth 100000 in
theorem chk_264 : chkM 264 = true := by decide +kernel
set_option maxRecDepth 100000 in
theorem chk_265 : chkM 265 = true := by decide +kernel
set_option maxRecDepth 100000 in
theorem chk_266 : chkM 266 = true := by decide +kernel
set_option maxRecDepth 100000 in
theorem chk_267 : chkM 267 = true := by decide +kernel
set_option maxRecDepth 100000 in
theorem chk_268 : chkM 268 = true := by decide +kernel
set_option maxRecDepth 100000 in
theorem chk_269 : chkM 269 = true := by decide +kernel
set_option maxRecDepth 100000 in
theorem chk_270 : chkM 270 = true := by decide +kernel
set_option maxRecDepth 100000 in
theorem chk_271 : chkM 271 = true := by decide +kernel
set_option maxRecDepth 100000 in
theorem chk_272 : chkM 272 = true := by decide +kernel
set_option maxRecDepth 100000 in
theorem chk_273 : chkM 273 = true := by decide +kernel
set_option maxRecDepth 100000 in
theorem chk_274 : chkM 274 = true := by decide +kernel
set_option maxRecDepth 100000 in
theorem chk_275 : chkM 275 = true := by decide +kernel
set_option maxRecDepth 100000 in
theorem chk_276 : chkM 276 = true := by decide +kernel
set_option maxRecDepth 100000 in
theorem chk_277 : chkM 277 = true := by decide +kernel
set_option maxRecDepth 100000 in
theorem chk_278 : chkM 278 = true := by decide +kernel
set_option maxRecDepth 100000 in
theorem chk_279 : chkM 279 = true := by decide +kernel
set_option maxRecDepth 100000 in
theorem chk_280 : chkM 280 = true := by decide +kernel
set_option maxRecDepth 100000 in
theorem chk_281 : chkM 281 = true := by decide +kernel
set_option maxRecDepth 100000 in
theorem chk_282 : chkM 282 = true := by decide +kernel
set_option maxRecDepth 100000 in
theorem chk_283 : chkM 283 = true := by decide +kernel
set_option maxRecDepth 100000 in
theorem chk_284 : chkM 284 = true := by decide +kernel
set_option maxRecDepth 100000 in
theorem chk_285 : chkM 285 = true := by decide +kernel
set_option maxRecDepth 100000 in
theorem chk_286 : chkM 286 = true := by decide +kernel
set_option maxRecDepth 100000 in
theorem chk_287 : chkM 287 = true := by decide +kernel
set_option maxRecDepth 100000 in
theorem chk_288 : chkM 288 = true := by decide +kernel
set_option maxRecDepth 100000 in
theorem chk_289 : chkM 289 = true := by decide +kernel
set_option maxRecDepth 100000 in
theorem chk_290 : chkM 290 = true := by decide +kernel
set_option maxRecDepth 100000 in
theorem chk_291 : chkM 291 = true := by decide +kernel
set_option maxRecDepth 100000 in
theorem chk_292 : chkM 292 = true := by decide +kernel
set_option maxRecDepth 100000 in
theorem chk_293 : chkM 293 = true := by decide +kernel
set_option maxRecDepth 100000 in
theorem chk_294 : chkM 294 = true := by decide +kernel
set_option maxRecDepth 100000 in
theorem chk_295 : chkM 295 = true := by decide +kernel
set_option maxRecDepth 100000 in
theorem chk_296 : chkM 296 = true := by decide +kernel
set_option maxRecDepth 100000 in
theorem chk_297 : chkM 297 = true := by decide +kernel
set_option maxRecDepth 100000 in
theorem chk_298 : chkM 298 = true := by decide +kernel
set_option maxRecDepth 100000 in
theorem chk_299 : chkM 299 = true := by decide +kernel
