theorem dL_law_216 : decode code 216 = .ok (.iload_n 3, 1) := by decide +kernel
theorem dL_law_217 : decode code 217 = .ok (.iconst 1, 1) := by decide +kernel
theorem dL_law_218 : decode code 218 = .ok (.iadd, 1) := by decide +kernel
theorem dL_law_219 : decode code 219 = .ok (.iaload, 1) := by decide +kernel
theorem dL_law_220 : decode code 220 = .ok (.aload_n 0, 1) := by decide +kernel
theorem dL_law_221 : decode code 221 = .ok (.iload_n 3, 1) := by decide +kernel
theorem dL_law_222 : decode code 222 = .ok (.iconst 2, 1) := by decide +kernel
theorem dL_law_223 : decode code 223 = .ok (.iadd, 1) := by decide +kernel
theorem dL_law_224 : decode code 224 = .ok (.iaload, 1) := by decide +kernel
theorem dL_law_225 : decode code 225 = .ok (.aload_n 0, 1) := by decide +kernel
theorem dL_law_226 : decode code 226 = .ok (.iload_n 3, 1) := by decide +kernel
theorem dL_law_227 : decode code 227 = .ok (.iconst 3, 1) := by decide +kernel
theorem dL_law_228 : decode code 228 = .ok (.iadd, 1) := by decide +kernel
theorem dL_law_229 : decode code 229 = .ok (.iaload, 1) := by decide +kernel
theorem dL_law_230 : decode code 230 = .ok (.invokevirtual 31, 3) := by decide +kernel
theorem dL_law_233 : decode code 233 = .ok (.aload_n 2, 1) := by decide +kernel
theorem dL_law_234 : decode code 234 = .ok (.aload_n 0, 1) := by decide +kernel
theorem dL_law_235 : decode code 235 = .ok (.iload_n 3, 1) := by decide +kernel
theorem dL_law_236 : decode code 236 = .ok (.iconst 1, 1) := by decide +kernel
theorem dL_law_237 : decode code 237 = .ok (.iadd, 1) := by decide +kernel
theorem dL_law_238 : decode code 238 = .ok (.iaload, 1) := by decide +kernel
theorem dL_law_239 : decode code 239 = .ok (.aload_n 0, 1) := by decide +kernel
theorem dL_law_240 : decode code 240 = .ok (.iload_n 3, 1) := by decide +kernel
theorem dL_law_241 : decode code 241 = .ok (.iconst 2, 1) := by decide +kernel
theorem dL_law_242 : decode code 242 = .ok (.iadd, 1) := by decide +kernel
theorem dL_law_243 : decode code 243 = .ok (.iaload, 1) := by decide +kernel
theorem dL_law_244 : decode code 244 = .ok (.aload_n 0, 1) := by decide +kernel
theorem dL_law_245 : decode code 245 = .ok (.iload_n 3, 1) := by decide +kernel
theorem dL_law_246 : decode code 246 = .ok (.iconst 3, 1) := by decide +kernel
theorem dL_law_247 : decode code 247 = .ok (.iadd, 1) := by decide +kernel
theorem dL_law_248 : decode code 248 = .ok (.iaload, 1) := by decide +kernel
theorem dL_law_249 : decode code 249 = .ok (.invokevirtual 35, 3) := by decide +kernel
theorem dL_law_252 : decode code 252 = .ok (.if_icmp .eq 407, 3) := by decide +kernel
theorem dL_law_255 : decode code 255 = .ok (.iconst 0, 1) := by decide +kernel
theorem dL_law_256 : decode code 256 = .ok (.ireturn, 1) := by decide +kernel
theorem dL_law_257 : decode code 257 = .ok (.aload_n 1, 1) := by decide +kernel
theorem dL_law_258 : decode code 258 = .ok (.aload_n 0, 1) := by decide +kernel
theorem dL_law_259 : decode code 259 = .ok (.iload_n 3, 1) := by decide +kernel
theorem dL_law_260 : decode code 260 = .ok (.iconst 1, 1) := by decide +kernel
theorem dL_law_261 : decode code 261 = .ok (.iadd, 1) := by decide +kernel
theorem dL_law_262 : decode code 262 = .ok (.iaload, 1) := by decide +kernel
theorem dL_law_263 : decode code 263 = .ok (.aload_n 0, 1) := by decide +kernel
theorem dL_law_264 : decode code 264 = .ok (.iload_n 3, 1) := by decide +kernel
theorem dL_law_265 : decode code 265 = .ok (.iconst 2, 1) := by decide +kernel
theorem dL_law_266 : decode code 266 = .ok (.iadd, 1) := by decide +kernel
theorem dL_law_267 : decode code 267 = .ok (.iaload, 1) := by decide +kernel
theorem dL_law_268 : decode code 268 = .ok (.aload_n 0, 1) := by decide +kernel
theorem dL_law_269 : decode code 269 = .ok (.iload_n 3, 1) := by decide +kernel
theorem dL_law_270 : decode code 270 = .ok (.iconst 3, 1) := by decide +kernel
theorem dL_law_271 : decode code 271 = .ok (.iadd, 1) := by decide +kernel
theorem dL_law_272 : decode code 272 = .ok (.iaload, 1) := by decide +kernel
theorem dL_law_273 : decode code 273 = .ok (.invokevirtual 36, 3) := by decide +kernel
theorem dL_law_276 : decode code 276 = .ok (.aload_n 2, 1) := by decide +kernel
theorem dL_law_277 : decode code 277 = .ok (.aload_n 0, 1) := by decide +kernel
theorem dL_law_278 : decode code 278 = .ok (.iload_n 3, 1) := by decide +kernel
theorem dL_law_279 : decode code 279 = .ok (.iconst 1, 1) := by decide +kernel
theorem dL_law_280 : decode code 280 = .ok (.iadd, 1) := by decide +kernel
theorem dL_law_281 : decode code 281 = .ok (.iaload, 1) := by decide +kernel
theorem dL_law_282 : decode code 282 = .ok (.aload_n 0, 1) := by decide +kernel
theorem dL_law_283 : decode code 283 = .ok (.iload_n 3, 1) := by decide +kernel
theorem dL_law_284 : decode code 284 = .ok (.iconst 2, 1) := by decide +kernel
theorem dL_law_285 : decode code 285 = .ok (.iadd, 1) := by decide +kernel
theorem dL_law_286 : decode code 286 = .ok (.iaload, 1) := by decide +kernel
theorem dL_law_287 : decode code 287 = .ok (.aload_n 0, 1) := by decide +kernel
theorem dL_law_288 : decode code 288 = .ok (.iload_n 3, 1) := by decide +kernel
theorem dL_law_289 : decode code 289 = .ok (.iconst 3, 1) := by decide +kernel
theorem dL_law_290 : decode code 290 = .ok (.iadd, 1) := by decide +kernel
theorem dL_law_291 : decode code 291 = .ok (.iaload, 1) := by decide +kernel
theorem dL_law_292 : decode code 292 = .ok (.invokevirtual 40, 3) := by decide +kernel
theorem dL_law_295 : decode code 295 = .ok (.if_icmp .eq 364, 3) := by decide +kernel
theorem dL_law_298 : decode code 298 = .ok (.iconst 0, 1) := by decide +kernel
theorem dL_law_299 : decode code 299 = .ok (.ireturn, 1) := by decide +kernel
theorem dL_law_300 : decode code 300 = .ok (.aload_n 1, 1) := by decide +kernel
theorem dL_law_301 : decode code 301 = .ok (.aload_n 0, 1) := by decide +kernel
theorem dL_law_302 : decode code 302 = .ok (.iload_n 3, 1) := by decide +kernel
theorem dL_law_303 : decode code 303 = .ok (.iconst 1, 1) := by decide +kernel
theorem dL_law_304 : decode code 304 = .ok (.iadd, 1) := by decide +kernel
theorem dL_law_305 : decode code 305 = .ok (.iaload, 1) := by decide +kernel
theorem dL_law_306 : decode code 306 = .ok (.aload_n 0, 1) := by decide +kernel
theorem dL_law_307 : decode code 307 = .ok (.iload_n 3, 1) := by decide +kernel
theorem dL_law_308 : decode code 308 = .ok (.iconst 2, 1) := by decide +kernel
theorem dL_law_309 : decode code 309 = .ok (.iadd, 1) := by decide +kernel
theorem dL_law_310 : decode code 310 = .ok (.iaload, 1) := by decide +kernel
theorem dL_law_311 : decode code 311 = .ok (.invokevirtual 41, 3) := by decide +kernel
theorem dL_law_314 : decode code 314 = .ok (.aload_n 2, 1) := by decide +kernel
theorem dL_law_315 : decode code 315 = .ok (.aload_n 0, 1) := by decide +kernel
theorem dL_law_316 : decode code 316 = .ok (.iload_n 3, 1) := by decide +kernel
theorem dL_law_317 : decode code 317 = .ok (.iconst 1, 1) := by decide +kernel
theorem dL_law_318 : decode code 318 = .ok (.iadd, 1) := by decide +kernel
theorem dL_law_319 : decode code 319 = .ok (.iaload, 1) := by decide +kernel
