/-! Decode rows of the law. -/
theorem d_L_law_222 : decode code 222 = .ok (.iadd, 1) := by decide +kernel
theorem d_L_law_223 : decode code 223 = .ok (.iaload, 1) := by decide +kernel
theorem d_L_law_224 : decode code 224 = .ok (.invokevirtual 33, 3) := by decide +kernel
theorem d_L_law_227 : decode code 227 = .ok (.aload_n 2, 1) := by decide +kernel
theorem d_L_law_228 : decode code 228 = .ok (.aload_n 0, 1) := by decide +kernel
theorem d_L_law_229 : decode code 229 = .ok (.iload_n 3, 1) := by decide +kernel
theorem d_L_law_230 : decode code 230 = .ok (.iconst 1, 1) := by decide +kernel
theorem d_L_law_231 : decode code 231 = .ok (.iadd, 1) := by decide +kernel
theorem d_L_law_232 : decode code 232 = .ok (.iaload, 1) := by decide +kernel
theorem d_L_law_233 : decode code 233 = .ok (.invokevirtual 37, 3) := by decide +kernel
theorem d_L_law_236 : decode code 236 = .ok (.if_icmp .eq 274, 3) := by decide +kernel
theorem d_L_law_239 : decode code 239 = .ok (.iconst 0, 1) := by decide +kernel
theorem d_L_law_240 : decode code 240 = .ok (.ireturn, 1) := by decide +kernel
theorem d_L_law_241 : decode code 241 = .ok (.aload_n 1, 1) := by decide +kernel
theorem d_L_law_242 : decode code 242 = .ok (.aload_n 0, 1) := by decide +kernel
theorem d_L_law_243 : decode code 243 = .ok (.iload_n 3, 1) := by decide +kernel
theorem d_L_law_244 : decode code 244 = .ok (.iconst 1, 1) := by decide +kernel
theorem d_L_law_245 : decode code 245 = .ok (.iadd, 1) := by decide +kernel
theorem d_L_law_246 : decode code 246 = .ok (.iaload, 1) := by decide +kernel
theorem d_L_law_247 : decode code 247 = .ok (.invokevirtual 38, 3) := by decide +kernel
theorem d_L_law_250 : decode code 250 = .ok (.aload_n 2, 1) := by decide +kernel
theorem d_L_law_251 : decode code 251 = .ok (.aload_n 0, 1) := by decide +kernel
theorem d_L_law_252 : decode code 252 = .ok (.iload_n 3, 1) := by decide +kernel
theorem d_L_law_253 : decode code 253 = .ok (.iconst 1, 1) := by decide +kernel
theorem d_L_law_254 : decode code 254 = .ok (.iadd, 1) := by decide +kernel
theorem d_L_law_255 : decode code 255 = .ok (.iaload, 1) := by decide +kernel
theorem d_L_law_256 : decode code 256 = .ok (.invokevirtual 42, 3) := by decide +kernel
theorem d_L_law_259 : decode code 259 = .ok (.lcmp, 1) := by decide +kernel
theorem d_L_law_260 : decode code 260 = .ok (.ifCond .eq 250, 3) := by decide +kernel
theorem d_L_law_263 : decode code 263 = .ok (.iconst 0, 1) := by decide +kernel
theorem d_L_law_264 : decode code 264 = .ok (.ireturn, 1) := by decide +kernel
theorem d_L_law_265 : decode code 265 = .ok (.aload_n 1, 1) := by decide +kernel
theorem d_L_law_266 : decode code 266 = .ok (.aload_n 0, 1) := by decide +kernel
theorem d_L_law_267 : decode code 267 = .ok (.iload_n 3, 1) := by decide +kernel
theorem d_L_law_268 : decode code 268 = .ok (.iconst 1, 1) := by decide +kernel
theorem d_L_law_269 : decode code 269 = .ok (.iadd, 1) := by decide +kernel
theorem d_L_law_270 : decode code 270 = .ok (.iaload, 1) := by decide +kernel
theorem d_L_law_271 : decode code 271 = .ok (.invokevirtual 43, 3) := by decide +kernel
theorem d_L_law_274 : decode code 274 = .ok (.aload_n 2, 1) := by decide +kernel
theorem d_L_law_275 : decode code 275 = .ok (.aload_n 0, 1) := by decide +kernel
theorem d_L_law_276 : decode code 276 = .ok (.iload_n 3, 1) := by decide +kernel
theorem d_L_law_277 : decode code 277 = .ok (.iconst 1, 1) := by decide +kernel
theorem d_L_law_278 : decode code 278 = .ok (.iadd, 1) := by decide +kernel
theorem d_L_law_279 : decode code 279 = .ok (.iaload, 1) := by decide +kernel
theorem d_L_law_280 : decode code 280 = .ok (.invokevirtual 46, 3) := by decide +kernel
theorem d_L_law_283 : decode code 283 = .ok (.if_icmp .eq 227, 3) := by decide +kernel
theorem d_L_law_286 : decode code 286 = .ok (.iconst 0, 1) := by decide +kernel
theorem d_L_law_287 : decode code 287 = .ok (.ireturn, 1) := by decide +kernel
theorem d_L_law_288 : decode code 288 = .ok (.aload_n 1, 1) := by decide +kernel
theorem d_L_law_289 : decode code 289 = .ok (.invokevirtual 47, 3) := by decide +kernel
theorem d_L_law_292 : decode code 292 = .ok (.aload_n 2, 1) := by decide +kernel
theorem d_L_law_293 : decode code 293 = .ok (.invokevirtual 51, 3) := by decide +kernel
theorem d_L_law_296 : decode code 296 = .ok (.if_icmp .eq 214, 3) := by decide +kernel
theorem d_L_law_299 : decode code 299 = .ok (.iconst 0, 1) := by decide +kernel
theorem d_L_law_300 : decode code 300 = .ok (.ireturn, 1) := by decide +kernel
theorem d_L_law_301 : decode code 301 = .ok (.aload_n 1, 1) := by decide +kernel
theorem d_L_law_302 : decode code 302 = .ok (.invokevirtual 52, 3) := by decide +kernel
theorem d_L_law_305 : decode code 305 = .ok (.aload_n 2, 1) := by decide +kernel
theorem d_L_law_306 : decode code 306 = .ok (.invokevirtual 56, 3) := by decide +kernel
theorem d_L_law_309 : decode code 309 = .ok (.if_icmp .eq 201, 3) := by decide +kernel
theorem d_L_law_312 : decode code 312 = .ok (.iconst 0, 1) := by decide +kernel
theorem d_L_law_313 : decode code 313 = .ok (.ireturn, 1) := by decide +kernel
theorem d_L_law_314 : decode code 314 = .ok (.aload_n 1, 1) := by decide +kernel
theorem d_L_law_315 : decode code 315 = .ok (.invokevirtual 57, 3) := by decide +kernel
theorem d_L_law_318 : decode code 318 = .ok (.aload_n 2, 1) := by decide +kernel
theorem d_L_law_319 : decode code 319 = .ok (.invokevirtual 60, 3) := by decide +kernel
theorem d_L_law_322 : decode code 322 = .ok (.if_icmp .eq 188, 3) := by decide +kernel
theorem d_L_law_325 : decode code 325 = .ok (.iconst 0, 1) := by decide +kernel
theorem d_L_law_326 : decode code 326 = .ok (.ireturn, 1) := by decide +kernel
theorem d_L_law_327 : decode code 327 = .ok (.aload_n 1, 1) := by decide +kernel
theorem d_L_law_328 : decode code 328 = .ok (.invokevirtual 61, 3) := by decide +kernel
theorem d_L_law_331 : decode code 331 = .ok (.aload_n 2, 1) := by decide +kernel
theorem d_L_law_332 : decode code 332 = .ok (.invokevirtual 64, 3) := by decide +kernel
theorem d_L_law_335 : decode code 335 = .ok (.if_icmp .eq 175, 3) := by decide +kernel
theorem d_L_law_338 : decode code 338 = .ok (.iconst 0, 1) := by decide +kernel
theorem d_L_law_339 : decode code 339 = .ok (.ireturn, 1) := by decide +kernel
theorem d_L_law_340 : decode code 340 = .ok (.aload_n 1, 1) := by decide +kernel
theorem d_L_law_341 : decode code 341 = .ok (.aload_n 0, 1) := by decide +kernel
theorem d_L_law_342 : decode code 342 = .ok (.iload_n 3, 1) := by decide +kernel
theorem d_L_law_343 : decode code 343 = .ok (.iconst 1, 1) := by decide +kernel
theorem d_L_law_344 : decode code 344 = .ok (.iadd, 1) := by decide +kernel
theorem d_L_law_345 : decode code 345 = .ok (.iaload, 1) := by decide +kernel
theorem d_L_law_346 : decode code 346 = .ok (.invokevirtual 65, 3) := by decide +kernel
theorem d_L_law_349 : decode code 349 = .ok (.aload_n 2, 1) := by decide +kernel
theorem d_L_law_350 : decode code 350 = .ok (.aload_n 0, 1) := by decide +kernel
theorem d_L_law_351 : decode code 351 = .ok (.iload_n 3, 1) := by decide +kernel
theorem d_L_law_352 : decode code 352 = .ok (.iconst 1, 1) := by decide +kernel
theorem d_L_law_353 : decode code 353 = .ok (.iadd, 1) := by decide +kernel
theorem d_L_law_354 : decode code 354 = .ok (.iaload, 1) := by decide +kernel
theorem d_L_law_355 : decode code 355 = .ok (.invokevirtual 68, 3) := by decide +kernel
theorem d_L_law_358 : decode code 358 = .ok (.if_icmp .eq 152, 3) := by decide +kernel
theorem d_L_law_361 : decode code 361 = .ok (.iconst 0, 1) := by decide +kernel
theorem d_L_law_362 : decode code 362 = .ok (.ireturn, 1) := by decide +kernel
theorem d_L_law_363 : decode code 363 = .ok (.aload_n 1, 1) := by decide +kernel
theorem d_L_law_364 : decode code 364 = .ok (.invokevirtual 69, 3) := by decide +kernel
theorem d_L_law_367 : decode code 367 = .ok (.aload_n 2, 1) := by decide +kernel
theorem d_L_law_368 : decode code 368 = .ok (.invokevirtual 72, 3) := by decide +kernel
theorem d_L_law_371 : decode code 371 = .ok (.if_icmp .eq 139, 3) := by decide +kernel
theorem d_L_law_374 : decode code 374 = .ok (.iconst 0, 1) := by decide +kernel
theorem d_L_law_375 : decode code 375 = .ok (.ireturn, 1) := by decide +kernel
