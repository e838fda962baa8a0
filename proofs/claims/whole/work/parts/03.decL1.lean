theorem mD_La_law_229 : decode mB_La_law 229 = .ok (.invokevirtual 80, 3) := by decide +kernel
theorem mD_La_law_232 : decode mB_La_law 232 = .ok (.istore 6, 2) := by decide +kernel
theorem mD_La_law_234 : decode mB_La_law 234 = .ok (.aload_n 2, 1) := by decide +kernel
theorem mD_La_law_235 : decode mB_La_law 235 = .ok (.invokevirtual 73, 3) := by decide +kernel
theorem mD_La_law_238 : decode mB_La_law 238 = .ok (.iload 5, 2) := by decide +kernel
theorem mD_La_law_240 : decode mB_La_law 240 = .ok (.if_icmp .eq 5, 3) := by decide +kernel
theorem mD_La_law_243 : decode mB_La_law 243 = .ok (.iconst 0, 1) := by decide +kernel
theorem mD_La_law_244 : decode mB_La_law 244 = .ok (.ireturn, 1) := by decide +kernel
theorem mD_La_law_245 : decode mB_La_law 245 = .ok (.iload 5, 2) := by decide +kernel
theorem mD_La_law_247 : decode mB_La_law 247 = .ok (.ifCond .ne 15, 3) := by decide +kernel
theorem mD_La_law_250 : decode mB_La_law 250 = .ok (.aload_n 3, 1) := by decide +kernel
theorem mD_La_law_251 : decode mB_La_law 251 = .ok (.iconst 0, 1) := by decide +kernel
theorem mD_La_law_252 : decode mB_La_law 252 = .ok (.laload, 1) := by decide +kernel
theorem mD_La_law_253 : decode mB_La_law 253 = .ok (.iload 6, 2) := by decide +kernel
theorem mD_La_law_255 : decode mB_La_law 255 = .ok (.i2l, 1) := by decide +kernel
theorem mD_La_law_256 : decode mB_La_law 256 = .ok (.lcmp, 1) := by decide +kernel
theorem mD_La_law_257 : decode mB_La_law 257 = .ok (.ifCond .eq 5, 3) := by decide +kernel
theorem mD_La_law_260 : decode mB_La_law 260 = .ok (.iconst 0, 1) := by decide +kernel
theorem mD_La_law_261 : decode mB_La_law 261 = .ok (.ireturn, 1) := by decide +kernel
theorem mD_La_law_262 : decode mB_La_law 262 = .ok (.goto 747, 3) := by decide +kernel
theorem mD_La_law_265 : decode mB_La_law 265 = .ok (.aload_n 1, 1) := by decide +kernel
theorem mD_La_law_266 : decode mB_La_law 266 = .ok (.aload_n 0, 1) := by decide +kernel
theorem mD_La_law_267 : decode mB_La_law 267 = .ok (.iload 4, 2) := by decide +kernel
theorem mD_La_law_269 : decode mB_La_law 269 = .ok (.iconst 1, 1) := by decide +kernel
theorem mD_La_law_270 : decode mB_La_law 270 = .ok (.iadd, 1) := by decide +kernel
theorem mD_La_law_271 : decode mB_La_law 271 = .ok (.iaload, 1) := by decide +kernel
theorem mD_La_law_272 : decode mB_La_law 272 = .ok (.aload_n 3, 1) := by decide +kernel
theorem mD_La_law_273 : decode mB_La_law 273 = .ok (.invokestatic 81, 3) := by decide +kernel
theorem mD_La_law_276 : decode mB_La_law 276 = .ok (.istore 5, 2) := by decide +kernel
theorem mD_La_law_278 : decode mB_La_law 278 = .ok (.aload_n 2, 1) := by decide +kernel
theorem mD_La_law_279 : decode mB_La_law 279 = .ok (.aload_n 0, 1) := by decide +kernel
theorem mD_La_law_280 : decode mB_La_law 280 = .ok (.iload 4, 2) := by decide +kernel
theorem mD_La_law_282 : decode mB_La_law 282 = .ok (.iconst 1, 1) := by decide +kernel
theorem mD_La_law_283 : decode mB_La_law 283 = .ok (.iadd, 1) := by decide +kernel
theorem mD_La_law_284 : decode mB_La_law 284 = .ok (.iaload, 1) := by decide +kernel
theorem mD_La_law_285 : decode mB_La_law 285 = .ok (.invokevirtual 83, 3) := by decide +kernel
theorem mD_La_law_288 : decode mB_La_law 288 = .ok (.istore 6, 2) := by decide +kernel
theorem mD_La_law_290 : decode mB_La_law 290 = .ok (.aload_n 2, 1) := by decide +kernel
theorem mD_La_law_291 : decode mB_La_law 291 = .ok (.invokevirtual 73, 3) := by decide +kernel
theorem mD_La_law_294 : decode mB_La_law 294 = .ok (.iload 5, 2) := by decide +kernel
theorem mD_La_law_296 : decode mB_La_law 296 = .ok (.if_icmp .eq 5, 3) := by decide +kernel
theorem mD_La_law_299 : decode mB_La_law 299 = .ok (.iconst 0, 1) := by decide +kernel
theorem mD_La_law_300 : decode mB_La_law 300 = .ok (.ireturn, 1) := by decide +kernel
theorem mD_La_law_301 : decode mB_La_law 301 = .ok (.iload 5, 2) := by decide +kernel
theorem mD_La_law_303 : decode mB_La_law 303 = .ok (.ifCond .ne 15, 3) := by decide +kernel
theorem mD_La_law_306 : decode mB_La_law 306 = .ok (.aload_n 3, 1) := by decide +kernel
theorem mD_La_law_307 : decode mB_La_law 307 = .ok (.iconst 0, 1) := by decide +kernel
theorem mD_La_law_308 : decode mB_La_law 308 = .ok (.laload, 1) := by decide +kernel
theorem mD_La_law_309 : decode mB_La_law 309 = .ok (.iload 6, 2) := by decide +kernel
theorem mD_La_law_311 : decode mB_La_law 311 = .ok (.i2l, 1) := by decide +kernel
theorem mD_La_law_312 : decode mB_La_law 312 = .ok (.lcmp, 1) := by decide +kernel
theorem mD_La_law_313 : decode mB_La_law 313 = .ok (.ifCond .eq 5, 3) := by decide +kernel
theorem mD_La_law_316 : decode mB_La_law 316 = .ok (.iconst 0, 1) := by decide +kernel
theorem mD_La_law_317 : decode mB_La_law 317 = .ok (.ireturn, 1) := by decide +kernel
theorem mD_La_law_318 : decode mB_La_law 318 = .ok (.goto 691, 3) := by decide +kernel
theorem mD_La_law_321 : decode mB_La_law 321 = .ok (.aload_n 1, 1) := by decide +kernel
theorem mD_La_law_322 : decode mB_La_law 322 = .ok (.aload_n 0, 1) := by decide +kernel
theorem mD_La_law_323 : decode mB_La_law 323 = .ok (.iload 4, 2) := by decide +kernel
theorem mD_La_law_325 : decode mB_La_law 325 = .ok (.iconst 1, 1) := by decide +kernel
theorem mD_La_law_326 : decode mB_La_law 326 = .ok (.iadd, 1) := by decide +kernel
theorem mD_La_law_327 : decode mB_La_law 327 = .ok (.iaload, 1) := by decide +kernel
theorem mD_La_law_328 : decode mB_La_law 328 = .ok (.aload_n 0, 1) := by decide +kernel
theorem mD_La_law_329 : decode mB_La_law 329 = .ok (.iload 4, 2) := by decide +kernel
theorem mD_La_law_331 : decode mB_La_law 331 = .ok (.iconst 2, 1) := by decide +kernel
theorem mD_La_law_332 : decode mB_La_law 332 = .ok (.iadd, 1) := by decide +kernel
theorem mD_La_law_333 : decode mB_La_law 333 = .ok (.iaload, 1) := by decide +kernel
theorem mD_La_law_334 : decode mB_La_law 334 = .ok (.aload_n 3, 1) := by decide +kernel
theorem mD_La_law_335 : decode mB_La_law 335 = .ok (.invokestatic 84, 3) := by decide +kernel
theorem mD_La_law_338 : decode mB_La_law 338 = .ok (.istore 5, 2) := by decide +kernel
theorem mD_La_law_340 : decode mB_La_law 340 = .ok (.aload_n 2, 1) := by decide +kernel
theorem mD_La_law_341 : decode mB_La_law 341 = .ok (.aload_n 0, 1) := by decide +kernel
theorem mD_La_law_342 : decode mB_La_law 342 = .ok (.iload 4, 2) := by decide +kernel
theorem mD_La_law_344 : decode mB_La_law 344 = .ok (.iconst 1, 1) := by decide +kernel
theorem mD_La_law_345 : decode mB_La_law 345 = .ok (.iadd, 1) := by decide +kernel
theorem mD_La_law_346 : decode mB_La_law 346 = .ok (.iaload, 1) := by decide +kernel
theorem mD_La_law_347 : decode mB_La_law 347 = .ok (.aload_n 0, 1) := by decide +kernel
theorem mD_La_law_348 : decode mB_La_law 348 = .ok (.iload 4, 2) := by decide +kernel
theorem mD_La_law_350 : decode mB_La_law 350 = .ok (.iconst 2, 1) := by decide +kernel
theorem mD_La_law_351 : decode mB_La_law 351 = .ok (.iadd, 1) := by decide +kernel
theorem mD_La_law_352 : decode mB_La_law 352 = .ok (.iaload, 1) := by decide +kernel
theorem mD_La_law_353 : decode mB_La_law 353 = .ok (.invokevirtual 87, 3) := by decide +kernel
theorem mD_La_law_356 : decode mB_La_law 356 = .ok (.istore 6, 2) := by decide +kernel
theorem mD_La_law_358 : decode mB_La_law 358 = .ok (.aload_n 2, 1) := by decide +kernel
theorem mD_La_law_359 : decode mB_La_law 359 = .ok (.invokevirtual 73, 3) := by decide +kernel
theorem mD_La_law_362 : decode mB_La_law 362 = .ok (.iload 5, 2) := by decide +kernel
theorem mD_La_law_364 : decode mB_La_law 364 = .ok (.if_icmp .eq 5, 3) := by decide +kernel
theorem mD_La_law_367 : decode mB_La_law 367 = .ok (.iconst 0, 1) := by decide +kernel
theorem mD_La_law_368 : decode mB_La_law 368 = .ok (.ireturn, 1) := by decide +kernel
theorem mD_La_law_369 : decode mB_La_law 369 = .ok (.iload 5, 2) := by decide +kernel
theorem mD_La_law_371 : decode mB_La_law 371 = .ok (.ifCond .ne 15, 3) := by decide +kernel
theorem mD_La_law_374 : decode mB_La_law 374 = .ok (.aload_n 3, 1) := by decide +kernel
theorem mD_La_law_375 : decode mB_La_law 375 = .ok (.iconst 0, 1) := by decide +kernel
theorem mD_La_law_376 : decode mB_La_law 376 = .ok (.laload, 1) := by decide +kernel
theorem mD_La_law_377 : decode mB_La_law 377 = .ok (.iload 6, 2) := by decide +kernel
theorem mD_La_law_379 : decode mB_La_law 379 = .ok (.i2l, 1) := by decide +kernel
theorem mD_La_law_380 : decode mB_La_law 380 = .ok (.lcmp, 1) := by decide +kernel
theorem mD_La_law_381 : decode mB_La_law 381 = .ok (.ifCond .eq 5, 3) := by decide +kernel
theorem mD_La_law_384 : decode mB_La_law 384 = .ok (.iconst 0, 1) := by decide +kernel
theorem mD_La_law_385 : decode mB_La_law 385 = .ok (.ireturn, 1) := by decide +kernel
theorem mD_La_law_386 : decode mB_La_law 386 = .ok (.goto 623, 3) := by decide +kernel
