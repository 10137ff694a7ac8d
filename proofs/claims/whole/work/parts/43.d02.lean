/-! decode rows of the law -/
theorem d_law_306 : decode code 306 = .ok (.if_icmp .eq 965, 3) := by decide +kernel
theorem d_law_309 : decode code 309 = .ok (.iconst 0, 1) := by decide +kernel
theorem d_law_310 : decode code 310 = .ok (.ireturn, 1) := by decide +kernel
theorem d_law_311 : decode code 311 = .ok (.aload_n 1, 1) := by decide +kernel
theorem d_law_312 : decode code 312 = .ok (.invokevirtual 28, 3) := by decide +kernel
theorem d_law_315 : decode code 315 = .ok (.aload_n 2, 1) := by decide +kernel
theorem d_law_316 : decode code 316 = .ok (.invokevirtual 31, 3) := by decide +kernel
theorem d_law_319 : decode code 319 = .ok (.if_icmp .eq 952, 3) := by decide +kernel
theorem d_law_322 : decode code 322 = .ok (.iconst 0, 1) := by decide +kernel
theorem d_law_323 : decode code 323 = .ok (.ireturn, 1) := by decide +kernel
theorem d_law_324 : decode code 324 = .ok (.aload_n 1, 1) := by decide +kernel
theorem d_law_325 : decode code 325 = .ok (.aload_n 0, 1) := by decide +kernel
theorem d_law_326 : decode code 326 = .ok (.iload_n 3, 1) := by decide +kernel
theorem d_law_327 : decode code 327 = .ok (.iconst 1, 1) := by decide +kernel
theorem d_law_328 : decode code 328 = .ok (.iadd, 1) := by decide +kernel
theorem d_law_329 : decode code 329 = .ok (.iaload, 1) := by decide +kernel
theorem d_law_330 : decode code 330 = .ok (.aload_n 0, 1) := by decide +kernel
theorem d_law_331 : decode code 331 = .ok (.iload_n 3, 1) := by decide +kernel
theorem d_law_332 : decode code 332 = .ok (.iconst 2, 1) := by decide +kernel
theorem d_law_333 : decode code 333 = .ok (.iadd, 1) := by decide +kernel
theorem d_law_334 : decode code 334 = .ok (.iaload, 1) := by decide +kernel
theorem d_law_335 : decode code 335 = .ok (.invokevirtual 32, 3) := by decide +kernel
theorem d_law_338 : decode code 338 = .ok (.aload_n 2, 1) := by decide +kernel
theorem d_law_339 : decode code 339 = .ok (.aload_n 0, 1) := by decide +kernel
theorem d_law_340 : decode code 340 = .ok (.iload_n 3, 1) := by decide +kernel
theorem d_law_341 : decode code 341 = .ok (.iconst 1, 1) := by decide +kernel
theorem d_law_342 : decode code 342 = .ok (.iadd, 1) := by decide +kernel
theorem d_law_343 : decode code 343 = .ok (.iaload, 1) := by decide +kernel
theorem d_law_344 : decode code 344 = .ok (.aload_n 0, 1) := by decide +kernel
theorem d_law_345 : decode code 345 = .ok (.iload_n 3, 1) := by decide +kernel
theorem d_law_346 : decode code 346 = .ok (.iconst 2, 1) := by decide +kernel
theorem d_law_347 : decode code 347 = .ok (.iadd, 1) := by decide +kernel
theorem d_law_348 : decode code 348 = .ok (.iaload, 1) := by decide +kernel
theorem d_law_349 : decode code 349 = .ok (.invokevirtual 36, 3) := by decide +kernel
theorem d_law_352 : decode code 352 = .ok (.if_icmp .eq 919, 3) := by decide +kernel
theorem d_law_355 : decode code 355 = .ok (.iconst 0, 1) := by decide +kernel
theorem d_law_356 : decode code 356 = .ok (.ireturn, 1) := by decide +kernel
theorem d_law_357 : decode code 357 = .ok (.aload_n 1, 1) := by decide +kernel
theorem d_law_358 : decode code 358 = .ok (.aload_n 0, 1) := by decide +kernel
theorem d_law_359 : decode code 359 = .ok (.iload_n 3, 1) := by decide +kernel
theorem d_law_360 : decode code 360 = .ok (.iconst 1, 1) := by decide +kernel
theorem d_law_361 : decode code 361 = .ok (.iadd, 1) := by decide +kernel
theorem d_law_362 : decode code 362 = .ok (.iaload, 1) := by decide +kernel
theorem d_law_363 : decode code 363 = .ok (.aload_n 0, 1) := by decide +kernel
theorem d_law_364 : decode code 364 = .ok (.iload_n 3, 1) := by decide +kernel
theorem d_law_365 : decode code 365 = .ok (.iconst 2, 1) := by decide +kernel
theorem d_law_366 : decode code 366 = .ok (.iadd, 1) := by decide +kernel
theorem d_law_367 : decode code 367 = .ok (.iaload, 1) := by decide +kernel
theorem d_law_368 : decode code 368 = .ok (.invokevirtual 37, 3) := by decide +kernel
theorem d_law_371 : decode code 371 = .ok (.aload_n 2, 1) := by decide +kernel
