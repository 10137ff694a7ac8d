/-! decode rows of the law -/
theorem d_law_372 : decode code 372 = .ok (.aload_n 0, 1) := by decide +kernel
theorem d_law_373 : decode code 373 = .ok (.iload_n 3, 1) := by decide +kernel
theorem d_law_374 : decode code 374 = .ok (.iconst 1, 1) := by decide +kernel
theorem d_law_375 : decode code 375 = .ok (.iadd, 1) := by decide +kernel
theorem d_law_376 : decode code 376 = .ok (.iaload, 1) := by decide +kernel
theorem d_law_377 : decode code 377 = .ok (.aload_n 0, 1) := by decide +kernel
theorem d_law_378 : decode code 378 = .ok (.iload_n 3, 1) := by decide +kernel
theorem d_law_379 : decode code 379 = .ok (.iconst 2, 1) := by decide +kernel
theorem d_law_380 : decode code 380 = .ok (.iadd, 1) := by decide +kernel
theorem d_law_381 : decode code 381 = .ok (.iaload, 1) := by decide +kernel
theorem d_law_382 : decode code 382 = .ok (.invokevirtual 40, 3) := by decide +kernel
theorem d_law_385 : decode code 385 = .ok (.if_icmp .eq 886, 3) := by decide +kernel
theorem d_law_388 : decode code 388 = .ok (.iconst 0, 1) := by decide +kernel
theorem d_law_389 : decode code 389 = .ok (.ireturn, 1) := by decide +kernel
theorem d_law_390 : decode code 390 = .ok (.aload_n 1, 1) := by decide +kernel
theorem d_law_391 : decode code 391 = .ok (.aload_n 0, 1) := by decide +kernel
theorem d_law_392 : decode code 392 = .ok (.iload_n 3, 1) := by decide +kernel
theorem d_law_393 : decode code 393 = .ok (.iconst 1, 1) := by decide +kernel
theorem d_law_394 : decode code 394 = .ok (.iadd, 1) := by decide +kernel
theorem d_law_395 : decode code 395 = .ok (.iaload, 1) := by decide +kernel
theorem d_law_396 : decode code 396 = .ok (.aload_n 0, 1) := by decide +kernel
theorem d_law_397 : decode code 397 = .ok (.iload_n 3, 1) := by decide +kernel
theorem d_law_398 : decode code 398 = .ok (.iconst 2, 1) := by decide +kernel
theorem d_law_399 : decode code 399 = .ok (.iadd, 1) := by decide +kernel
theorem d_law_400 : decode code 400 = .ok (.iaload, 1) := by decide +kernel
theorem d_law_401 : decode code 401 = .ok (.invokevirtual 41, 3) := by decide +kernel
theorem d_law_404 : decode code 404 = .ok (.aload_n 2, 1) := by decide +kernel
theorem d_law_405 : decode code 405 = .ok (.aload_n 0, 1) := by decide +kernel
theorem d_law_406 : decode code 406 = .ok (.iload_n 3, 1) := by decide +kernel
theorem d_law_407 : decode code 407 = .ok (.iconst 1, 1) := by decide +kernel
theorem d_law_408 : decode code 408 = .ok (.iadd, 1) := by decide +kernel
theorem d_law_409 : decode code 409 = .ok (.iaload, 1) := by decide +kernel
theorem d_law_410 : decode code 410 = .ok (.aload_n 0, 1) := by decide +kernel
theorem d_law_411 : decode code 411 = .ok (.iload_n 3, 1) := by decide +kernel
theorem d_law_412 : decode code 412 = .ok (.iconst 2, 1) := by decide +kernel
theorem d_law_413 : decode code 413 = .ok (.iadd, 1) := by decide +kernel
theorem d_law_414 : decode code 414 = .ok (.iaload, 1) := by decide +kernel
theorem d_law_415 : decode code 415 = .ok (.invokevirtual 44, 3) := by decide +kernel
theorem d_law_418 : decode code 418 = .ok (.if_icmp .eq 853, 3) := by decide +kernel
theorem d_law_421 : decode code 421 = .ok (.iconst 0, 1) := by decide +kernel
theorem d_law_422 : decode code 422 = .ok (.ireturn, 1) := by decide +kernel
theorem d_law_423 : decode code 423 = .ok (.aload_n 1, 1) := by decide +kernel
theorem d_law_424 : decode code 424 = .ok (.aload_n 0, 1) := by decide +kernel
theorem d_law_425 : decode code 425 = .ok (.iload_n 3, 1) := by decide +kernel
theorem d_law_426 : decode code 426 = .ok (.iconst 1, 1) := by decide +kernel
theorem d_law_427 : decode code 427 = .ok (.iadd, 1) := by decide +kernel
theorem d_law_428 : decode code 428 = .ok (.iaload, 1) := by decide +kernel
theorem d_law_429 : decode code 429 = .ok (.aload_n 0, 1) := by decide +kernel
theorem d_law_430 : decode code 430 = .ok (.iload_n 3, 1) := by decide +kernel
theorem d_law_431 : decode code 431 = .ok (.iconst 2, 1) := by decide +kernel
