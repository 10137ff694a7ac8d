/-! decode rows of the constructor of the reference -/
theorem d_M_init_501 : decode prog_14_method_2_code 501 = .ok (.lastore, 1) := by decide +kernel
theorem d_M_init_502 : decode prog_14_method_2_code 502 = .ok (.aload_n 0, 1) := by decide +kernel
theorem d_M_init_503 : decode prog_14_method_2_code 503 = .ok (.getfield 34, 3) := by decide +kernel
theorem d_M_init_506 : decode prog_14_method_2_code 506 = .ok (.iconst 4, 1) := by decide +kernel
theorem d_M_init_507 : decode prog_14_method_2_code 507 = .ok (.bipush 98, 2) := by decide +kernel
theorem d_M_init_509 : decode prog_14_method_2_code 509 = .ok (.bipush 101, 2) := by decide +kernel
theorem d_M_init_511 : decode prog_14_method_2_code 511 = .ok (.bipush 110, 2) := by decide +kernel
theorem d_M_init_513 : decode prog_14_method_2_code 513 = .ok (.bipush 100, 2) := by decide +kernel
theorem d_M_init_515 : decode prog_14_method_2_code 515 = .ok (.bipush 115, 2) := by decide +kernel
theorem d_M_init_517 : decode prog_14_method_2_code 517 = .ok (.iconst 0, 1) := by decide +kernel
theorem d_M_init_518 : decode prog_14_method_2_code 518 = .ok (.iconst 0, 1) := by decide +kernel
theorem d_M_init_519 : decode prog_14_method_2_code 519 = .ok (.invokestatic 168, 3) := by decide +kernel
theorem d_M_init_522 : decode prog_14_method_2_code 522 = .ok (.lastore, 1) := by decide +kernel
theorem d_M_init_523 : decode prog_14_method_2_code 523 = .ok (.aload_n 0, 1) := by decide +kernel
theorem d_M_init_524 : decode prog_14_method_2_code 524 = .ok (.getfield 34, 3) := by decide +kernel
theorem d_M_init_527 : decode prog_14_method_2_code 527 = .ok (.iconst 5, 1) := by decide +kernel
theorem d_M_init_528 : decode prog_14_method_2_code 528 = .ok (.bipush 115, 2) := by decide +kernel
theorem d_M_init_530 : decode prog_14_method_2_code 530 = .ok (.bipush 108, 2) := by decide +kernel
theorem d_M_init_532 : decode prog_14_method_2_code 532 = .ok (.bipush 105, 2) := by decide +kernel
theorem d_M_init_534 : decode prog_14_method_2_code 534 = .ok (.bipush 112, 2) := by decide +kernel
theorem d_M_init_536 : decode prog_14_method_2_code 536 = .ok (.bipush 115, 2) := by decide +kernel
theorem d_M_init_538 : decode prog_14_method_2_code 538 = .ok (.iconst 0, 1) := by decide +kernel
theorem d_M_init_539 : decode prog_14_method_2_code 539 = .ok (.iconst 0, 1) := by decide +kernel
theorem d_M_init_540 : decode prog_14_method_2_code 540 = .ok (.invokestatic 168, 3) := by decide +kernel
theorem d_M_init_543 : decode prog_14_method_2_code 543 = .ok (.lastore, 1) := by decide +kernel
theorem d_M_init_544 : decode prog_14_method_2_code 544 = .ok (.aload_n 0, 1) := by decide +kernel
theorem d_M_init_545 : decode prog_14_method_2_code 545 = .ok (.getfield 34, 3) := by decide +kernel
theorem d_M_init_548 : decode prog_14_method_2_code 548 = .ok (.bipush 6, 2) := by decide +kernel
theorem d_M_init_550 : decode prog_14_method_2_code 550 = .ok (.bipush 99, 2) := by decide +kernel
theorem d_M_init_552 : decode prog_14_method_2_code 552 = .ok (.bipush 111, 2) := by decide +kernel
theorem d_M_init_554 : decode prog_14_method_2_code 554 = .ok (.bipush 115, 2) := by decide +kernel
theorem d_M_init_556 : decode prog_14_method_2_code 556 = .ok (.bipush 116, 2) := by decide +kernel
theorem d_M_init_558 : decode prog_14_method_2_code 558 = .ok (.bipush 115, 2) := by decide +kernel
theorem d_M_init_560 : decode prog_14_method_2_code 560 = .ok (.iconst 0, 1) := by decide +kernel
theorem d_M_init_561 : decode prog_14_method_2_code 561 = .ok (.iconst 0, 1) := by decide +kernel
theorem d_M_init_562 : decode prog_14_method_2_code 562 = .ok (.invokestatic 168, 3) := by decide +kernel
theorem d_M_init_565 : decode prog_14_method_2_code 565 = .ok (.lastore, 1) := by decide +kernel
theorem d_M_init_566 : decode prog_14_method_2_code 566 = .ok (.aload_n 0, 1) := by decide +kernel
theorem d_M_init_567 : decode prog_14_method_2_code 567 = .ok (.getfield 34, 3) := by decide +kernel
theorem d_M_init_570 : decode prog_14_method_2_code 570 = .ok (.bipush 7, 2) := by decide +kernel
theorem d_M_init_572 : decode prog_14_method_2_code 572 = .ok (.bipush 109, 2) := by decide +kernel
theorem d_M_init_574 : decode prog_14_method_2_code 574 = .ok (.bipush 111, 2) := by decide +kernel
theorem d_M_init_576 : decode prog_14_method_2_code 576 = .ok (.bipush 116, 2) := by decide +kernel
theorem d_M_init_578 : decode prog_14_method_2_code 578 = .ok (.bipush 104, 2) := by decide +kernel
theorem d_M_init_580 : decode prog_14_method_2_code 580 = .ok (.iconst 0, 1) := by decide +kernel
theorem d_M_init_581 : decode prog_14_method_2_code 581 = .ok (.iconst 0, 1) := by decide +kernel
theorem d_M_init_582 : decode prog_14_method_2_code 582 = .ok (.iconst 0, 1) := by decide +kernel
theorem d_M_init_583 : decode prog_14_method_2_code 583 = .ok (.invokestatic 168, 3) := by decide +kernel
theorem d_M_init_586 : decode prog_14_method_2_code 586 = .ok (.lastore, 1) := by decide +kernel
theorem d_M_init_587 : decode prog_14_method_2_code 587 = .ok (.aload_n 0, 1) := by decide +kernel
