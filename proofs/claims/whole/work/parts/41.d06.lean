/-! decode rows of the constructor of the reference -/
theorem d_M_init_588 : decode prog_14_method_2_code 588 = .ok (.getfield 34, 3) := by decide +kernel
theorem d_M_init_591 : decode prog_14_method_2_code 591 = .ok (.bipush 8, 2) := by decide +kernel
theorem d_M_init_593 : decode prog_14_method_2_code 593 = .ok (.bipush 115, 2) := by decide +kernel
theorem d_M_init_595 : decode prog_14_method_2_code 595 = .ok (.bipush 101, 2) := by decide +kernel
theorem d_M_init_597 : decode prog_14_method_2_code 597 = .ok (.bipush 101, 2) := by decide +kernel
theorem d_M_init_599 : decode prog_14_method_2_code 599 = .ok (.bipush 100, 2) := by decide +kernel
theorem d_M_init_601 : decode prog_14_method_2_code 601 = .ok (.iconst 0, 1) := by decide +kernel
theorem d_M_init_602 : decode prog_14_method_2_code 602 = .ok (.iconst 0, 1) := by decide +kernel
theorem d_M_init_603 : decode prog_14_method_2_code 603 = .ok (.iconst 0, 1) := by decide +kernel
theorem d_M_init_604 : decode prog_14_method_2_code 604 = .ok (.invokestatic 168, 3) := by decide +kernel
theorem d_M_init_607 : decode prog_14_method_2_code 607 = .ok (.lastore, 1) := by decide +kernel
theorem d_M_init_608 : decode prog_14_method_2_code 608 = .ok (.aload_n 0, 1) := by decide +kernel
theorem d_M_init_609 : decode prog_14_method_2_code 609 = .ok (.getfield 34, 3) := by decide +kernel
theorem d_M_init_612 : decode prog_14_method_2_code 612 = .ok (.bipush 9, 2) := by decide +kernel
theorem d_M_init_614 : decode prog_14_method_2_code 614 = .ok (.bipush 105, 2) := by decide +kernel
theorem d_M_init_616 : decode prog_14_method_2_code 616 = .ok (.bipush 102, 2) := by decide +kernel
theorem d_M_init_618 : decode prog_14_method_2_code 618 = .ok (.iconst 0, 1) := by decide +kernel
theorem d_M_init_619 : decode prog_14_method_2_code 619 = .ok (.iconst 0, 1) := by decide +kernel
theorem d_M_init_620 : decode prog_14_method_2_code 620 = .ok (.iconst 0, 1) := by decide +kernel
theorem d_M_init_621 : decode prog_14_method_2_code 621 = .ok (.iconst 0, 1) := by decide +kernel
theorem d_M_init_622 : decode prog_14_method_2_code 622 = .ok (.iconst 0, 1) := by decide +kernel
theorem d_M_init_623 : decode prog_14_method_2_code 623 = .ok (.invokestatic 168, 3) := by decide +kernel
theorem d_M_init_626 : decode prog_14_method_2_code 626 = .ok (.lastore, 1) := by decide +kernel
theorem d_M_init_627 : decode prog_14_method_2_code 627 = .ok (.aload_n 0, 1) := by decide +kernel
theorem d_M_init_628 : decode prog_14_method_2_code 628 = .ok (.getfield 34, 3) := by decide +kernel
theorem d_M_init_631 : decode prog_14_method_2_code 631 = .ok (.bipush 10, 2) := by decide +kernel
theorem d_M_init_633 : decode prog_14_method_2_code 633 = .ok (.bipush 116, 2) := by decide +kernel
theorem d_M_init_635 : decode prog_14_method_2_code 635 = .ok (.bipush 104, 2) := by decide +kernel
theorem d_M_init_637 : decode prog_14_method_2_code 637 = .ok (.bipush 101, 2) := by decide +kernel
theorem d_M_init_639 : decode prog_14_method_2_code 639 = .ok (.bipush 110, 2) := by decide +kernel
theorem d_M_init_641 : decode prog_14_method_2_code 641 = .ok (.iconst 0, 1) := by decide +kernel
theorem d_M_init_642 : decode prog_14_method_2_code 642 = .ok (.iconst 0, 1) := by decide +kernel
theorem d_M_init_643 : decode prog_14_method_2_code 643 = .ok (.iconst 0, 1) := by decide +kernel
theorem d_M_init_644 : decode prog_14_method_2_code 644 = .ok (.invokestatic 168, 3) := by decide +kernel
theorem d_M_init_647 : decode prog_14_method_2_code 647 = .ok (.lastore, 1) := by decide +kernel
theorem d_M_init_648 : decode prog_14_method_2_code 648 = .ok (.aload_n 0, 1) := by decide +kernel
theorem d_M_init_649 : decode prog_14_method_2_code 649 = .ok (.getfield 34, 3) := by decide +kernel
theorem d_M_init_652 : decode prog_14_method_2_code 652 = .ok (.bipush 11, 2) := by decide +kernel
theorem d_M_init_654 : decode prog_14_method_2_code 654 = .ok (.bipush 101, 2) := by decide +kernel
theorem d_M_init_656 : decode prog_14_method_2_code 656 = .ok (.bipush 108, 2) := by decide +kernel
theorem d_M_init_658 : decode prog_14_method_2_code 658 = .ok (.bipush 115, 2) := by decide +kernel
theorem d_M_init_660 : decode prog_14_method_2_code 660 = .ok (.bipush 101, 2) := by decide +kernel
theorem d_M_init_662 : decode prog_14_method_2_code 662 = .ok (.iconst 0, 1) := by decide +kernel
theorem d_M_init_663 : decode prog_14_method_2_code 663 = .ok (.iconst 0, 1) := by decide +kernel
theorem d_M_init_664 : decode prog_14_method_2_code 664 = .ok (.iconst 0, 1) := by decide +kernel
theorem d_M_init_665 : decode prog_14_method_2_code 665 = .ok (.invokestatic 168, 3) := by decide +kernel
theorem d_M_init_668 : decode prog_14_method_2_code 668 = .ok (.lastore, 1) := by decide +kernel
theorem d_M_init_669 : decode prog_14_method_2_code 669 = .ok (.aload_n 0, 1) := by decide +kernel
theorem d_M_init_670 : decode prog_14_method_2_code 670 = .ok (.getfield 34, 3) := by decide +kernel
theorem d_M_init_673 : decode prog_14_method_2_code 673 = .ok (.bipush 12, 2) := by decide +kernel
