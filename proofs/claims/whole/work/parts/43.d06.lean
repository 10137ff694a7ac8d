/-! decode rows of the law -/
theorem d_law_566 : decode code 566 = .ok (.if_icmp .eq 705, 3) := by decide +kernel
theorem d_law_569 : decode code 569 = .ok (.iconst 0, 1) := by decide +kernel
theorem d_law_570 : decode code 570 = .ok (.ireturn, 1) := by decide +kernel
theorem d_law_571 : decode code 571 = .ok (.aload_n 1, 1) := by decide +kernel
theorem d_law_572 : decode code 572 = .ok (.aload_n 0, 1) := by decide +kernel
theorem d_law_573 : decode code 573 = .ok (.iload_n 3, 1) := by decide +kernel
theorem d_law_574 : decode code 574 = .ok (.iconst 1, 1) := by decide +kernel
theorem d_law_575 : decode code 575 = .ok (.iadd, 1) := by decide +kernel
theorem d_law_576 : decode code 576 = .ok (.iaload, 1) := by decide +kernel
theorem d_law_577 : decode code 577 = .ok (.invokevirtual 72, 3) := by decide +kernel
theorem d_law_580 : decode code 580 = .ok (.aload_n 2, 1) := by decide +kernel
theorem d_law_581 : decode code 581 = .ok (.aload_n 0, 1) := by decide +kernel
theorem d_law_582 : decode code 582 = .ok (.iload_n 3, 1) := by decide +kernel
theorem d_law_583 : decode code 583 = .ok (.iconst 1, 1) := by decide +kernel
theorem d_law_584 : decode code 584 = .ok (.iadd, 1) := by decide +kernel
theorem d_law_585 : decode code 585 = .ok (.iaload, 1) := by decide +kernel
theorem d_law_586 : decode code 586 = .ok (.invokevirtual 75, 3) := by decide +kernel
theorem d_law_589 : decode code 589 = .ok (.if_icmp .eq 682, 3) := by decide +kernel
theorem d_law_592 : decode code 592 = .ok (.iconst 0, 1) := by decide +kernel
theorem d_law_593 : decode code 593 = .ok (.ireturn, 1) := by decide +kernel
theorem d_law_594 : decode code 594 = .ok (.aload_n 1, 1) := by decide +kernel
theorem d_law_595 : decode code 595 = .ok (.aload_n 0, 1) := by decide +kernel
theorem d_law_596 : decode code 596 = .ok (.iload_n 3, 1) := by decide +kernel
theorem d_law_597 : decode code 597 = .ok (.iconst 1, 1) := by decide +kernel
theorem d_law_598 : decode code 598 = .ok (.iadd, 1) := by decide +kernel
theorem d_law_599 : decode code 599 = .ok (.iaload, 1) := by decide +kernel
theorem d_law_600 : decode code 600 = .ok (.invokevirtual 76, 3) := by decide +kernel
theorem d_law_603 : decode code 603 = .ok (.aload_n 2, 1) := by decide +kernel
theorem d_law_604 : decode code 604 = .ok (.aload_n 0, 1) := by decide +kernel
theorem d_law_605 : decode code 605 = .ok (.iload_n 3, 1) := by decide +kernel
theorem d_law_606 : decode code 606 = .ok (.iconst 1, 1) := by decide +kernel
theorem d_law_607 : decode code 607 = .ok (.iadd, 1) := by decide +kernel
theorem d_law_608 : decode code 608 = .ok (.iaload, 1) := by decide +kernel
theorem d_law_609 : decode code 609 = .ok (.invokevirtual 79, 3) := by decide +kernel
theorem d_law_612 : decode code 612 = .ok (.if_icmp .eq 659, 3) := by decide +kernel
theorem d_law_615 : decode code 615 = .ok (.iconst 0, 1) := by decide +kernel
theorem d_law_616 : decode code 616 = .ok (.ireturn, 1) := by decide +kernel
theorem d_law_617 : decode code 617 = .ok (.aload_n 1, 1) := by decide +kernel
theorem d_law_618 : decode code 618 = .ok (.aload_n 0, 1) := by decide +kernel
theorem d_law_619 : decode code 619 = .ok (.iload_n 3, 1) := by decide +kernel
theorem d_law_620 : decode code 620 = .ok (.iconst 1, 1) := by decide +kernel
theorem d_law_621 : decode code 621 = .ok (.iadd, 1) := by decide +kernel
theorem d_law_622 : decode code 622 = .ok (.iaload, 1) := by decide +kernel
theorem d_law_623 : decode code 623 = .ok (.invokevirtual 80, 3) := by decide +kernel
theorem d_law_626 : decode code 626 = .ok (.aload_n 2, 1) := by decide +kernel
theorem d_law_627 : decode code 627 = .ok (.aload_n 0, 1) := by decide +kernel
theorem d_law_628 : decode code 628 = .ok (.iload_n 3, 1) := by decide +kernel
theorem d_law_629 : decode code 629 = .ok (.iconst 1, 1) := by decide +kernel
theorem d_law_630 : decode code 630 = .ok (.iadd, 1) := by decide +kernel
theorem d_law_631 : decode code 631 = .ok (.iaload, 1) := by decide +kernel
