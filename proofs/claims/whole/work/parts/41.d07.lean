/-! decode rows of the constructor of the reference -/
theorem d_M_init_675 : decode prog_14_method_2_code 675 = .ok (.bipush 97, 2) := by decide +kernel
theorem d_M_init_677 : decode prog_14_method_2_code 677 = .ok (.bipush 112, 2) := by decide +kernel
theorem d_M_init_679 : decode prog_14_method_2_code 679 = .ok (.bipush 97, 2) := by decide +kernel
theorem d_M_init_681 : decode prog_14_method_2_code 681 = .ok (.bipush 114, 2) := by decide +kernel
theorem d_M_init_683 : decode prog_14_method_2_code 683 = .ok (.bipush 116, 2) := by decide +kernel
theorem d_M_init_685 : decode prog_14_method_2_code 685 = .ok (.iconst 0, 1) := by decide +kernel
theorem d_M_init_686 : decode prog_14_method_2_code 686 = .ok (.iconst 0, 1) := by decide +kernel
theorem d_M_init_687 : decode prog_14_method_2_code 687 = .ok (.invokestatic 168, 3) := by decide +kernel
theorem d_M_init_690 : decode prog_14_method_2_code 690 = .ok (.lastore, 1) := by decide +kernel
theorem d_M_init_691 : decode prog_14_method_2_code 691 = .ok (.aload_n 0, 1) := by decide +kernel
theorem d_M_init_692 : decode prog_14_method_2_code 692 = .ok (.getfield 34, 3) := by decide +kernel
theorem d_M_init_695 : decode prog_14_method_2_code 695 = .ok (.bipush 13, 2) := by decide +kernel
theorem d_M_init_697 : decode prog_14_method_2_code 697 = .ok (.bipush 98, 2) := by decide +kernel
theorem d_M_init_699 : decode prog_14_method_2_code 699 = .ok (.bipush 101, 2) := by decide +kernel
theorem d_M_init_701 : decode prog_14_method_2_code 701 = .ok (.bipush 110, 2) := by decide +kernel
theorem d_M_init_703 : decode prog_14_method_2_code 703 = .ok (.bipush 116, 2) := by decide +kernel
theorem d_M_init_705 : decode prog_14_method_2_code 705 = .ok (.iconst 0, 1) := by decide +kernel
theorem d_M_init_706 : decode prog_14_method_2_code 706 = .ok (.iconst 0, 1) := by decide +kernel
theorem d_M_init_707 : decode prog_14_method_2_code 707 = .ok (.iconst 0, 1) := by decide +kernel
theorem d_M_init_708 : decode prog_14_method_2_code 708 = .ok (.invokestatic 168, 3) := by decide +kernel
theorem d_M_init_711 : decode prog_14_method_2_code 711 = .ok (.lastore, 1) := by decide +kernel
theorem d_M_init_712 : decode prog_14_method_2_code 712 = .ok (.aload_n 0, 1) := by decide +kernel
theorem d_M_init_713 : decode prog_14_method_2_code 713 = .ok (.getfield 34, 3) := by decide +kernel
theorem d_M_init_716 : decode prog_14_method_2_code 716 = .ok (.bipush 14, 2) := by decide +kernel
theorem d_M_init_718 : decode prog_14_method_2_code 718 = .ok (.bipush 119, 2) := by decide +kernel
theorem d_M_init_720 : decode prog_14_method_2_code 720 = .ok (.bipush 105, 2) := by decide +kernel
theorem d_M_init_722 : decode prog_14_method_2_code 722 = .ok (.bipush 100, 2) := by decide +kernel
theorem d_M_init_724 : decode prog_14_method_2_code 724 = .ok (.bipush 101, 2) := by decide +kernel
theorem d_M_init_726 : decode prog_14_method_2_code 726 = .ok (.iconst 0, 1) := by decide +kernel
theorem d_M_init_727 : decode prog_14_method_2_code 727 = .ok (.iconst 0, 1) := by decide +kernel
theorem d_M_init_728 : decode prog_14_method_2_code 728 = .ok (.iconst 0, 1) := by decide +kernel
theorem d_M_init_729 : decode prog_14_method_2_code 729 = .ok (.invokestatic 168, 3) := by decide +kernel
theorem d_M_init_732 : decode prog_14_method_2_code 732 = .ok (.lastore, 1) := by decide +kernel
theorem d_M_init_733 : decode prog_14_method_2_code 733 = .ok (.aload_n 0, 1) := by decide +kernel
theorem d_M_init_734 : decode prog_14_method_2_code 734 = .ok (.getfield 34, 3) := by decide +kernel
theorem d_M_init_737 : decode prog_14_method_2_code 737 = .ok (.bipush 15, 2) := by decide +kernel
theorem d_M_init_739 : decode prog_14_method_2_code 739 = .ok (.bipush 114, 2) := by decide +kernel
theorem d_M_init_741 : decode prog_14_method_2_code 741 = .ok (.bipush 97, 2) := by decide +kernel
theorem d_M_init_743 : decode prog_14_method_2_code 743 = .ok (.bipush 110, 2) := by decide +kernel
theorem d_M_init_745 : decode prog_14_method_2_code 745 = .ok (.bipush 107, 2) := by decide +kernel
theorem d_M_init_747 : decode prog_14_method_2_code 747 = .ok (.iconst 0, 1) := by decide +kernel
theorem d_M_init_748 : decode prog_14_method_2_code 748 = .ok (.iconst 0, 1) := by decide +kernel
theorem d_M_init_749 : decode prog_14_method_2_code 749 = .ok (.iconst 0, 1) := by decide +kernel
theorem d_M_init_750 : decode prog_14_method_2_code 750 = .ok (.invokestatic 168, 3) := by decide +kernel
theorem d_M_init_753 : decode prog_14_method_2_code 753 = .ok (.lastore, 1) := by decide +kernel
theorem d_M_init_754 : decode prog_14_method_2_code 754 = .ok (.aload_n 0, 1) := by decide +kernel
theorem d_M_init_755 : decode prog_14_method_2_code 755 = .ok (.getfield 34, 3) := by decide +kernel
theorem d_M_init_758 : decode prog_14_method_2_code 758 = .ok (.bipush 16, 2) := by decide +kernel
theorem d_M_init_760 : decode prog_14_method_2_code 760 = .ok (.bipush 110, 2) := by decide +kernel
theorem d_M_init_762 : decode prog_14_method_2_code 762 = .ok (.bipush 105, 2) := by decide +kernel
