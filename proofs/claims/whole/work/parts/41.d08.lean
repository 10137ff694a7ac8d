/-! decode rows of the constructor of the reference -/
theorem d_M_init_764 : decode prog_14_method_2_code 764 = .ok (.bipush 103, 2) := by decide +kernel
theorem d_M_init_766 : decode prog_14_method_2_code 766 = .ok (.bipush 104, 2) := by decide +kernel
theorem d_M_init_768 : decode prog_14_method_2_code 768 = .ok (.bipush 116, 2) := by decide +kernel
theorem d_M_init_770 : decode prog_14_method_2_code 770 = .ok (.iconst 0, 1) := by decide +kernel
theorem d_M_init_771 : decode prog_14_method_2_code 771 = .ok (.iconst 0, 1) := by decide +kernel
theorem d_M_init_772 : decode prog_14_method_2_code 772 = .ok (.invokestatic 168, 3) := by decide +kernel
theorem d_M_init_775 : decode prog_14_method_2_code 775 = .ok (.lastore, 1) := by decide +kernel
theorem d_M_init_776 : decode prog_14_method_2_code 776 = .ok (.aload_n 0, 1) := by decide +kernel
theorem d_M_init_777 : decode prog_14_method_2_code 777 = .ok (.getfield 34, 3) := by decide +kernel
theorem d_M_init_780 : decode prog_14_method_2_code 780 = .ok (.bipush 17, 2) := by decide +kernel
theorem d_M_init_782 : decode prog_14_method_2_code 782 = .ok (.bipush 99, 2) := by decide +kernel
theorem d_M_init_784 : decode prog_14_method_2_code 784 = .ok (.bipush 114, 2) := by decide +kernel
theorem d_M_init_786 : decode prog_14_method_2_code 786 = .ok (.bipush 111, 2) := by decide +kernel
theorem d_M_init_788 : decode prog_14_method_2_code 788 = .ok (.bipush 111, 2) := by decide +kernel
theorem d_M_init_790 : decode prog_14_method_2_code 790 = .ok (.bipush 107, 2) := by decide +kernel
theorem d_M_init_792 : decode prog_14_method_2_code 792 = .ok (.bipush 101, 2) := by decide +kernel
theorem d_M_init_794 : decode prog_14_method_2_code 794 = .ok (.bipush 100, 2) := by decide +kernel
theorem d_M_init_796 : decode prog_14_method_2_code 796 = .ok (.invokestatic 168, 3) := by decide +kernel
theorem d_M_init_799 : decode prog_14_method_2_code 799 = .ok (.lastore, 1) := by decide +kernel
theorem d_M_init_800 : decode prog_14_method_2_code 800 = .ok (.aload_n 0, 1) := by decide +kernel
theorem d_M_init_801 : decode prog_14_method_2_code 801 = .ok (.getfield 34, 3) := by decide +kernel
theorem d_M_init_804 : decode prog_14_method_2_code 804 = .ok (.bipush 18, 2) := by decide +kernel
theorem d_M_init_806 : decode prog_14_method_2_code 806 = .ok (.bipush 98, 2) := by decide +kernel
theorem d_M_init_808 : decode prog_14_method_2_code 808 = .ok (.bipush 101, 2) := by decide +kernel
theorem d_M_init_810 : decode prog_14_method_2_code 810 = .ok (.bipush 115, 2) := by decide +kernel
theorem d_M_init_812 : decode prog_14_method_2_code 812 = .ok (.bipush 105, 2) := by decide +kernel
theorem d_M_init_814 : decode prog_14_method_2_code 814 = .ok (.bipush 100, 2) := by decide +kernel
theorem d_M_init_816 : decode prog_14_method_2_code 816 = .ok (.bipush 101, 2) := by decide +kernel
theorem d_M_init_818 : decode prog_14_method_2_code 818 = .ok (.iconst 0, 1) := by decide +kernel
theorem d_M_init_819 : decode prog_14_method_2_code 819 = .ok (.invokestatic 168, 3) := by decide +kernel
theorem d_M_init_822 : decode prog_14_method_2_code 822 = .ok (.lastore, 1) := by decide +kernel
theorem d_M_init_823 : decode prog_14_method_2_code 823 = .ok (.aload_n 0, 1) := by decide +kernel
theorem d_M_init_824 : decode prog_14_method_2_code 824 = .ok (.getfield 34, 3) := by decide +kernel
theorem d_M_init_827 : decode prog_14_method_2_code 827 = .ok (.bipush 19, 2) := by decide +kernel
theorem d_M_init_829 : decode prog_14_method_2_code 829 = .ok (.bipush 119, 2) := by decide +kernel
theorem d_M_init_831 : decode prog_14_method_2_code 831 = .ok (.bipush 104, 2) := by decide +kernel
theorem d_M_init_833 : decode prog_14_method_2_code 833 = .ok (.bipush 105, 2) := by decide +kernel
theorem d_M_init_835 : decode prog_14_method_2_code 835 = .ok (.bipush 99, 2) := by decide +kernel
theorem d_M_init_837 : decode prog_14_method_2_code 837 = .ok (.bipush 104, 2) := by decide +kernel
theorem d_M_init_839 : decode prog_14_method_2_code 839 = .ok (.iconst 0, 1) := by decide +kernel
theorem d_M_init_840 : decode prog_14_method_2_code 840 = .ok (.iconst 0, 1) := by decide +kernel
theorem d_M_init_841 : decode prog_14_method_2_code 841 = .ok (.invokestatic 168, 3) := by decide +kernel
theorem d_M_init_844 : decode prog_14_method_2_code 844 = .ok (.lastore, 1) := by decide +kernel
theorem d_M_init_845 : decode prog_14_method_2_code 845 = .ok (.aload_n 0, 1) := by decide +kernel
theorem d_M_init_846 : decode prog_14_method_2_code 846 = .ok (.getfield 34, 3) := by decide +kernel
theorem d_M_init_849 : decode prog_14_method_2_code 849 = .ok (.bipush 20, 2) := by decide +kernel
theorem d_M_init_851 : decode prog_14_method_2_code 851 = .ok (.bipush 110, 2) := by decide +kernel
theorem d_M_init_853 : decode prog_14_method_2_code 853 = .ok (.bipush 97, 2) := by decide +kernel
theorem d_M_init_855 : decode prog_14_method_2_code 855 = .ok (.bipush 105, 2) := by decide +kernel
theorem d_M_init_857 : decode prog_14_method_2_code 857 = .ok (.bipush 108, 2) := by decide +kernel
