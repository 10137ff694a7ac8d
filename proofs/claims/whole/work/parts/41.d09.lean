/-! decode rows of the constructor of the reference -/
theorem d_M_init_859 : decode prog_14_method_2_code 859 = .ok (.iconst 0, 1) := by decide +kernel
theorem d_M_init_860 : decode prog_14_method_2_code 860 = .ok (.iconst 0, 1) := by decide +kernel
theorem d_M_init_861 : decode prog_14_method_2_code 861 = .ok (.iconst 0, 1) := by decide +kernel
theorem d_M_init_862 : decode prog_14_method_2_code 862 = .ok (.invokestatic 168, 3) := by decide +kernel
theorem d_M_init_865 : decode prog_14_method_2_code 865 = .ok (.lastore, 1) := by decide +kernel
theorem d_M_init_866 : decode prog_14_method_2_code 866 = .ok (.aload_n 0, 1) := by decide +kernel
theorem d_M_init_867 : decode prog_14_method_2_code 867 = .ok (.invokevirtual 172, 3) := by decide +kernel
theorem d_M_init_870 : decode prog_14_method_2_code 870 = .ok (.aload_n 0, 1) := by decide +kernel
theorem d_M_init_871 : decode prog_14_method_2_code 871 = .ok (.invokevirtual 175, 3) := by decide +kernel
theorem d_M_init_874 : decode prog_14_method_2_code 874 = .ok (.return_, 1) := by decide +kernel
