/-! decode rows of the law -/
theorem d_law_852 : decode code 852 = .ok (.ireturn, 1) := by decide +kernel
theorem d_law_853 : decode code 853 = .ok (.aload_n 1, 1) := by decide +kernel
theorem d_law_854 : decode code 854 = .ok (.aload_n 0, 1) := by decide +kernel
theorem d_law_855 : decode code 855 = .ok (.iload_n 3, 1) := by decide +kernel
theorem d_law_856 : decode code 856 = .ok (.iconst 1, 1) := by decide +kernel
theorem d_law_857 : decode code 857 = .ok (.iadd, 1) := by decide +kernel
theorem d_law_858 : decode code 858 = .ok (.iaload, 1) := by decide +kernel
theorem d_law_859 : decode code 859 = .ok (.aload_n 0, 1) := by decide +kernel
theorem d_law_860 : decode code 860 = .ok (.iload_n 3, 1) := by decide +kernel
theorem d_law_861 : decode code 861 = .ok (.iconst 2, 1) := by decide +kernel
theorem d_law_862 : decode code 862 = .ok (.iadd, 1) := by decide +kernel
theorem d_law_863 : decode code 863 = .ok (.iaload, 1) := by decide +kernel
theorem d_law_864 : decode code 864 = .ok (.invokevirtual 128, 3) := by decide +kernel
theorem d_law_867 : decode code 867 = .ok (.aload_n 2, 1) := by decide +kernel
theorem d_law_868 : decode code 868 = .ok (.aload_n 0, 1) := by decide +kernel
theorem d_law_869 : decode code 869 = .ok (.iload_n 3, 1) := by decide +kernel
theorem d_law_870 : decode code 870 = .ok (.iconst 1, 1) := by decide +kernel
theorem d_law_871 : decode code 871 = .ok (.iadd, 1) := by decide +kernel
theorem d_law_872 : decode code 872 = .ok (.iaload, 1) := by decide +kernel
theorem d_law_873 : decode code 873 = .ok (.aload_n 0, 1) := by decide +kernel
theorem d_law_874 : decode code 874 = .ok (.iload_n 3, 1) := by decide +kernel
theorem d_law_875 : decode code 875 = .ok (.iconst 2, 1) := by decide +kernel
theorem d_law_876 : decode code 876 = .ok (.iadd, 1) := by decide +kernel
theorem d_law_877 : decode code 877 = .ok (.iaload, 1) := by decide +kernel
theorem d_law_878 : decode code 878 = .ok (.invokevirtual 131, 3) := by decide +kernel
theorem d_law_881 : decode code 881 = .ok (.if_icmp .eq 390, 3) := by decide +kernel
theorem d_law_884 : decode code 884 = .ok (.iconst 0, 1) := by decide +kernel
theorem d_law_885 : decode code 885 = .ok (.ireturn, 1) := by decide +kernel
theorem d_law_886 : decode code 886 = .ok (.aload_n 1, 1) := by decide +kernel
theorem d_law_887 : decode code 887 = .ok (.aload_n 0, 1) := by decide +kernel
theorem d_law_888 : decode code 888 = .ok (.iload_n 3, 1) := by decide +kernel
theorem d_law_889 : decode code 889 = .ok (.iconst 1, 1) := by decide +kernel
theorem d_law_890 : decode code 890 = .ok (.iadd, 1) := by decide +kernel
theorem d_law_891 : decode code 891 = .ok (.iaload, 1) := by decide +kernel
theorem d_law_892 : decode code 892 = .ok (.invokevirtual 132, 3) := by decide +kernel
theorem d_law_895 : decode code 895 = .ok (.aload_n 2, 1) := by decide +kernel
theorem d_law_896 : decode code 896 = .ok (.aload_n 0, 1) := by decide +kernel
theorem d_law_897 : decode code 897 = .ok (.iload_n 3, 1) := by decide +kernel
theorem d_law_898 : decode code 898 = .ok (.iconst 1, 1) := by decide +kernel
theorem d_law_899 : decode code 899 = .ok (.iadd, 1) := by decide +kernel
theorem d_law_900 : decode code 900 = .ok (.iaload, 1) := by decide +kernel
theorem d_law_901 : decode code 901 = .ok (.invokevirtual 135, 3) := by decide +kernel
theorem d_law_904 : decode code 904 = .ok (.if_icmp .eq 367, 3) := by decide +kernel
theorem d_law_907 : decode code 907 = .ok (.iconst 0, 1) := by decide +kernel
theorem d_law_908 : decode code 908 = .ok (.ireturn, 1) := by decide +kernel
theorem d_law_909 : decode code 909 = .ok (.aload_n 1, 1) := by decide +kernel
theorem d_law_910 : decode code 910 = .ok (.aload_n 0, 1) := by decide +kernel
theorem d_law_911 : decode code 911 = .ok (.iload_n 3, 1) := by decide +kernel
theorem d_law_912 : decode code 912 = .ok (.iconst 1, 1) := by decide +kernel
theorem d_law_913 : decode code 913 = .ok (.iadd, 1) := by decide +kernel
