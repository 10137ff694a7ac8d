/-! decode rows of the law -/
theorem d_law_914 : decode code 914 = .ok (.iaload, 1) := by decide +kernel
theorem d_law_915 : decode code 915 = .ok (.invokevirtual 136, 3) := by decide +kernel
theorem d_law_918 : decode code 918 = .ok (.aload_n 2, 1) := by decide +kernel
theorem d_law_919 : decode code 919 = .ok (.aload_n 0, 1) := by decide +kernel
theorem d_law_920 : decode code 920 = .ok (.iload_n 3, 1) := by decide +kernel
theorem d_law_921 : decode code 921 = .ok (.iconst 1, 1) := by decide +kernel
theorem d_law_922 : decode code 922 = .ok (.iadd, 1) := by decide +kernel
theorem d_law_923 : decode code 923 = .ok (.iaload, 1) := by decide +kernel
theorem d_law_924 : decode code 924 = .ok (.invokevirtual 139, 3) := by decide +kernel
theorem d_law_927 : decode code 927 = .ok (.if_icmp .eq 344, 3) := by decide +kernel
theorem d_law_930 : decode code 930 = .ok (.iconst 0, 1) := by decide +kernel
theorem d_law_931 : decode code 931 = .ok (.ireturn, 1) := by decide +kernel
theorem d_law_932 : decode code 932 = .ok (.aload_n 1, 1) := by decide +kernel
theorem d_law_933 : decode code 933 = .ok (.aload_n 0, 1) := by decide +kernel
theorem d_law_934 : decode code 934 = .ok (.iload_n 3, 1) := by decide +kernel
theorem d_law_935 : decode code 935 = .ok (.iconst 1, 1) := by decide +kernel
theorem d_law_936 : decode code 936 = .ok (.iadd, 1) := by decide +kernel
theorem d_law_937 : decode code 937 = .ok (.iaload, 1) := by decide +kernel
theorem d_law_938 : decode code 938 = .ok (.invokevirtual 140, 3) := by decide +kernel
theorem d_law_941 : decode code 941 = .ok (.aload_n 2, 1) := by decide +kernel
theorem d_law_942 : decode code 942 = .ok (.aload_n 0, 1) := by decide +kernel
theorem d_law_943 : decode code 943 = .ok (.iload_n 3, 1) := by decide +kernel
theorem d_law_944 : decode code 944 = .ok (.iconst 1, 1) := by decide +kernel
theorem d_law_945 : decode code 945 = .ok (.iadd, 1) := by decide +kernel
theorem d_law_946 : decode code 946 = .ok (.iaload, 1) := by decide +kernel
theorem d_law_947 : decode code 947 = .ok (.invokevirtual 143, 3) := by decide +kernel
theorem d_law_950 : decode code 950 = .ok (.if_icmp .eq 321, 3) := by decide +kernel
theorem d_law_953 : decode code 953 = .ok (.iconst 0, 1) := by decide +kernel
theorem d_law_954 : decode code 954 = .ok (.ireturn, 1) := by decide +kernel
theorem d_law_955 : decode code 955 = .ok (.aload_n 1, 1) := by decide +kernel
theorem d_law_956 : decode code 956 = .ok (.aload_n 0, 1) := by decide +kernel
theorem d_law_957 : decode code 957 = .ok (.iload_n 3, 1) := by decide +kernel
theorem d_law_958 : decode code 958 = .ok (.iconst 1, 1) := by decide +kernel
theorem d_law_959 : decode code 959 = .ok (.iadd, 1) := by decide +kernel
theorem d_law_960 : decode code 960 = .ok (.iaload, 1) := by decide +kernel
theorem d_law_961 : decode code 961 = .ok (.aload_n 0, 1) := by decide +kernel
theorem d_law_962 : decode code 962 = .ok (.iload_n 3, 1) := by decide +kernel
theorem d_law_963 : decode code 963 = .ok (.iconst 2, 1) := by decide +kernel
theorem d_law_964 : decode code 964 = .ok (.iadd, 1) := by decide +kernel
theorem d_law_965 : decode code 965 = .ok (.iaload, 1) := by decide +kernel
theorem d_law_966 : decode code 966 = .ok (.aload_n 0, 1) := by decide +kernel
theorem d_law_967 : decode code 967 = .ok (.iload_n 3, 1) := by decide +kernel
theorem d_law_968 : decode code 968 = .ok (.iconst 3, 1) := by decide +kernel
theorem d_law_969 : decode code 969 = .ok (.iadd, 1) := by decide +kernel
theorem d_law_970 : decode code 970 = .ok (.iaload, 1) := by decide +kernel
theorem d_law_971 : decode code 971 = .ok (.invokevirtual 144, 3) := by decide +kernel
theorem d_law_974 : decode code 974 = .ok (.aload_n 2, 1) := by decide +kernel
theorem d_law_975 : decode code 975 = .ok (.aload_n 0, 1) := by decide +kernel
theorem d_law_976 : decode code 976 = .ok (.iload_n 3, 1) := by decide +kernel
theorem d_law_977 : decode code 977 = .ok (.iconst 1, 1) := by decide +kernel
