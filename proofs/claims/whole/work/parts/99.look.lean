theorem dL_law_11 : decode code 11 = .ok (.dup, 1) := by decide +kernel
theorem dL_law_12 : decode code 12 = .ok (.invokespecial 95, 3) := by decide +kernel
theorem dL_law_15 : decode code 15 = .ok (.astore_n 2, 1) := by decide +kernel
theorem dL_law_148 : decode code 148 = .ok (.aload_n 1, 1) := by decide +kernel
theorem dL_law_149 : decode code 149 = .ok (.aload_n 0, 1) := by decide +kernel
theorem dL_law_150 : decode code 150 = .ok (.iload 5, 2) := by decide +kernel
theorem dL_law_152 : decode code 152 = .ok (.iconst 1, 1) := by decide +kernel
theorem dL_law_153 : decode code 153 = .ok (.iadd, 1) := by decide +kernel
theorem dL_law_154 : decode code 154 = .ok (.iaload, 1) := by decide +kernel
theorem dL_law_155 : decode code 155 = .ok (.aload_n 0, 1) := by decide +kernel
theorem dL_law_156 : decode code 156 = .ok (.iload 5, 2) := by decide +kernel
theorem dL_law_158 : decode code 158 = .ok (.iconst 2, 1) := by decide +kernel
theorem dL_law_159 : decode code 159 = .ok (.iadd, 1) := by decide +kernel
theorem dL_law_1000 : decode code 1000 = .ok (.lcmp, 1) := by decide +kernel
theorem dL_law_1001 : decode code 1001 = .ok (.ifCond .eq 5, 3) := by decide +kernel
theorem dL_law_1004 : decode code 1004 = .ok (.iconst 0, 1) := by decide +kernel
theorem dL_law_1005 : decode code 1005 = .ok (.ireturn, 1) := by decide +kernel
theorem dL_law_1006 : decode code 1006 = .ok (.goto 550, 3) := by decide +kernel
theorem dL_law_1009 : decode code 1009 = .ok (.aload_n 1, 1) := by decide +kernel
theorem dL_law_1010 : decode code 1010 = .ok (.aload_n 0, 1) := by decide +kernel
theorem dL_law_1011 : decode code 1011 = .ok (.iload 5, 2) := by decide +kernel
theorem dL_law_1013 : decode code 1013 = .ok (.iconst 1, 1) := by decide +kernel
theorem dL_law_1014 : decode code 1014 = .ok (.iadd, 1) := by decide +kernel
theorem dL_law_1015 : decode code 1015 = .ok (.iaload, 1) := by decide +kernel
theorem dL_law_1016 : decode code 1016 = .ok (.aload_n 3, 1) := by decide +kernel
theorem dL_law_1017 : decode code 1017 = .ok (.invokestatic 152, 3) := by decide +kernel
theorem dL_law_1020 : decode code 1020 = .ok (.istore 6, 2) := by decide +kernel
theorem dL_law_1022 : decode code 1022 = .ok (.aload_n 2, 1) := by decide +kernel
theorem dL_law_1023 : decode code 1023 = .ok (.aload_n 0, 1) := by decide +kernel
theorem dL_law_1024 : decode code 1024 = .ok (.iload 5, 2) := by decide +kernel
theorem dL_law_1026 : decode code 1026 = .ok (.iconst 1, 1) := by decide +kernel
theorem dL_law_1027 : decode code 1027 = .ok (.iadd, 1) := by decide +kernel
theorem dL_law_1028 : decode code 1028 = .ok (.iaload, 1) := by decide +kernel
theorem dL_law_1029 : decode code 1029 = .ok (.invokevirtual 154, 3) := by decide +kernel
theorem dL_law_1032 : decode code 1032 = .ok (.istore 7, 2) := by decide +kernel
theorem dL_law_1034 : decode code 1034 = .ok (.aload_n 2, 1) := by decide +kernel
theorem dL_law_1035 : decode code 1035 = .ok (.invokevirtual 102, 3) := by decide +kernel
theorem dL_law_1038 : decode code 1038 = .ok (.iload 6, 2) := by decide +kernel
theorem dL_law_1040 : decode code 1040 = .ok (.if_icmp .eq 5, 3) := by decide +kernel
theorem dL_law_1043 : decode code 1043 = .ok (.iconst 0, 1) := by decide +kernel
theorem dL_law_1044 : decode code 1044 = .ok (.ireturn, 1) := by decide +kernel
theorem dL_law_1045 : decode code 1045 = .ok (.iload 6, 2) := by decide +kernel
theorem dL_law_1047 : decode code 1047 = .ok (.ifCond .ne 15, 3) := by decide +kernel
theorem dL_law_1050 : decode code 1050 = .ok (.aload_n 3, 1) := by decide +kernel
theorem dL_law_1051 : decode code 1051 = .ok (.iconst 0, 1) := by decide +kernel
theorem dL_law_1052 : decode code 1052 = .ok (.laload, 1) := by decide +kernel
theorem dL_law_1053 : decode code 1053 = .ok (.iload 7, 2) := by decide +kernel
theorem dL_law_1055 : decode code 1055 = .ok (.i2l, 1) := by decide +kernel
theorem dL_law_1056 : decode code 1056 = .ok (.lcmp, 1) := by decide +kernel
theorem dL_law_1057 : decode code 1057 = .ok (.ifCond .eq 5, 3) := by decide +kernel
theorem dL_law_1060 : decode code 1060 = .ok (.iconst 0, 1) := by decide +kernel
theorem dL_law_1061 : decode code 1061 = .ok (.ireturn, 1) := by decide +kernel
theorem dL_law_1062 : decode code 1062 = .ok (.goto 494, 3) := by decide +kernel
theorem dL_law_1065 : decode code 1065 = .ok (.aload_n 1, 1) := by decide +kernel
theorem dL_law_1066 : decode code 1066 = .ok (.aload_n 0, 1) := by decide +kernel
theorem dL_law_1067 : decode code 1067 = .ok (.iload 5, 2) := by decide +kernel
theorem dL_law_1069 : decode code 1069 = .ok (.iconst 1, 1) := by decide +kernel
theorem dL_law_1070 : decode code 1070 = .ok (.iadd, 1) := by decide +kernel
theorem dL_law_1071 : decode code 1071 = .ok (.iaload, 1) := by decide +kernel
theorem dL_law_1072 : decode code 1072 = .ok (.aload_n 3, 1) := by decide +kernel
theorem dL_law_1073 : decode code 1073 = .ok (.invokestatic 155, 3) := by decide +kernel
theorem dL_law_1076 : decode code 1076 = .ok (.istore 6, 2) := by decide +kernel
theorem dL_law_1078 : decode code 1078 = .ok (.aload_n 2, 1) := by decide +kernel
theorem dL_law_1079 : decode code 1079 = .ok (.aload_n 0, 1) := by decide +kernel
theorem dL_law_1080 : decode code 1080 = .ok (.iload 5, 2) := by decide +kernel
theorem dL_law_1082 : decode code 1082 = .ok (.iconst 1, 1) := by decide +kernel
theorem dL_law_1083 : decode code 1083 = .ok (.iadd, 1) := by decide +kernel
theorem dL_law_1084 : decode code 1084 = .ok (.iaload, 1) := by decide +kernel
theorem dL_law_1085 : decode code 1085 = .ok (.invokevirtual 157, 3) := by decide +kernel
theorem dL_law_1088 : decode code 1088 = .ok (.istore 7, 2) := by decide +kernel
theorem dL_law_1090 : decode code 1090 = .ok (.aload_n 2, 1) := by decide +kernel
theorem dL_law_1091 : decode code 1091 = .ok (.invokevirtual 102, 3) := by decide +kernel
theorem dL_law_1094 : decode code 1094 = .ok (.iload 6, 2) := by decide +kernel
theorem dL_law_1096 : decode code 1096 = .ok (.if_icmp .eq 5, 3) := by decide +kernel
theorem dL_law_1099 : decode code 1099 = .ok (.iconst 0, 1) := by decide +kernel
theorem dL_law_1100 : decode code 1100 = .ok (.ireturn, 1) := by decide +kernel
theorem dL_law_1101 : decode code 1101 = .ok (.iload 6, 2) := by decide +kernel
theorem dL_law_1103 : decode code 1103 = .ok (.ifCond .ne 15, 3) := by decide +kernel
theorem dL_law_1106 : decode code 1106 = .ok (.aload_n 3, 1) := by decide +kernel
theorem dL_law_1107 : decode code 1107 = .ok (.iconst 0, 1) := by decide +kernel
theorem dL_law_1108 : decode code 1108 = .ok (.laload, 1) := by decide +kernel
theorem dL_law_1109 : decode code 1109 = .ok (.iload 7, 2) := by decide +kernel
theorem dL_law_1111 : decode code 1111 = .ok (.i2l, 1) := by decide +kernel
theorem dL_law_1112 : decode code 1112 = .ok (.lcmp, 1) := by decide +kernel
theorem dL_law_1113 : decode code 1113 = .ok (.ifCond .eq 5, 3) := by decide +kernel
theorem dL_law_1116 : decode code 1116 = .ok (.iconst 0, 1) := by decide +kernel
theorem dL_law_1117 : decode code 1117 = .ok (.ireturn, 1) := by decide +kernel
theorem dL_law_1118 : decode code 1118 = .ok (.goto 438, 3) := by decide +kernel
theorem dL_law_1121 : decode code 1121 = .ok (.aload_n 1, 1) := by decide +kernel
theorem dL_law_1122 : decode code 1122 = .ok (.aload_n 0, 1) := by decide +kernel
theorem dL_law_1123 : decode code 1123 = .ok (.iload 5, 2) := by decide +kernel
theorem dL_law_1125 : decode code 1125 = .ok (.iconst 1, 1) := by decide +kernel
theorem dL_law_1126 : decode code 1126 = .ok (.iadd, 1) := by decide +kernel
theorem dL_law_1127 : decode code 1127 = .ok (.iaload, 1) := by decide +kernel
theorem dL_law_1128 : decode code 1128 = .ok (.aload_n 0, 1) := by decide +kernel
theorem dL_law_1129 : decode code 1129 = .ok (.iload 5, 2) := by decide +kernel
theorem dL_law_1131 : decode code 1131 = .ok (.iconst 2, 1) := by decide +kernel
theorem dL_law_1132 : decode code 1132 = .ok (.iadd, 1) := by decide +kernel
theorem dL_law_1133 : decode code 1133 = .ok (.iaload, 1) := by decide +kernel
theorem dL_law_1134 : decode code 1134 = .ok (.aload_n 0, 1) := by decide +kernel
