-- THE LAW: its code
theorem d_law_1112 : decode code 1112 = .ok (.iadd, 1) := by decide +kernel
theorem d_law_1113 : decode code 1113 = .ok (.iaload, 1) := by decide +kernel
theorem d_law_1114 : decode code 1114 = .ok (.invokevirtual 139, 3) := by decide +kernel
theorem d_law_1117 : decode code 1117 = .ok (.if_icmp .eq 64, 3) := by decide +kernel
theorem d_law_1122 : decode code 1122 = .ok (.aload_n 1, 1) := by decide +kernel
theorem d_law_1123 : decode code 1123 = .ok (.aload_n 0, 1) := by decide +kernel
theorem d_law_1124 : decode code 1124 = .ok (.iload_n 3, 1) := by decide +kernel
theorem d_law_1125 : decode code 1125 = .ok (.iconst 1, 1) := by decide +kernel
theorem d_law_1126 : decode code 1126 = .ok (.iadd, 1) := by decide +kernel
theorem d_law_1127 : decode code 1127 = .ok (.iaload, 1) := by decide +kernel
theorem d_law_1128 : decode code 1128 = .ok (.invokevirtual 140, 3) := by decide +kernel
theorem d_law_1131 : decode code 1131 = .ok (.aload_n 2, 1) := by decide +kernel
theorem d_law_1132 : decode code 1132 = .ok (.aload_n 0, 1) := by decide +kernel
theorem d_law_1133 : decode code 1133 = .ok (.iload_n 3, 1) := by decide +kernel
theorem d_law_1134 : decode code 1134 = .ok (.iconst 1, 1) := by decide +kernel
theorem d_law_1135 : decode code 1135 = .ok (.iadd, 1) := by decide +kernel
theorem d_law_1136 : decode code 1136 = .ok (.iaload, 1) := by decide +kernel
theorem d_law_1137 : decode code 1137 = .ok (.invokevirtual 143, 3) := by decide +kernel
theorem d_law_1140 : decode code 1140 = .ok (.if_icmp .eq 41, 3) := by decide +kernel
theorem d_law_1145 : decode code 1145 = .ok (.aload_n 1, 1) := by decide +kernel
theorem d_law_1146 : decode code 1146 = .ok (.aload_n 0, 1) := by decide +kernel
theorem d_law_1147 : decode code 1147 = .ok (.iload_n 3, 1) := by decide +kernel
theorem d_law_1148 : decode code 1148 = .ok (.iconst 1, 1) := by decide +kernel
theorem d_law_1149 : decode code 1149 = .ok (.iadd, 1) := by decide +kernel
theorem d_law_1150 : decode code 1150 = .ok (.iaload, 1) := by decide +kernel
theorem d_law_1151 : decode code 1151 = .ok (.invokevirtual 144, 3) := by decide +kernel
theorem d_law_1154 : decode code 1154 = .ok (.aload_n 2, 1) := by decide +kernel
theorem d_law_1155 : decode code 1155 = .ok (.aload_n 0, 1) := by decide +kernel
theorem d_law_1156 : decode code 1156 = .ok (.iload_n 3, 1) := by decide +kernel
theorem d_law_1157 : decode code 1157 = .ok (.iconst 1, 1) := by decide +kernel
theorem d_law_1158 : decode code 1158 = .ok (.iadd, 1) := by decide +kernel
theorem d_law_1159 : decode code 1159 = .ok (.iaload, 1) := by decide +kernel
theorem d_law_1160 : decode code 1160 = .ok (.invokevirtual 147, 3) := by decide +kernel
theorem d_law_1163 : decode code 1163 = .ok (.if_icmp .eq 18, 3) := by decide +kernel
theorem d_law_1168 : decode code 1168 = .ok (.aload_n 1, 1) := by decide +kernel
theorem d_law_1169 : decode code 1169 = .ok (.invokevirtual 148, 3) := by decide +kernel
theorem d_law_1172 : decode code 1172 = .ok (.aload_n 2, 1) := by decide +kernel
theorem d_law_1173 : decode code 1173 = .ok (.invokevirtual 151, 3) := by decide +kernel
theorem d_law_1176 : decode code 1176 = .ok (.if_icmp .eq 5, 3) := by decide +kernel
theorem d_law_1181 : decode code 1181 = .ok (.iinc 3 6, 3) := by decide +kernel
theorem d_law_1184 : decode code 1184 = .ok (.goto (-1166), 3) := by decide +kernel
theorem d_law_1187 : decode code 1187 = .ok (.iconst 1, 1) := by decide +kernel
theorem d_law_1188 : decode code 1188 = .ok (.ireturn, 1) := by decide +kernel
