theorem d_La_law_1082 : decode code 1082 = .ok (.iadd, 1) := by decide +kernel
theorem d_La_law_1083 : decode code 1083 = .ok (.iaload, 1) := by decide +kernel
theorem d_La_law_1084 : decode code 1084 = .ok (.i2l, 1) := by decide +kernel
theorem d_La_law_1085 : decode code 1085 = .ok (.ldc2_w 89, 3) := by decide +kernel
theorem d_La_law_1088 : decode code 1088 = .ok (.land, 1) := by decide +kernel
theorem d_La_law_1089 : decode code 1089 = .ok (.lor, 1) := by decide +kernel
theorem d_La_law_1090 : decode code 1090 = .ok (.invokestatic 169, 3) := by decide +kernel
theorem d_La_law_1093 : decode code 1093 = .ok (.istore 5, 2) := by decide +kernel
theorem d_La_law_1095 : decode code 1095 = .ok (.aload_n 2, 1) := by decide +kernel
theorem d_La_law_1096 : decode code 1096 = .ok (.aload_n 0, 1) := by decide +kernel
theorem d_La_law_1097 : decode code 1097 = .ok (.iload 4, 2) := by decide +kernel
theorem d_La_law_1099 : decode code 1099 = .ok (.iconst 1, 1) := by decide +kernel
theorem d_La_law_1100 : decode code 1100 = .ok (.iadd, 1) := by decide +kernel
theorem d_La_law_1101 : decode code 1101 = .ok (.iaload, 1) := by decide +kernel
theorem d_La_law_1102 : decode code 1102 = .ok (.i2l, 1) := by decide +kernel
theorem d_La_law_1103 : decode code 1103 = .ok (.bipush 32, 2) := by decide +kernel
theorem d_La_law_1105 : decode code 1105 = .ok (.lshl, 1) := by decide +kernel
theorem d_La_law_1106 : decode code 1106 = .ok (.aload_n 0, 1) := by decide +kernel
theorem d_La_law_1107 : decode code 1107 = .ok (.iload 4, 2) := by decide +kernel
theorem d_La_law_1109 : decode code 1109 = .ok (.iconst 2, 1) := by decide +kernel
theorem d_La_law_1110 : decode code 1110 = .ok (.iadd, 1) := by decide +kernel
theorem d_La_law_1111 : decode code 1111 = .ok (.iaload, 1) := by decide +kernel
theorem d_La_law_1112 : decode code 1112 = .ok (.i2l, 1) := by decide +kernel
theorem d_La_law_1113 : decode code 1113 = .ok (.ldc2_w 89, 3) := by decide +kernel
theorem d_La_law_1116 : decode code 1116 = .ok (.land, 1) := by decide +kernel
theorem d_La_law_1117 : decode code 1117 = .ok (.lor, 1) := by decide +kernel
theorem d_La_law_1118 : decode code 1118 = .ok (.aload_n 0, 1) := by decide +kernel
theorem d_La_law_1119 : decode code 1119 = .ok (.iload 4, 2) := by decide +kernel
theorem d_La_law_1121 : decode code 1121 = .ok (.iconst 3, 1) := by decide +kernel
theorem d_La_law_1122 : decode code 1122 = .ok (.iadd, 1) := by decide +kernel
theorem d_La_law_1123 : decode code 1123 = .ok (.iaload, 1) := by decide +kernel
theorem d_La_law_1124 : decode code 1124 = .ok (.aload_n 0, 1) := by decide +kernel
theorem d_La_law_1125 : decode code 1125 = .ok (.iload 4, 2) := by decide +kernel
theorem d_La_law_1127 : decode code 1127 = .ok (.iconst 4, 1) := by decide +kernel
theorem d_La_law_1128 : decode code 1128 = .ok (.iadd, 1) := by decide +kernel
theorem d_La_law_1129 : decode code 1129 = .ok (.iaload, 1) := by decide +kernel
theorem d_La_law_1130 : decode code 1130 = .ok (.i2l, 1) := by decide +kernel
theorem d_La_law_1131 : decode code 1131 = .ok (.bipush 32, 2) := by decide +kernel
theorem d_La_law_1133 : decode code 1133 = .ok (.lshl, 1) := by decide +kernel
theorem d_La_law_1134 : decode code 1134 = .ok (.aload_n 0, 1) := by decide +kernel
theorem d_La_law_1135 : decode code 1135 = .ok (.iload 4, 2) := by decide +kernel
theorem d_La_law_1137 : decode code 1137 = .ok (.iconst 5, 1) := by decide +kernel
theorem d_La_law_1138 : decode code 1138 = .ok (.iadd, 1) := by decide +kernel
theorem d_La_law_1139 : decode code 1139 = .ok (.iaload, 1) := by decide +kernel
theorem d_La_law_1140 : decode code 1140 = .ok (.i2l, 1) := by decide +kernel
theorem d_La_law_1141 : decode code 1141 = .ok (.ldc2_w 89, 3) := by decide +kernel
theorem d_La_law_1144 : decode code 1144 = .ok (.land, 1) := by decide +kernel
theorem d_La_law_1145 : decode code 1145 = .ok (.lor, 1) := by decide +kernel
theorem d_La_law_1146 : decode code 1146 = .ok (.invokevirtual 172, 3) := by decide +kernel
theorem d_La_law_1149 : decode code 1149 = .ok (.aload_n 2, 1) := by decide +kernel
theorem d_La_law_1150 : decode code 1150 = .ok (.invokevirtual 95, 3) := by decide +kernel
theorem d_La_law_1153 : decode code 1153 = .ok (.iload 5, 2) := by decide +kernel
theorem d_La_law_1155 : decode code 1155 = .ok (.if_icmp .eq 5, 3) := by decide +kernel
theorem d_La_law_1158 : decode code 1158 = .ok (.iconst 0, 1) := by decide +kernel
theorem d_La_law_1159 : decode code 1159 = .ok (.ireturn, 1) := by decide +kernel
theorem d_La_law_1160 : decode code 1160 = .ok (.goto 85, 3) := by decide +kernel
theorem d_La_law_1163 : decode code 1163 = .ok (.aload_n 1, 1) := by decide +kernel
theorem d_La_law_1164 : decode code 1164 = .ok (.invokevirtual 173, 3) := by decide +kernel
theorem d_La_law_1167 : decode code 1167 = .ok (.aload_n 2, 1) := by decide +kernel
theorem d_La_law_1168 : decode code 1168 = .ok (.invokevirtual 176, 3) := by decide +kernel
theorem d_La_law_1171 : decode code 1171 = .ok (.if_icmp .eq 74, 3) := by decide +kernel
theorem d_La_law_1174 : decode code 1174 = .ok (.iconst 0, 1) := by decide +kernel
theorem d_La_law_1175 : decode code 1175 = .ok (.ireturn, 1) := by decide +kernel
theorem d_La_law_1176 : decode code 1176 = .ok (.aload_n 1, 1) := by decide +kernel
theorem d_La_law_1177 : decode code 1177 = .ok (.aload_n 0, 1) := by decide +kernel
theorem d_La_law_1178 : decode code 1178 = .ok (.iload 4, 2) := by decide +kernel
theorem d_La_law_1180 : decode code 1180 = .ok (.iconst 1, 1) := by decide +kernel
theorem d_La_law_1181 : decode code 1181 = .ok (.iadd, 1) := by decide +kernel
theorem d_La_law_1182 : decode code 1182 = .ok (.iaload, 1) := by decide +kernel
theorem d_La_law_1183 : decode code 1183 = .ok (.aload_n 3, 1) := by decide +kernel
theorem d_La_law_1184 : decode code 1184 = .ok (.invokestatic 177, 3) := by decide +kernel
theorem d_La_law_1187 : decode code 1187 = .ok (.istore 5, 2) := by decide +kernel
theorem d_La_law_1189 : decode code 1189 = .ok (.aload_n 2, 1) := by decide +kernel
theorem d_La_law_1190 : decode code 1190 = .ok (.aload_n 0, 1) := by decide +kernel
theorem d_La_law_1191 : decode code 1191 = .ok (.iload 4, 2) := by decide +kernel
theorem d_La_law_1193 : decode code 1193 = .ok (.iconst 1, 1) := by decide +kernel
theorem d_La_law_1194 : decode code 1194 = .ok (.iadd, 1) := by decide +kernel
theorem d_La_law_1195 : decode code 1195 = .ok (.iaload, 1) := by decide +kernel
theorem d_La_law_1196 : decode code 1196 = .ok (.invokevirtual 179, 3) := by decide +kernel
theorem d_La_law_1199 : decode code 1199 = .ok (.istore 6, 2) := by decide +kernel
theorem d_La_law_1201 : decode code 1201 = .ok (.aload_n 2, 1) := by decide +kernel
theorem d_La_law_1202 : decode code 1202 = .ok (.invokevirtual 95, 3) := by decide +kernel
theorem d_La_law_1205 : decode code 1205 = .ok (.iload 5, 2) := by decide +kernel
theorem d_La_law_1207 : decode code 1207 = .ok (.if_icmp .eq 5, 3) := by decide +kernel
theorem d_La_law_1210 : decode code 1210 = .ok (.iconst 0, 1) := by decide +kernel
theorem d_La_law_1211 : decode code 1211 = .ok (.ireturn, 1) := by decide +kernel
theorem d_La_law_1212 : decode code 1212 = .ok (.iload 5, 2) := by decide +kernel
theorem d_La_law_1214 : decode code 1214 = .ok (.ifCond .ne 15, 3) := by decide +kernel
theorem d_La_law_1217 : decode code 1217 = .ok (.aload_n 3, 1) := by decide +kernel
theorem d_La_law_1218 : decode code 1218 = .ok (.iconst 0, 1) := by decide +kernel
theorem d_La_law_1219 : decode code 1219 = .ok (.laload, 1) := by decide +kernel
theorem d_La_law_1220 : decode code 1220 = .ok (.iload 6, 2) := by decide +kernel
theorem d_La_law_1222 : decode code 1222 = .ok (.i2l, 1) := by decide +kernel
theorem d_La_law_1223 : decode code 1223 = .ok (.lcmp, 1) := by decide +kernel
theorem d_La_law_1224 : decode code 1224 = .ok (.ifCond .eq 5, 3) := by decide +kernel
theorem d_La_law_1227 : decode code 1227 = .ok (.iconst 0, 1) := by decide +kernel
theorem d_La_law_1228 : decode code 1228 = .ok (.ireturn, 1) := by decide +kernel
theorem d_La_law_1229 : decode code 1229 = .ok (.goto 16, 3) := by decide +kernel
theorem d_La_law_1232 : decode code 1232 = .ok (.aload_n 1, 1) := by decide +kernel
theorem d_La_law_1233 : decode code 1233 = .ok (.invokevirtual 180, 3) := by decide +kernel
theorem d_La_law_1236 : decode code 1236 = .ok (.aload_n 2, 1) := by decide +kernel
theorem d_La_law_1237 : decode code 1237 = .ok (.invokevirtual 183, 3) := by decide +kernel
theorem d_La_law_1240 : decode code 1240 = .ok (.if_icmp .eq 5, 3) := by decide +kernel
theorem d_La_law_1243 : decode code 1243 = .ok (.iconst 0, 1) := by decide +kernel
theorem d_La_law_1244 : decode code 1244 = .ok (.ireturn, 1) := by decide +kernel
theorem d_La_law_1245 : decode code 1245 = .ok (.iinc 4 6, 3) := by decide +kernel
theorem d_La_law_1248 : decode code 1248 = .ok (.goto (-1215), 3) := by decide +kernel
theorem d_La_law_1251 : decode code 1251 = .ok (.iconst 1, 1) := by decide +kernel
theorem d_La_law_1252 : decode code 1252 = .ok (.ireturn, 1) := by decide +kernel

