/-! laid by wip/hand/lw.py: cases of the law -/
theorem te_368_1063 : (pT M_368).find? (fun e => e.1 == 1063) = some (1063, .aload_n 1, 0, 0) := (sk_49 1063 rfl).trans rfl
theorem te_368_1064 : (pT M_368).find? (fun e => e.1 == 1064) = some (1064, .aload_n 0, 0, 0) := (sk_49 1064 rfl).trans rfl
theorem te_368_1065 : (pT M_368).find? (fun e => e.1 == 1065) = some (1065, .iload 4, 0, 0) := (sk_49 1065 rfl).trans rfl
theorem te_368_1067 : (pT M_368).find? (fun e => e.1 == 1067) = some (1067, .iconst 1, 0, 0) := (sk_49 1067 rfl).trans rfl
theorem te_368_1068 : (pT M_368).find? (fun e => e.1 == 1068) = some (1068, .iadd, 0, 0) := (sk_49 1068 rfl).trans rfl
theorem te_368_1069 : (pT M_368).find? (fun e => e.1 == 1069) = some (1069, .iaload, 0, 0) := (sk_49 1069 rfl).trans rfl
theorem te_368_1070 : (pT M_368).find? (fun e => e.1 == 1070) = some (1070, .aload_n 0, 0, 0) := (sk_49 1070 rfl).trans rfl
theorem te_368_1071 : (pT M_368).find? (fun e => e.1 == 1071) = some (1071, .iload 4, 0, 0) := (sk_49 1071 rfl).trans rfl
theorem te_368_1073 : (pT M_368).find? (fun e => e.1 == 1073) = some (1073, .iconst 2, 0, 0) := (sk_49 1073 rfl).trans rfl
theorem te_368_1074 : (pT M_368).find? (fun e => e.1 == 1074) = some (1074, .iadd, 0, 0) := (sk_50 1074 rfl).trans rfl
theorem te_368_1075 : (pT M_368).find? (fun e => e.1 == 1075) = some (1075, .iaload, 0, 0) := (sk_50 1075 rfl).trans rfl
theorem te_368_1076 : (pT M_368).find? (fun e => e.1 == 1076) = some (1076, .aload_n 0, 0, 0) := (sk_50 1076 rfl).trans rfl
theorem te_368_1077 : (pT M_368).find? (fun e => e.1 == 1077) = some (1077, .iload 4, 0, 0) := (sk_50 1077 rfl).trans rfl
theorem te_368_1079 : (pT M_368).find? (fun e => e.1 == 1079) = some (1079, .iconst 3, 0, 0) := (sk_50 1079 rfl).trans rfl
theorem te_368_1080 : (pT M_368).find? (fun e => e.1 == 1080) = some (1080, .iadd, 0, 0) := (sk_50 1080 rfl).trans rfl
theorem te_368_1081 : (pT M_368).find? (fun e => e.1 == 1081) = some (1081, .iaload, 0, 0) := (sk_50 1081 rfl).trans rfl
theorem te_368_1082 : (pT M_368).find? (fun e => e.1 == 1082) = some (1082, .aload_n 3, 0, 0) := (sk_50 1082 rfl).trans rfl
theorem te_368_1083 : (pT M_368).find? (fun e => e.1 == 1083) = some (1083, .invokestatic 249, 144, 8) := (sk_50 1083 rfl).trans rfl
theorem te_368_1086 : (pT M_368).find? (fun e => e.1 == 1086) = some (1086, .istore 5, 0, 0) := (sk_50 1086 rfl).trans rfl
theorem te_368_1088 : (pT M_368).find? (fun e => e.1 == 1088) = some (1088, .aload_n 2, 0, 0) := (sk_50 1088 rfl).trans rfl
theorem te_368_1089 : (pT M_368).find? (fun e => e.1 == 1089) = some (1089, .aload_n 0, 0, 0) := (sk_50 1089 rfl).trans rfl
theorem te_368_1090 : (pT M_368).find? (fun e => e.1 == 1090) = some (1090, .iload 4, 0, 0) := (sk_51 1090 rfl).trans rfl
theorem te_368_1092 : (pT M_368).find? (fun e => e.1 == 1092) = some (1092, .iconst 1, 0, 0) := (sk_51 1092 rfl).trans rfl
theorem te_368_1093 : (pT M_368).find? (fun e => e.1 == 1093) = some (1093, .iadd, 0, 0) := (sk_51 1093 rfl).trans rfl
theorem te_368_1094 : (pT M_368).find? (fun e => e.1 == 1094) = some (1094, .iaload, 0, 0) := (sk_51 1094 rfl).trans rfl
theorem te_368_1095 : (pT M_368).find? (fun e => e.1 == 1095) = some (1095, .aload_n 0, 0, 0) := (sk_51 1095 rfl).trans rfl
theorem te_368_1096 : (pT M_368).find? (fun e => e.1 == 1096) = some (1096, .iload 4, 0, 0) := (sk_51 1096 rfl).trans rfl
theorem te_368_1098 : (pT M_368).find? (fun e => e.1 == 1098) = some (1098, .iconst 2, 0, 0) := (sk_51 1098 rfl).trans rfl
theorem te_368_1099 : (pT M_368).find? (fun e => e.1 == 1099) = some (1099, .iadd, 0, 0) := (sk_51 1099 rfl).trans rfl
theorem te_368_1100 : (pT M_368).find? (fun e => e.1 == 1100) = some (1100, .iaload, 0, 0) := (sk_51 1100 rfl).trans rfl
theorem te_368_1101 : (pT M_368).find? (fun e => e.1 == 1101) = some (1101, .aload_n 0, 0, 0) := (sk_51 1101 rfl).trans rfl
theorem te_368_1102 : (pT M_368).find? (fun e => e.1 == 1102) = some (1102, .iload 4, 0, 0) := (sk_51 1102 rfl).trans rfl
theorem te_368_1104 : (pT M_368).find? (fun e => e.1 == 1104) = some (1104, .iconst 3, 0, 0) := (sk_51 1104 rfl).trans rfl
theorem te_368_1105 : (pT M_368).find? (fun e => e.1 == 1105) = some (1105, .iadd, 0, 0) := (sk_52 1105 rfl).trans rfl
theorem te_368_1106 : (pT M_368).find? (fun e => e.1 == 1106) = some (1106, .iaload, 0, 0) := (sk_52 1106 rfl).trans rfl
theorem te_368_1107 : (pT M_368).find? (fun e => e.1 == 1107) = some (1107, .invokevirtual 251, 305, 0) := (sk_52 1107 rfl).trans rfl
theorem te_368_1110 : (pT M_368).find? (fun e => e.1 == 1110) = some (1110, .istore 6, 0, 0) := (sk_52 1110 rfl).trans rfl
theorem te_368_1112 : (pT M_368).find? (fun e => e.1 == 1112) = some (1112, .goto 1204, 0, 0) := (sk_52 1112 rfl).trans rfl
theorem te_368_1115 : (pT M_368).find? (fun e => e.1 == 1115) = some (1115, .aload_n 1, 0, 0) := (sk_52 1115 rfl).trans rfl
theorem te_368_1116 : (pT M_368).find? (fun e => e.1 == 1116) = some (1116, .aload_n 0, 0, 0) := (sk_52 1116 rfl).trans rfl
theorem te_368_1117 : (pT M_368).find? (fun e => e.1 == 1117) = some (1117, .iload 4, 0, 0) := (sk_52 1117 rfl).trans rfl
theorem te_368_1119 : (pT M_368).find? (fun e => e.1 == 1119) = some (1119, .iconst 1, 0, 0) := (sk_52 1119 rfl).trans rfl
theorem te_368_1120 : (pT M_368).find? (fun e => e.1 == 1120) = some (1120, .iadd, 0, 0) := (sk_52 1120 rfl).trans rfl
theorem te_368_1121 : (pT M_368).find? (fun e => e.1 == 1121) = some (1121, .iaload, 0, 0) := (sk_52 1121 rfl).trans rfl
theorem te_368_1122 : (pT M_368).find? (fun e => e.1 == 1122) = some (1122, .aload_n 0, 0, 0) := (sk_52 1122 rfl).trans rfl
theorem te_368_1123 : (pT M_368).find? (fun e => e.1 == 1123) = some (1123, .iload 4, 0, 0) := (sk_53 1123 rfl).trans rfl
theorem te_368_1125 : (pT M_368).find? (fun e => e.1 == 1125) = some (1125, .iconst 2, 0, 0) := (sk_53 1125 rfl).trans rfl
theorem te_368_1126 : (pT M_368).find? (fun e => e.1 == 1126) = some (1126, .iadd, 0, 0) := (sk_53 1126 rfl).trans rfl
theorem te_368_1127 : (pT M_368).find? (fun e => e.1 == 1127) = some (1127, .iaload, 0, 0) := (sk_53 1127 rfl).trans rfl
theorem te_368_1128 : (pT M_368).find? (fun e => e.1 == 1128) = some (1128, .aload_n 3, 0, 0) := (sk_53 1128 rfl).trans rfl
theorem te_368_1129 : (pT M_368).find? (fun e => e.1 == 1129) = some (1129, .invokestatic 252, 147, 8) := (sk_53 1129 rfl).trans rfl
theorem te_368_1132 : (pT M_368).find? (fun e => e.1 == 1132) = some (1132, .istore 5, 0, 0) := (sk_53 1132 rfl).trans rfl
theorem te_368_1134 : (pT M_368).find? (fun e => e.1 == 1134) = some (1134, .aload_n 2, 0, 0) := (sk_53 1134 rfl).trans rfl
theorem te_368_1135 : (pT M_368).find? (fun e => e.1 == 1135) = some (1135, .aload_n 0, 0, 0) := (sk_53 1135 rfl).trans rfl
theorem te_368_1136 : (pT M_368).find? (fun e => e.1 == 1136) = some (1136, .iload 4, 0, 0) := (sk_53 1136 rfl).trans rfl
theorem te_368_1138 : (pT M_368).find? (fun e => e.1 == 1138) = some (1138, .iconst 1, 0, 0) := (sk_53 1138 rfl).trans rfl
theorem te_368_1139 : (pT M_368).find? (fun e => e.1 == 1139) = some (1139, .iadd, 0, 0) := (sk_53 1139 rfl).trans rfl
theorem te_368_1140 : (pT M_368).find? (fun e => e.1 == 1140) = some (1140, .iaload, 0, 0) := (sk_54 1140 rfl).trans rfl
theorem te_368_1141 : (pT M_368).find? (fun e => e.1 == 1141) = some (1141, .aload_n 0, 0, 0) := (sk_54 1141 rfl).trans rfl
theorem te_368_1142 : (pT M_368).find? (fun e => e.1 == 1142) = some (1142, .iload 4, 0, 0) := (sk_54 1142 rfl).trans rfl
theorem te_368_1144 : (pT M_368).find? (fun e => e.1 == 1144) = some (1144, .iconst 2, 0, 0) := (sk_54 1144 rfl).trans rfl
theorem te_368_1145 : (pT M_368).find? (fun e => e.1 == 1145) = some (1145, .iadd, 0, 0) := (sk_54 1145 rfl).trans rfl
theorem te_368_1146 : (pT M_368).find? (fun e => e.1 == 1146) = some (1146, .iaload, 0, 0) := (sk_54 1146 rfl).trans rfl
theorem te_368_1147 : (pT M_368).find? (fun e => e.1 == 1147) = some (1147, .invokevirtual 254, 307, 0) := (sk_54 1147 rfl).trans rfl
theorem te_368_1150 : (pT M_368).find? (fun e => e.1 == 1150) = some (1150, .istore 6, 0, 0) := (sk_54 1150 rfl).trans rfl
theorem te_368_1152 : (pT M_368).find? (fun e => e.1 == 1152) = some (1152, .goto 1164, 0, 0) := (sk_54 1152 rfl).trans rfl
theorem te_368_1155 : (pT M_368).find? (fun e => e.1 == 1155) = some (1155, .aload_n 1, 0, 0) := (sk_54 1155 rfl).trans rfl
theorem te_368_1156 : (pT M_368).find? (fun e => e.1 == 1156) = some (1156, .aload_n 0, 0, 0) := (sk_54 1156 rfl).trans rfl
theorem te_368_1157 : (pT M_368).find? (fun e => e.1 == 1157) = some (1157, .iload 4, 0, 0) := (sk_54 1157 rfl).trans rfl
theorem te_368_1159 : (pT M_368).find? (fun e => e.1 == 1159) = some (1159, .iconst 1, 0, 0) := (sk_55 1159 rfl).trans rfl
theorem te_368_1160 : (pT M_368).find? (fun e => e.1 == 1160) = some (1160, .iadd, 0, 0) := (sk_55 1160 rfl).trans rfl
theorem te_368_1161 : (pT M_368).find? (fun e => e.1 == 1161) = some (1161, .iaload, 0, 0) := (sk_55 1161 rfl).trans rfl
theorem te_368_1162 : (pT M_368).find? (fun e => e.1 == 1162) = some (1162, .aload_n 0, 0, 0) := (sk_55 1162 rfl).trans rfl
theorem te_368_1163 : (pT M_368).find? (fun e => e.1 == 1163) = some (1163, .iload 4, 0, 0) := (sk_55 1163 rfl).trans rfl
theorem te_368_1165 : (pT M_368).find? (fun e => e.1 == 1165) = some (1165, .iconst 2, 0, 0) := (sk_55 1165 rfl).trans rfl
theorem te_368_1166 : (pT M_368).find? (fun e => e.1 == 1166) = some (1166, .iadd, 0, 0) := (sk_55 1166 rfl).trans rfl
theorem te_368_1167 : (pT M_368).find? (fun e => e.1 == 1167) = some (1167, .iaload, 0, 0) := (sk_55 1167 rfl).trans rfl
theorem te_368_1168 : (pT M_368).find? (fun e => e.1 == 1168) = some (1168, .aload_n 0, 0, 0) := (sk_55 1168 rfl).trans rfl
theorem te_368_1169 : (pT M_368).find? (fun e => e.1 == 1169) = some (1169, .iload 4, 0, 0) := (sk_55 1169 rfl).trans rfl
theorem te_368_1171 : (pT M_368).find? (fun e => e.1 == 1171) = some (1171, .iconst 3, 0, 0) := (sk_55 1171 rfl).trans rfl
theorem te_368_1172 : (pT M_368).find? (fun e => e.1 == 1172) = some (1172, .iadd, 0, 0) := (sk_55 1172 rfl).trans rfl
theorem te_368_1173 : (pT M_368).find? (fun e => e.1 == 1173) = some (1173, .iaload, 0, 0) := (sk_56 1173 rfl).trans rfl
theorem te_368_1174 : (pT M_368).find? (fun e => e.1 == 1174) = some (1174, .aload_n 0, 0, 0) := (sk_56 1174 rfl).trans rfl
theorem te_368_1175 : (pT M_368).find? (fun e => e.1 == 1175) = some (1175, .iload 4, 0, 0) := (sk_56 1175 rfl).trans rfl
theorem te_368_1177 : (pT M_368).find? (fun e => e.1 == 1177) = some (1177, .iconst 4, 0, 0) := (sk_56 1177 rfl).trans rfl
theorem te_368_1178 : (pT M_368).find? (fun e => e.1 == 1178) = some (1178, .iadd, 0, 0) := (sk_56 1178 rfl).trans rfl
theorem te_368_1179 : (pT M_368).find? (fun e => e.1 == 1179) = some (1179, .iaload, 0, 0) := (sk_56 1179 rfl).trans rfl
theorem te_368_1180 : (pT M_368).find? (fun e => e.1 == 1180) = some (1180, .aload_n 3, 0, 0) := (sk_56 1180 rfl).trans rfl
theorem te_368_1181 : (pT M_368).find? (fun e => e.1 == 1181) = some (1181, .invokestatic 255, 149, 8) := (sk_56 1181 rfl).trans rfl
theorem te_368_1184 : (pT M_368).find? (fun e => e.1 == 1184) = some (1184, .istore 5, 0, 0) := (sk_56 1184 rfl).trans rfl
theorem te_368_1186 : (pT M_368).find? (fun e => e.1 == 1186) = some (1186, .aload_n 2, 0, 0) := (sk_56 1186 rfl).trans rfl
theorem te_368_1187 : (pT M_368).find? (fun e => e.1 == 1187) = some (1187, .aload_n 0, 0, 0) := (sk_56 1187 rfl).trans rfl
theorem te_368_1188 : (pT M_368).find? (fun e => e.1 == 1188) = some (1188, .iload 4, 0, 0) := (sk_56 1188 rfl).trans rfl
theorem te_368_1190 : (pT M_368).find? (fun e => e.1 == 1190) = some (1190, .iconst 1, 0, 0) := (sk_57 1190 rfl).trans rfl
theorem te_368_1191 : (pT M_368).find? (fun e => e.1 == 1191) = some (1191, .iadd, 0, 0) := (sk_57 1191 rfl).trans rfl
theorem te_368_1192 : (pT M_368).find? (fun e => e.1 == 1192) = some (1192, .iaload, 0, 0) := (sk_57 1192 rfl).trans rfl
theorem te_368_1193 : (pT M_368).find? (fun e => e.1 == 1193) = some (1193, .aload_n 0, 0, 0) := (sk_57 1193 rfl).trans rfl
theorem te_368_1194 : (pT M_368).find? (fun e => e.1 == 1194) = some (1194, .iload 4, 0, 0) := (sk_57 1194 rfl).trans rfl
theorem te_368_1196 : (pT M_368).find? (fun e => e.1 == 1196) = some (1196, .iconst 2, 0, 0) := (sk_57 1196 rfl).trans rfl
theorem te_368_1197 : (pT M_368).find? (fun e => e.1 == 1197) = some (1197, .iadd, 0, 0) := (sk_57 1197 rfl).trans rfl
theorem te_368_1198 : (pT M_368).find? (fun e => e.1 == 1198) = some (1198, .iaload, 0, 0) := (sk_57 1198 rfl).trans rfl
theorem te_368_1199 : (pT M_368).find? (fun e => e.1 == 1199) = some (1199, .aload_n 0, 0, 0) := (sk_57 1199 rfl).trans rfl
theorem te_368_1200 : (pT M_368).find? (fun e => e.1 == 1200) = some (1200, .iload 4, 0, 0) := (sk_57 1200 rfl).trans rfl
theorem te_368_1202 : (pT M_368).find? (fun e => e.1 == 1202) = some (1202, .iconst 3, 0, 0) := (sk_57 1202 rfl).trans rfl
theorem te_368_1203 : (pT M_368).find? (fun e => e.1 == 1203) = some (1203, .iadd, 0, 0) := (sk_57 1203 rfl).trans rfl
theorem te_368_1204 : (pT M_368).find? (fun e => e.1 == 1204) = some (1204, .iaload, 0, 0) := (sk_58 1204 rfl).trans rfl
theorem te_368_1205 : (pT M_368).find? (fun e => e.1 == 1205) = some (1205, .aload_n 0, 0, 0) := (sk_58 1205 rfl).trans rfl
theorem te_368_1206 : (pT M_368).find? (fun e => e.1 == 1206) = some (1206, .iload 4, 0, 0) := (sk_58 1206 rfl).trans rfl
theorem te_368_1208 : (pT M_368).find? (fun e => e.1 == 1208) = some (1208, .iconst 4, 0, 0) := (sk_58 1208 rfl).trans rfl
theorem te_368_1209 : (pT M_368).find? (fun e => e.1 == 1209) = some (1209, .iadd, 0, 0) := (sk_58 1209 rfl).trans rfl
theorem te_368_1210 : (pT M_368).find? (fun e => e.1 == 1210) = some (1210, .iaload, 0, 0) := (sk_58 1210 rfl).trans rfl
theorem te_368_1211 : (pT M_368).find? (fun e => e.1 == 1211) = some (1211, .invokevirtual 257, 308, 0) := (sk_58 1211 rfl).trans rfl
theorem te_368_1214 : (pT M_368).find? (fun e => e.1 == 1214) = some (1214, .istore 6, 0, 0) := (sk_58 1214 rfl).trans rfl
theorem te_368_1216 : (pT M_368).find? (fun e => e.1 == 1216) = some (1216, .goto 1100, 0, 0) := (sk_58 1216 rfl).trans rfl
theorem te_368_1219 : (pT M_368).find? (fun e => e.1 == 1219) = some (1219, .aload_n 1, 0, 0) := (sk_58 1219 rfl).trans rfl
theorem te_368_1220 : (pT M_368).find? (fun e => e.1 == 1220) = some (1220, .aload_n 0, 0, 0) := (sk_58 1220 rfl).trans rfl
theorem te_368_1221 : (pT M_368).find? (fun e => e.1 == 1221) = some (1221, .iload 4, 0, 0) := (sk_58 1221 rfl).trans rfl
theorem te_368_1223 : (pT M_368).find? (fun e => e.1 == 1223) = some (1223, .iconst 1, 0, 0) := (sk_59 1223 rfl).trans rfl
theorem te_368_1224 : (pT M_368).find? (fun e => e.1 == 1224) = some (1224, .iadd, 0, 0) := (sk_59 1224 rfl).trans rfl
theorem te_368_1225 : (pT M_368).find? (fun e => e.1 == 1225) = some (1225, .iaload, 0, 0) := (sk_59 1225 rfl).trans rfl
theorem te_368_1226 : (pT M_368).find? (fun e => e.1 == 1226) = some (1226, .aload_n 0, 0, 0) := (sk_59 1226 rfl).trans rfl
theorem te_368_1227 : (pT M_368).find? (fun e => e.1 == 1227) = some (1227, .iload 4, 0, 0) := (sk_59 1227 rfl).trans rfl
theorem te_368_1229 : (pT M_368).find? (fun e => e.1 == 1229) = some (1229, .iconst 2, 0, 0) := (sk_59 1229 rfl).trans rfl
theorem te_368_1230 : (pT M_368).find? (fun e => e.1 == 1230) = some (1230, .iadd, 0, 0) := (sk_59 1230 rfl).trans rfl
theorem te_368_1231 : (pT M_368).find? (fun e => e.1 == 1231) = some (1231, .iaload, 0, 0) := (sk_59 1231 rfl).trans rfl
theorem te_368_1232 : (pT M_368).find? (fun e => e.1 == 1232) = some (1232, .aload_n 0, 0, 0) := (sk_59 1232 rfl).trans rfl
theorem te_368_1233 : (pT M_368).find? (fun e => e.1 == 1233) = some (1233, .iload 4, 0, 0) := (sk_59 1233 rfl).trans rfl
theorem te_368_1235 : (pT M_368).find? (fun e => e.1 == 1235) = some (1235, .iconst 3, 0, 0) := (sk_59 1235 rfl).trans rfl
theorem te_368_1236 : (pT M_368).find? (fun e => e.1 == 1236) = some (1236, .iadd, 0, 0) := (sk_59 1236 rfl).trans rfl
theorem te_368_1237 : (pT M_368).find? (fun e => e.1 == 1237) = some (1237, .iaload, 0, 0) := (sk_60 1237 rfl).trans rfl
theorem te_368_1238 : (pT M_368).find? (fun e => e.1 == 1238) = some (1238, .aload_n 3, 0, 0) := (sk_60 1238 rfl).trans rfl
theorem te_368_1239 : (pT M_368).find? (fun e => e.1 == 1239) = some (1239, .invokestatic 258, 153, 8) := (sk_60 1239 rfl).trans rfl
theorem te_368_1242 : (pT M_368).find? (fun e => e.1 == 1242) = some (1242, .istore 5, 0, 0) := (sk_60 1242 rfl).trans rfl
theorem te_368_1244 : (pT M_368).find? (fun e => e.1 == 1244) = some (1244, .aload_n 2, 0, 0) := (sk_60 1244 rfl).trans rfl
theorem te_368_1245 : (pT M_368).find? (fun e => e.1 == 1245) = some (1245, .aload_n 0, 0, 0) := (sk_60 1245 rfl).trans rfl
theorem te_368_1246 : (pT M_368).find? (fun e => e.1 == 1246) = some (1246, .iload 4, 0, 0) := (sk_60 1246 rfl).trans rfl
theorem te_368_1248 : (pT M_368).find? (fun e => e.1 == 1248) = some (1248, .iconst 1, 0, 0) := (sk_60 1248 rfl).trans rfl
theorem te_368_1249 : (pT M_368).find? (fun e => e.1 == 1249) = some (1249, .iadd, 0, 0) := (sk_60 1249 rfl).trans rfl
theorem te_368_1250 : (pT M_368).find? (fun e => e.1 == 1250) = some (1250, .iaload, 0, 0) := (sk_60 1250 rfl).trans rfl
theorem te_368_1251 : (pT M_368).find? (fun e => e.1 == 1251) = some (1251, .aload_n 0, 0, 0) := (sk_60 1251 rfl).trans rfl
theorem te_368_1252 : (pT M_368).find? (fun e => e.1 == 1252) = some (1252, .iload 4, 0, 0) := (sk_60 1252 rfl).trans rfl
theorem te_368_1254 : (pT M_368).find? (fun e => e.1 == 1254) = some (1254, .iconst 2, 0, 0) := (sk_61 1254 rfl).trans rfl
theorem te_368_1255 : (pT M_368).find? (fun e => e.1 == 1255) = some (1255, .iadd, 0, 0) := (sk_61 1255 rfl).trans rfl
theorem te_368_1256 : (pT M_368).find? (fun e => e.1 == 1256) = some (1256, .iaload, 0, 0) := (sk_61 1256 rfl).trans rfl
theorem te_368_1257 : (pT M_368).find? (fun e => e.1 == 1257) = some (1257, .aload_n 0, 0, 0) := (sk_61 1257 rfl).trans rfl
theorem te_368_1258 : (pT M_368).find? (fun e => e.1 == 1258) = some (1258, .iload 4, 0, 0) := (sk_61 1258 rfl).trans rfl
theorem te_368_1260 : (pT M_368).find? (fun e => e.1 == 1260) = some (1260, .iconst 3, 0, 0) := (sk_61 1260 rfl).trans rfl
theorem te_368_1261 : (pT M_368).find? (fun e => e.1 == 1261) = some (1261, .iadd, 0, 0) := (sk_61 1261 rfl).trans rfl
theorem te_368_1262 : (pT M_368).find? (fun e => e.1 == 1262) = some (1262, .iaload, 0, 0) := (sk_61 1262 rfl).trans rfl
theorem te_368_1263 : (pT M_368).find? (fun e => e.1 == 1263) = some (1263, .invokevirtual 260, 310, 0) := (sk_61 1263 rfl).trans rfl
theorem te_368_1266 : (pT M_368).find? (fun e => e.1 == 1266) = some (1266, .istore 6, 0, 0) := (sk_61 1266 rfl).trans rfl
theorem te_368_1268 : (pT M_368).find? (fun e => e.1 == 1268) = some (1268, .goto 1048, 0, 0) := (sk_61 1268 rfl).trans rfl
theorem te_368_1271 : (pT M_368).find? (fun e => e.1 == 1271) = some (1271, .aload_n 1, 0, 0) := (sk_61 1271 rfl).trans rfl
theorem te_368_1272 : (pT M_368).find? (fun e => e.1 == 1272) = some (1272, .aload_n 0, 0, 0) := (sk_62 1272 rfl).trans rfl
theorem te_368_1273 : (pT M_368).find? (fun e => e.1 == 1273) = some (1273, .iload 4, 0, 0) := (sk_62 1273 rfl).trans rfl
theorem te_368_1275 : (pT M_368).find? (fun e => e.1 == 1275) = some (1275, .iconst 1, 0, 0) := (sk_62 1275 rfl).trans rfl
theorem te_368_1276 : (pT M_368).find? (fun e => e.1 == 1276) = some (1276, .iadd, 0, 0) := (sk_62 1276 rfl).trans rfl
theorem te_368_1277 : (pT M_368).find? (fun e => e.1 == 1277) = some (1277, .iaload, 0, 0) := (sk_62 1277 rfl).trans rfl
theorem te_368_1278 : (pT M_368).find? (fun e => e.1 == 1278) = some (1278, .aload_n 0, 0, 0) := (sk_62 1278 rfl).trans rfl
theorem te_368_1279 : (pT M_368).find? (fun e => e.1 == 1279) = some (1279, .iload 4, 0, 0) := (sk_62 1279 rfl).trans rfl
theorem te_368_1281 : (pT M_368).find? (fun e => e.1 == 1281) = some (1281, .iconst 2, 0, 0) := (sk_62 1281 rfl).trans rfl
theorem te_368_1282 : (pT M_368).find? (fun e => e.1 == 1282) = some (1282, .iadd, 0, 0) := (sk_62 1282 rfl).trans rfl
theorem te_368_1283 : (pT M_368).find? (fun e => e.1 == 1283) = some (1283, .iaload, 0, 0) := (sk_62 1283 rfl).trans rfl
theorem te_368_1284 : (pT M_368).find? (fun e => e.1 == 1284) = some (1284, .aload_n 0, 0, 0) := (sk_62 1284 rfl).trans rfl
theorem te_368_1285 : (pT M_368).find? (fun e => e.1 == 1285) = some (1285, .iload 4, 0, 0) := (sk_62 1285 rfl).trans rfl
theorem te_368_1287 : (pT M_368).find? (fun e => e.1 == 1287) = some (1287, .iconst 3, 0, 0) := (sk_63 1287 rfl).trans rfl
theorem te_368_1288 : (pT M_368).find? (fun e => e.1 == 1288) = some (1288, .iadd, 0, 0) := (sk_63 1288 rfl).trans rfl
theorem te_368_1289 : (pT M_368).find? (fun e => e.1 == 1289) = some (1289, .iaload, 0, 0) := (sk_63 1289 rfl).trans rfl
theorem te_368_1290 : (pT M_368).find? (fun e => e.1 == 1290) = some (1290, .aload_n 0, 0, 0) := (sk_63 1290 rfl).trans rfl
theorem te_368_1291 : (pT M_368).find? (fun e => e.1 == 1291) = some (1291, .iload 4, 0, 0) := (sk_63 1291 rfl).trans rfl
theorem te_368_1293 : (pT M_368).find? (fun e => e.1 == 1293) = some (1293, .iconst 4, 0, 0) := (sk_63 1293 rfl).trans rfl
theorem te_368_1294 : (pT M_368).find? (fun e => e.1 == 1294) = some (1294, .iadd, 0, 0) := (sk_63 1294 rfl).trans rfl
theorem te_368_1295 : (pT M_368).find? (fun e => e.1 == 1295) = some (1295, .iaload, 0, 0) := (sk_63 1295 rfl).trans rfl
theorem te_368_1296 : (pT M_368).find? (fun e => e.1 == 1296) = some (1296, .aload_n 3, 0, 0) := (sk_63 1296 rfl).trans rfl
theorem te_368_1297 : (pT M_368).find? (fun e => e.1 == 1297) = some (1297, .invokestatic 261, 158, 8) := (sk_63 1297 rfl).trans rfl
theorem te_368_1300 : (pT M_368).find? (fun e => e.1 == 1300) = some (1300, .istore 5, 0, 0) := (sk_63 1300 rfl).trans rfl
theorem te_368_1302 : (pT M_368).find? (fun e => e.1 == 1302) = some (1302, .aload_n 2, 0, 0) := (sk_63 1302 rfl).trans rfl
theorem te_368_1303 : (pT M_368).find? (fun e => e.1 == 1303) = some (1303, .aload_n 0, 0, 0) := (sk_64 1303 rfl).trans rfl
theorem te_368_1304 : (pT M_368).find? (fun e => e.1 == 1304) = some (1304, .iload 4, 0, 0) := (sk_64 1304 rfl).trans rfl
theorem te_368_1306 : (pT M_368).find? (fun e => e.1 == 1306) = some (1306, .iconst 1, 0, 0) := (sk_64 1306 rfl).trans rfl
theorem te_368_1307 : (pT M_368).find? (fun e => e.1 == 1307) = some (1307, .iadd, 0, 0) := (sk_64 1307 rfl).trans rfl
theorem te_368_1308 : (pT M_368).find? (fun e => e.1 == 1308) = some (1308, .iaload, 0, 0) := (sk_64 1308 rfl).trans rfl
theorem te_368_1309 : (pT M_368).find? (fun e => e.1 == 1309) = some (1309, .aload_n 0, 0, 0) := (sk_64 1309 rfl).trans rfl
theorem te_368_1310 : (pT M_368).find? (fun e => e.1 == 1310) = some (1310, .iload 4, 0, 0) := (sk_64 1310 rfl).trans rfl
theorem te_368_1312 : (pT M_368).find? (fun e => e.1 == 1312) = some (1312, .iconst 2, 0, 0) := (sk_64 1312 rfl).trans rfl
theorem te_368_1313 : (pT M_368).find? (fun e => e.1 == 1313) = some (1313, .iadd, 0, 0) := (sk_64 1313 rfl).trans rfl
theorem te_368_1314 : (pT M_368).find? (fun e => e.1 == 1314) = some (1314, .iaload, 0, 0) := (sk_64 1314 rfl).trans rfl
theorem te_368_1315 : (pT M_368).find? (fun e => e.1 == 1315) = some (1315, .aload_n 0, 0, 0) := (sk_64 1315 rfl).trans rfl
theorem te_368_1316 : (pT M_368).find? (fun e => e.1 == 1316) = some (1316, .iload 4, 0, 0) := (sk_64 1316 rfl).trans rfl
theorem te_368_1318 : (pT M_368).find? (fun e => e.1 == 1318) = some (1318, .iconst 3, 0, 0) := (sk_65 1318 rfl).trans rfl
theorem te_368_1319 : (pT M_368).find? (fun e => e.1 == 1319) = some (1319, .iadd, 0, 0) := (sk_65 1319 rfl).trans rfl
theorem te_368_1320 : (pT M_368).find? (fun e => e.1 == 1320) = some (1320, .iaload, 0, 0) := (sk_65 1320 rfl).trans rfl
theorem te_368_1321 : (pT M_368).find? (fun e => e.1 == 1321) = some (1321, .aload_n 0, 0, 0) := (sk_65 1321 rfl).trans rfl
theorem te_368_1322 : (pT M_368).find? (fun e => e.1 == 1322) = some (1322, .iload 4, 0, 0) := (sk_65 1322 rfl).trans rfl
theorem te_368_1324 : (pT M_368).find? (fun e => e.1 == 1324) = some (1324, .iconst 4, 0, 0) := (sk_65 1324 rfl).trans rfl
theorem te_368_1325 : (pT M_368).find? (fun e => e.1 == 1325) = some (1325, .iadd, 0, 0) := (sk_65 1325 rfl).trans rfl
theorem te_368_1326 : (pT M_368).find? (fun e => e.1 == 1326) = some (1326, .iaload, 0, 0) := (sk_65 1326 rfl).trans rfl
theorem te_368_1327 : (pT M_368).find? (fun e => e.1 == 1327) = some (1327, .invokevirtual 263, 315, 0) := (sk_65 1327 rfl).trans rfl
theorem te_368_1330 : (pT M_368).find? (fun e => e.1 == 1330) = some (1330, .istore 6, 0, 0) := (sk_65 1330 rfl).trans rfl
theorem te_368_1332 : (pT M_368).find? (fun e => e.1 == 1332) = some (1332, .goto 984, 0, 0) := (sk_65 1332 rfl).trans rfl
theorem te_368_1335 : (pT M_368).find? (fun e => e.1 == 1335) = some (1335, .aload_n 1, 0, 0) := (sk_65 1335 rfl).trans rfl
theorem te_368_1336 : (pT M_368).find? (fun e => e.1 == 1336) = some (1336, .aload_n 0, 0, 0) := (sk_66 1336 rfl).trans rfl
theorem te_368_1337 : (pT M_368).find? (fun e => e.1 == 1337) = some (1337, .iload 4, 0, 0) := (sk_66 1337 rfl).trans rfl
theorem te_368_1339 : (pT M_368).find? (fun e => e.1 == 1339) = some (1339, .iconst 1, 0, 0) := (sk_66 1339 rfl).trans rfl
theorem te_368_1340 : (pT M_368).find? (fun e => e.1 == 1340) = some (1340, .iadd, 0, 0) := (sk_66 1340 rfl).trans rfl
theorem te_368_1341 : (pT M_368).find? (fun e => e.1 == 1341) = some (1341, .iaload, 0, 0) := (sk_66 1341 rfl).trans rfl
theorem te_368_1342 : (pT M_368).find? (fun e => e.1 == 1342) = some (1342, .aload_n 0, 0, 0) := (sk_66 1342 rfl).trans rfl
theorem te_368_1343 : (pT M_368).find? (fun e => e.1 == 1343) = some (1343, .iload 4, 0, 0) := (sk_66 1343 rfl).trans rfl
theorem te_368_1345 : (pT M_368).find? (fun e => e.1 == 1345) = some (1345, .iconst 2, 0, 0) := (sk_66 1345 rfl).trans rfl
theorem te_368_1346 : (pT M_368).find? (fun e => e.1 == 1346) = some (1346, .iadd, 0, 0) := (sk_66 1346 rfl).trans rfl
theorem te_368_1347 : (pT M_368).find? (fun e => e.1 == 1347) = some (1347, .iaload, 0, 0) := (sk_66 1347 rfl).trans rfl
theorem te_368_1348 : (pT M_368).find? (fun e => e.1 == 1348) = some (1348, .aload_n 0, 0, 0) := (sk_66 1348 rfl).trans rfl
theorem te_368_1349 : (pT M_368).find? (fun e => e.1 == 1349) = some (1349, .iload 4, 0, 0) := (sk_66 1349 rfl).trans rfl
theorem te_368_1351 : (pT M_368).find? (fun e => e.1 == 1351) = some (1351, .iconst 3, 0, 0) := (sk_67 1351 rfl).trans rfl
theorem te_368_1352 : (pT M_368).find? (fun e => e.1 == 1352) = some (1352, .iadd, 0, 0) := (sk_67 1352 rfl).trans rfl
theorem te_368_1353 : (pT M_368).find? (fun e => e.1 == 1353) = some (1353, .iaload, 0, 0) := (sk_67 1353 rfl).trans rfl
theorem te_368_1354 : (pT M_368).find? (fun e => e.1 == 1354) = some (1354, .aload_n 3, 0, 0) := (sk_67 1354 rfl).trans rfl
theorem te_368_1355 : (pT M_368).find? (fun e => e.1 == 1355) = some (1355, .invokestatic 264, 165, 8) := (sk_67 1355 rfl).trans rfl
theorem te_368_1358 : (pT M_368).find? (fun e => e.1 == 1358) = some (1358, .istore 5, 0, 0) := (sk_67 1358 rfl).trans rfl
theorem te_368_1360 : (pT M_368).find? (fun e => e.1 == 1360) = some (1360, .aload_n 2, 0, 0) := (sk_67 1360 rfl).trans rfl
theorem te_368_1361 : (pT M_368).find? (fun e => e.1 == 1361) = some (1361, .aload_n 0, 0, 0) := (sk_67 1361 rfl).trans rfl
theorem te_368_1362 : (pT M_368).find? (fun e => e.1 == 1362) = some (1362, .iload 4, 0, 0) := (sk_67 1362 rfl).trans rfl
theorem te_368_1364 : (pT M_368).find? (fun e => e.1 == 1364) = some (1364, .iconst 1, 0, 0) := (sk_67 1364 rfl).trans rfl
theorem te_368_1365 : (pT M_368).find? (fun e => e.1 == 1365) = some (1365, .iadd, 0, 0) := (sk_67 1365 rfl).trans rfl
theorem te_368_1366 : (pT M_368).find? (fun e => e.1 == 1366) = some (1366, .iaload, 0, 0) := (sk_67 1366 rfl).trans rfl
theorem te_368_1367 : (pT M_368).find? (fun e => e.1 == 1367) = some (1367, .aload_n 0, 0, 0) := (sk_68 1367 rfl).trans rfl
theorem te_368_1368 : (pT M_368).find? (fun e => e.1 == 1368) = some (1368, .iload 4, 0, 0) := (sk_68 1368 rfl).trans rfl
theorem te_368_1370 : (pT M_368).find? (fun e => e.1 == 1370) = some (1370, .iconst 2, 0, 0) := (sk_68 1370 rfl).trans rfl
theorem te_368_1371 : (pT M_368).find? (fun e => e.1 == 1371) = some (1371, .iadd, 0, 0) := (sk_68 1371 rfl).trans rfl
theorem te_368_1372 : (pT M_368).find? (fun e => e.1 == 1372) = some (1372, .iaload, 0, 0) := (sk_68 1372 rfl).trans rfl
theorem te_368_1373 : (pT M_368).find? (fun e => e.1 == 1373) = some (1373, .aload_n 0, 0, 0) := (sk_68 1373 rfl).trans rfl
theorem te_368_1374 : (pT M_368).find? (fun e => e.1 == 1374) = some (1374, .iload 4, 0, 0) := (sk_68 1374 rfl).trans rfl
theorem te_368_1376 : (pT M_368).find? (fun e => e.1 == 1376) = some (1376, .iconst 3, 0, 0) := (sk_68 1376 rfl).trans rfl
theorem te_368_1377 : (pT M_368).find? (fun e => e.1 == 1377) = some (1377, .iadd, 0, 0) := (sk_68 1377 rfl).trans rfl
theorem te_368_1378 : (pT M_368).find? (fun e => e.1 == 1378) = some (1378, .iaload, 0, 0) := (sk_68 1378 rfl).trans rfl
theorem te_368_1379 : (pT M_368).find? (fun e => e.1 == 1379) = some (1379, .invokevirtual 266, 325, 0) := (sk_68 1379 rfl).trans rfl
theorem te_368_1382 : (pT M_368).find? (fun e => e.1 == 1382) = some (1382, .istore 6, 0, 0) := (sk_68 1382 rfl).trans rfl
theorem te_368_1384 : (pT M_368).find? (fun e => e.1 == 1384) = some (1384, .goto 932, 0, 0) := (sk_69 1384 rfl).trans rfl
theorem te_368_1387 : (pT M_368).find? (fun e => e.1 == 1387) = some (1387, .aload_n 1, 0, 0) := (sk_69 1387 rfl).trans rfl
theorem te_368_1388 : (pT M_368).find? (fun e => e.1 == 1388) = some (1388, .aload_n 0, 0, 0) := (sk_69 1388 rfl).trans rfl
theorem te_368_1389 : (pT M_368).find? (fun e => e.1 == 1389) = some (1389, .iload 4, 0, 0) := (sk_69 1389 rfl).trans rfl
theorem te_368_1391 : (pT M_368).find? (fun e => e.1 == 1391) = some (1391, .iconst 1, 0, 0) := (sk_69 1391 rfl).trans rfl
theorem te_368_1392 : (pT M_368).find? (fun e => e.1 == 1392) = some (1392, .iadd, 0, 0) := (sk_69 1392 rfl).trans rfl
theorem te_368_1393 : (pT M_368).find? (fun e => e.1 == 1393) = some (1393, .iaload, 0, 0) := (sk_69 1393 rfl).trans rfl
theorem te_368_1394 : (pT M_368).find? (fun e => e.1 == 1394) = some (1394, .aload_n 0, 0, 0) := (sk_69 1394 rfl).trans rfl
theorem te_368_1395 : (pT M_368).find? (fun e => e.1 == 1395) = some (1395, .iload 4, 0, 0) := (sk_69 1395 rfl).trans rfl
theorem te_368_1397 : (pT M_368).find? (fun e => e.1 == 1397) = some (1397, .iconst 2, 0, 0) := (sk_69 1397 rfl).trans rfl
theorem te_368_1398 : (pT M_368).find? (fun e => e.1 == 1398) = some (1398, .iadd, 0, 0) := (sk_69 1398 rfl).trans rfl
theorem te_368_1399 : (pT M_368).find? (fun e => e.1 == 1399) = some (1399, .iaload, 0, 0) := (sk_69 1399 rfl).trans rfl
theorem te_368_1400 : (pT M_368).find? (fun e => e.1 == 1400) = some (1400, .aload_n 0, 0, 0) := (sk_70 1400 rfl).trans rfl
theorem te_368_1401 : (pT M_368).find? (fun e => e.1 == 1401) = some (1401, .iload 4, 0, 0) := (sk_70 1401 rfl).trans rfl
theorem te_368_1403 : (pT M_368).find? (fun e => e.1 == 1403) = some (1403, .iconst 3, 0, 0) := (sk_70 1403 rfl).trans rfl
theorem te_368_1404 : (pT M_368).find? (fun e => e.1 == 1404) = some (1404, .iadd, 0, 0) := (sk_70 1404 rfl).trans rfl
theorem te_368_1405 : (pT M_368).find? (fun e => e.1 == 1405) = some (1405, .iaload, 0, 0) := (sk_70 1405 rfl).trans rfl
theorem te_368_1406 : (pT M_368).find? (fun e => e.1 == 1406) = some (1406, .aload_n 3, 0, 0) := (sk_70 1406 rfl).trans rfl
theorem te_368_1407 : (pT M_368).find? (fun e => e.1 == 1407) = some (1407, .invokestatic 267, 168, 8) := (sk_70 1407 rfl).trans rfl
theorem te_368_1410 : (pT M_368).find? (fun e => e.1 == 1410) = some (1410, .istore 5, 0, 0) := (sk_70 1410 rfl).trans rfl
theorem te_368_1412 : (pT M_368).find? (fun e => e.1 == 1412) = some (1412, .aload_n 2, 0, 0) := (sk_70 1412 rfl).trans rfl
theorem te_368_1413 : (pT M_368).find? (fun e => e.1 == 1413) = some (1413, .aload_n 0, 0, 0) := (sk_70 1413 rfl).trans rfl
theorem te_368_1414 : (pT M_368).find? (fun e => e.1 == 1414) = some (1414, .iload 4, 0, 0) := (sk_70 1414 rfl).trans rfl
theorem te_368_1416 : (pT M_368).find? (fun e => e.1 == 1416) = some (1416, .iconst 1, 0, 0) := (sk_70 1416 rfl).trans rfl
theorem te_368_1417 : (pT M_368).find? (fun e => e.1 == 1417) = some (1417, .iadd, 0, 0) := (sk_71 1417 rfl).trans rfl
theorem te_368_1418 : (pT M_368).find? (fun e => e.1 == 1418) = some (1418, .iaload, 0, 0) := (sk_71 1418 rfl).trans rfl
theorem te_368_1419 : (pT M_368).find? (fun e => e.1 == 1419) = some (1419, .aload_n 0, 0, 0) := (sk_71 1419 rfl).trans rfl
theorem te_368_1420 : (pT M_368).find? (fun e => e.1 == 1420) = some (1420, .iload 4, 0, 0) := (sk_71 1420 rfl).trans rfl
theorem te_368_1422 : (pT M_368).find? (fun e => e.1 == 1422) = some (1422, .iconst 2, 0, 0) := (sk_71 1422 rfl).trans rfl
theorem te_368_1423 : (pT M_368).find? (fun e => e.1 == 1423) = some (1423, .iadd, 0, 0) := (sk_71 1423 rfl).trans rfl
theorem te_368_1424 : (pT M_368).find? (fun e => e.1 == 1424) = some (1424, .iaload, 0, 0) := (sk_71 1424 rfl).trans rfl
theorem te_368_1425 : (pT M_368).find? (fun e => e.1 == 1425) = some (1425, .aload_n 0, 0, 0) := (sk_71 1425 rfl).trans rfl
theorem te_368_1426 : (pT M_368).find? (fun e => e.1 == 1426) = some (1426, .iload 4, 0, 0) := (sk_71 1426 rfl).trans rfl
theorem te_368_1428 : (pT M_368).find? (fun e => e.1 == 1428) = some (1428, .iconst 3, 0, 0) := (sk_71 1428 rfl).trans rfl
theorem te_368_1429 : (pT M_368).find? (fun e => e.1 == 1429) = some (1429, .iadd, 0, 0) := (sk_71 1429 rfl).trans rfl
theorem te_368_1430 : (pT M_368).find? (fun e => e.1 == 1430) = some (1430, .iaload, 0, 0) := (sk_71 1430 rfl).trans rfl
theorem te_368_1431 : (pT M_368).find? (fun e => e.1 == 1431) = some (1431, .invokevirtual 269, 327, 0) := (sk_72 1431 rfl).trans rfl
theorem te_368_1434 : (pT M_368).find? (fun e => e.1 == 1434) = some (1434, .istore 6, 0, 0) := (sk_72 1434 rfl).trans rfl
theorem te_368_1436 : (pT M_368).find? (fun e => e.1 == 1436) = some (1436, .goto 880, 0, 0) := (sk_72 1436 rfl).trans rfl
theorem te_368_1439 : (pT M_368).find? (fun e => e.1 == 1439) = some (1439, .aload_n 1, 0, 0) := (sk_72 1439 rfl).trans rfl
theorem te_368_1440 : (pT M_368).find? (fun e => e.1 == 1440) = some (1440, .aload_n 0, 0, 0) := (sk_72 1440 rfl).trans rfl
theorem te_368_1441 : (pT M_368).find? (fun e => e.1 == 1441) = some (1441, .iload 4, 0, 0) := (sk_72 1441 rfl).trans rfl
theorem te_368_1443 : (pT M_368).find? (fun e => e.1 == 1443) = some (1443, .iconst 1, 0, 0) := (sk_72 1443 rfl).trans rfl
theorem te_368_1444 : (pT M_368).find? (fun e => e.1 == 1444) = some (1444, .iadd, 0, 0) := (sk_72 1444 rfl).trans rfl
theorem te_368_1445 : (pT M_368).find? (fun e => e.1 == 1445) = some (1445, .iaload, 0, 0) := (sk_72 1445 rfl).trans rfl
theorem te_368_1446 : (pT M_368).find? (fun e => e.1 == 1446) = some (1446, .aload_n 0, 0, 0) := (sk_72 1446 rfl).trans rfl
theorem te_368_1447 : (pT M_368).find? (fun e => e.1 == 1447) = some (1447, .iload 4, 0, 0) := (sk_72 1447 rfl).trans rfl
theorem te_368_1449 : (pT M_368).find? (fun e => e.1 == 1449) = some (1449, .iconst 2, 0, 0) := (sk_72 1449 rfl).trans rfl
theorem te_368_1450 : (pT M_368).find? (fun e => e.1 == 1450) = some (1450, .iadd, 0, 0) := (sk_73 1450 rfl).trans rfl
theorem te_368_1451 : (pT M_368).find? (fun e => e.1 == 1451) = some (1451, .iaload, 0, 0) := (sk_73 1451 rfl).trans rfl
theorem te_368_1452 : (pT M_368).find? (fun e => e.1 == 1452) = some (1452, .aload_n 0, 0, 0) := (sk_73 1452 rfl).trans rfl
theorem te_368_1453 : (pT M_368).find? (fun e => e.1 == 1453) = some (1453, .iload 4, 0, 0) := (sk_73 1453 rfl).trans rfl
theorem te_368_1455 : (pT M_368).find? (fun e => e.1 == 1455) = some (1455, .iconst 3, 0, 0) := (sk_73 1455 rfl).trans rfl
theorem te_368_1456 : (pT M_368).find? (fun e => e.1 == 1456) = some (1456, .iadd, 0, 0) := (sk_73 1456 rfl).trans rfl
theorem te_368_1457 : (pT M_368).find? (fun e => e.1 == 1457) = some (1457, .iaload, 0, 0) := (sk_73 1457 rfl).trans rfl
theorem te_368_1458 : (pT M_368).find? (fun e => e.1 == 1458) = some (1458, .aload_n 0, 0, 0) := (sk_73 1458 rfl).trans rfl
theorem te_368_1459 : (pT M_368).find? (fun e => e.1 == 1459) = some (1459, .iload 4, 0, 0) := (sk_73 1459 rfl).trans rfl
theorem te_368_1461 : (pT M_368).find? (fun e => e.1 == 1461) = some (1461, .iconst 4, 0, 0) := (sk_73 1461 rfl).trans rfl
theorem te_368_1462 : (pT M_368).find? (fun e => e.1 == 1462) = some (1462, .iadd, 0, 0) := (sk_73 1462 rfl).trans rfl
theorem te_368_1463 : (pT M_368).find? (fun e => e.1 == 1463) = some (1463, .iaload, 0, 0) := (sk_73 1463 rfl).trans rfl
theorem te_368_1464 : (pT M_368).find? (fun e => e.1 == 1464) = some (1464, .aload_n 3, 0, 0) := (sk_74 1464 rfl).trans rfl
theorem te_368_1465 : (pT M_368).find? (fun e => e.1 == 1465) = some (1465, .invokestatic 270, 170, 8) := (sk_74 1465 rfl).trans rfl
theorem te_368_1468 : (pT M_368).find? (fun e => e.1 == 1468) = some (1468, .istore 5, 0, 0) := (sk_74 1468 rfl).trans rfl
theorem te_368_1470 : (pT M_368).find? (fun e => e.1 == 1470) = some (1470, .aload_n 2, 0, 0) := (sk_74 1470 rfl).trans rfl
theorem te_368_1471 : (pT M_368).find? (fun e => e.1 == 1471) = some (1471, .aload_n 0, 0, 0) := (sk_74 1471 rfl).trans rfl
theorem te_368_1472 : (pT M_368).find? (fun e => e.1 == 1472) = some (1472, .iload 4, 0, 0) := (sk_74 1472 rfl).trans rfl
theorem te_368_1474 : (pT M_368).find? (fun e => e.1 == 1474) = some (1474, .iconst 1, 0, 0) := (sk_74 1474 rfl).trans rfl
theorem te_368_1475 : (pT M_368).find? (fun e => e.1 == 1475) = some (1475, .iadd, 0, 0) := (sk_74 1475 rfl).trans rfl
theorem te_368_1476 : (pT M_368).find? (fun e => e.1 == 1476) = some (1476, .iaload, 0, 0) := (sk_74 1476 rfl).trans rfl
theorem te_368_1477 : (pT M_368).find? (fun e => e.1 == 1477) = some (1477, .aload_n 0, 0, 0) := (sk_74 1477 rfl).trans rfl
theorem te_368_1478 : (pT M_368).find? (fun e => e.1 == 1478) = some (1478, .iload 4, 0, 0) := (sk_74 1478 rfl).trans rfl
theorem te_368_1480 : (pT M_368).find? (fun e => e.1 == 1480) = some (1480, .iconst 2, 0, 0) := (sk_74 1480 rfl).trans rfl
theorem te_368_1481 : (pT M_368).find? (fun e => e.1 == 1481) = some (1481, .iadd, 0, 0) := (sk_75 1481 rfl).trans rfl
theorem te_368_1482 : (pT M_368).find? (fun e => e.1 == 1482) = some (1482, .iaload, 0, 0) := (sk_75 1482 rfl).trans rfl
theorem te_368_1483 : (pT M_368).find? (fun e => e.1 == 1483) = some (1483, .aload_n 0, 0, 0) := (sk_75 1483 rfl).trans rfl
theorem te_368_1484 : (pT M_368).find? (fun e => e.1 == 1484) = some (1484, .iload 4, 0, 0) := (sk_75 1484 rfl).trans rfl
theorem te_368_1486 : (pT M_368).find? (fun e => e.1 == 1486) = some (1486, .iconst 3, 0, 0) := (sk_75 1486 rfl).trans rfl
theorem te_368_1487 : (pT M_368).find? (fun e => e.1 == 1487) = some (1487, .iadd, 0, 0) := (sk_75 1487 rfl).trans rfl
theorem te_368_1488 : (pT M_368).find? (fun e => e.1 == 1488) = some (1488, .iaload, 0, 0) := (sk_75 1488 rfl).trans rfl
theorem te_368_1489 : (pT M_368).find? (fun e => e.1 == 1489) = some (1489, .aload_n 0, 0, 0) := (sk_75 1489 rfl).trans rfl
theorem te_368_1490 : (pT M_368).find? (fun e => e.1 == 1490) = some (1490, .iload 4, 0, 0) := (sk_75 1490 rfl).trans rfl
theorem te_368_1492 : (pT M_368).find? (fun e => e.1 == 1492) = some (1492, .iconst 4, 0, 0) := (sk_75 1492 rfl).trans rfl
theorem te_368_1493 : (pT M_368).find? (fun e => e.1 == 1493) = some (1493, .iadd, 0, 0) := (sk_75 1493 rfl).trans rfl
theorem te_368_1494 : (pT M_368).find? (fun e => e.1 == 1494) = some (1494, .iaload, 0, 0) := (sk_75 1494 rfl).trans rfl
theorem te_368_1495 : (pT M_368).find? (fun e => e.1 == 1495) = some (1495, .invokevirtual 272, 331, 0) := (sk_76 1495 rfl).trans rfl
theorem te_368_1498 : (pT M_368).find? (fun e => e.1 == 1498) = some (1498, .istore 6, 0, 0) := (sk_76 1498 rfl).trans rfl
theorem te_368_1500 : (pT M_368).find? (fun e => e.1 == 1500) = some (1500, .goto 816, 0, 0) := (sk_76 1500 rfl).trans rfl
theorem te_368_1503 : (pT M_368).find? (fun e => e.1 == 1503) = some (1503, .aload_n 1, 0, 0) := (sk_76 1503 rfl).trans rfl
theorem te_368_1504 : (pT M_368).find? (fun e => e.1 == 1504) = some (1504, .aload_n 0, 0, 0) := (sk_76 1504 rfl).trans rfl
theorem te_368_1505 : (pT M_368).find? (fun e => e.1 == 1505) = some (1505, .iload 4, 0, 0) := (sk_76 1505 rfl).trans rfl
theorem te_368_1507 : (pT M_368).find? (fun e => e.1 == 1507) = some (1507, .iconst 1, 0, 0) := (sk_76 1507 rfl).trans rfl
theorem te_368_1508 : (pT M_368).find? (fun e => e.1 == 1508) = some (1508, .iadd, 0, 0) := (sk_76 1508 rfl).trans rfl
theorem te_368_1509 : (pT M_368).find? (fun e => e.1 == 1509) = some (1509, .iaload, 0, 0) := (sk_76 1509 rfl).trans rfl
theorem te_368_1510 : (pT M_368).find? (fun e => e.1 == 1510) = some (1510, .aload_n 0, 0, 0) := (sk_76 1510 rfl).trans rfl
theorem te_368_1511 : (pT M_368).find? (fun e => e.1 == 1511) = some (1511, .iload 4, 0, 0) := (sk_76 1511 rfl).trans rfl
theorem te_368_1513 : (pT M_368).find? (fun e => e.1 == 1513) = some (1513, .iconst 2, 0, 0) := (sk_76 1513 rfl).trans rfl
theorem te_368_1514 : (pT M_368).find? (fun e => e.1 == 1514) = some (1514, .iadd, 0, 0) := (sk_77 1514 rfl).trans rfl
theorem te_368_1515 : (pT M_368).find? (fun e => e.1 == 1515) = some (1515, .iaload, 0, 0) := (sk_77 1515 rfl).trans rfl
theorem te_368_1516 : (pT M_368).find? (fun e => e.1 == 1516) = some (1516, .ifCond .eq 7, 0, 0) := (sk_77 1516 rfl).trans rfl
theorem te_368_1519 : (pT M_368).find? (fun e => e.1 == 1519) = some (1519, .iconst 1, 0, 0) := (sk_77 1519 rfl).trans rfl
theorem te_368_1520 : (pT M_368).find? (fun e => e.1 == 1520) = some (1520, .goto 4, 0, 0) := (sk_77 1520 rfl).trans rfl
theorem te_368_1523 : (pT M_368).find? (fun e => e.1 == 1523) = some (1523, .iconst 0, 0, 0) := (sk_77 1523 rfl).trans rfl
theorem te_368_1524 : (pT M_368).find? (fun e => e.1 == 1524) = some (1524, .aload_n 3, 0, 0) := (sk_77 1524 rfl).trans rfl
theorem te_368_1525 : (pT M_368).find? (fun e => e.1 == 1525) = some (1525, .invokestatic 273, 172, 8) := (sk_77 1525 rfl).trans rfl
theorem te_368_1528 : (pT M_368).find? (fun e => e.1 == 1528) = some (1528, .istore 5, 0, 0) := (sk_77 1528 rfl).trans rfl
theorem te_368_1530 : (pT M_368).find? (fun e => e.1 == 1530) = some (1530, .aload_n 2, 0, 0) := (sk_77 1530 rfl).trans rfl
theorem te_368_1531 : (pT M_368).find? (fun e => e.1 == 1531) = some (1531, .aload_n 0, 0, 0) := (sk_77 1531 rfl).trans rfl
theorem te_368_1532 : (pT M_368).find? (fun e => e.1 == 1532) = some (1532, .iload 4, 0, 0) := (sk_77 1532 rfl).trans rfl
theorem te_368_1534 : (pT M_368).find? (fun e => e.1 == 1534) = some (1534, .iconst 1, 0, 0) := (sk_78 1534 rfl).trans rfl
theorem te_368_1535 : (pT M_368).find? (fun e => e.1 == 1535) = some (1535, .iadd, 0, 0) := (sk_78 1535 rfl).trans rfl
theorem te_368_1536 : (pT M_368).find? (fun e => e.1 == 1536) = some (1536, .iaload, 0, 0) := (sk_78 1536 rfl).trans rfl
theorem te_368_1537 : (pT M_368).find? (fun e => e.1 == 1537) = some (1537, .aload_n 0, 0, 0) := (sk_78 1537 rfl).trans rfl
theorem te_368_1538 : (pT M_368).find? (fun e => e.1 == 1538) = some (1538, .iload 4, 0, 0) := (sk_78 1538 rfl).trans rfl
theorem te_368_1540 : (pT M_368).find? (fun e => e.1 == 1540) = some (1540, .iconst 2, 0, 0) := (sk_78 1540 rfl).trans rfl
theorem te_368_1541 : (pT M_368).find? (fun e => e.1 == 1541) = some (1541, .iadd, 0, 0) := (sk_78 1541 rfl).trans rfl
theorem te_368_1542 : (pT M_368).find? (fun e => e.1 == 1542) = some (1542, .iaload, 0, 0) := (sk_78 1542 rfl).trans rfl
theorem te_368_1543 : (pT M_368).find? (fun e => e.1 == 1543) = some (1543, .ifCond .eq 7, 0, 0) := (sk_78 1543 rfl).trans rfl
theorem te_368_1546 : (pT M_368).find? (fun e => e.1 == 1546) = some (1546, .iconst 1, 0, 0) := (sk_78 1546 rfl).trans rfl
theorem te_368_1547 : (pT M_368).find? (fun e => e.1 == 1547) = some (1547, .goto 4, 0, 0) := (sk_78 1547 rfl).trans rfl
theorem te_368_1550 : (pT M_368).find? (fun e => e.1 == 1550) = some (1550, .iconst 0, 0, 0) := (sk_78 1550 rfl).trans rfl
theorem te_368_1551 : (pT M_368).find? (fun e => e.1 == 1551) = some (1551, .invokevirtual 276, 332, 0) := (sk_79 1551 rfl).trans rfl
theorem te_368_1554 : (pT M_368).find? (fun e => e.1 == 1554) = some (1554, .istore 6, 0, 0) := (sk_79 1554 rfl).trans rfl
theorem te_368_1556 : (pT M_368).find? (fun e => e.1 == 1556) = some (1556, .goto 760, 0, 0) := (sk_79 1556 rfl).trans rfl
theorem te_368_1559 : (pT M_368).find? (fun e => e.1 == 1559) = some (1559, .aload_n 1, 0, 0) := (sk_79 1559 rfl).trans rfl
theorem te_368_1560 : (pT M_368).find? (fun e => e.1 == 1560) = some (1560, .aload_n 0, 0, 0) := (sk_79 1560 rfl).trans rfl
theorem te_368_1561 : (pT M_368).find? (fun e => e.1 == 1561) = some (1561, .iload 4, 0, 0) := (sk_79 1561 rfl).trans rfl
theorem te_368_1563 : (pT M_368).find? (fun e => e.1 == 1563) = some (1563, .iconst 1, 0, 0) := (sk_79 1563 rfl).trans rfl
theorem te_368_1564 : (pT M_368).find? (fun e => e.1 == 1564) = some (1564, .iadd, 0, 0) := (sk_79 1564 rfl).trans rfl
theorem te_368_1565 : (pT M_368).find? (fun e => e.1 == 1565) = some (1565, .iaload, 0, 0) := (sk_79 1565 rfl).trans rfl
theorem te_368_1566 : (pT M_368).find? (fun e => e.1 == 1566) = some (1566, .aload_n 0, 0, 0) := (sk_79 1566 rfl).trans rfl
theorem te_368_1567 : (pT M_368).find? (fun e => e.1 == 1567) = some (1567, .iload 4, 0, 0) := (sk_79 1567 rfl).trans rfl
theorem te_368_1569 : (pT M_368).find? (fun e => e.1 == 1569) = some (1569, .iconst 2, 0, 0) := (sk_79 1569 rfl).trans rfl
theorem te_368_1570 : (pT M_368).find? (fun e => e.1 == 1570) = some (1570, .iadd, 0, 0) := (sk_80 1570 rfl).trans rfl
theorem te_368_1571 : (pT M_368).find? (fun e => e.1 == 1571) = some (1571, .iaload, 0, 0) := (sk_80 1571 rfl).trans rfl
theorem te_368_1572 : (pT M_368).find? (fun e => e.1 == 1572) = some (1572, .aload_n 0, 0, 0) := (sk_80 1572 rfl).trans rfl
theorem te_368_1573 : (pT M_368).find? (fun e => e.1 == 1573) = some (1573, .iload 4, 0, 0) := (sk_80 1573 rfl).trans rfl
theorem te_368_1575 : (pT M_368).find? (fun e => e.1 == 1575) = some (1575, .iconst 3, 0, 0) := (sk_80 1575 rfl).trans rfl
theorem te_368_1576 : (pT M_368).find? (fun e => e.1 == 1576) = some (1576, .iadd, 0, 0) := (sk_80 1576 rfl).trans rfl
theorem te_368_1577 : (pT M_368).find? (fun e => e.1 == 1577) = some (1577, .iaload, 0, 0) := (sk_80 1577 rfl).trans rfl
theorem te_368_1578 : (pT M_368).find? (fun e => e.1 == 1578) = some (1578, .ifCond .eq 7, 0, 0) := (sk_80 1578 rfl).trans rfl
theorem te_368_1581 : (pT M_368).find? (fun e => e.1 == 1581) = some (1581, .iconst 1, 0, 0) := (sk_80 1581 rfl).trans rfl
theorem te_368_1582 : (pT M_368).find? (fun e => e.1 == 1582) = some (1582, .goto 4, 0, 0) := (sk_80 1582 rfl).trans rfl
theorem te_368_1585 : (pT M_368).find? (fun e => e.1 == 1585) = some (1585, .iconst 0, 0, 0) := (sk_80 1585 rfl).trans rfl
theorem te_368_1586 : (pT M_368).find? (fun e => e.1 == 1586) = some (1586, .aload_n 3, 0, 0) := (sk_80 1586 rfl).trans rfl
theorem te_368_1587 : (pT M_368).find? (fun e => e.1 == 1587) = some (1587, .invokestatic 277, 174, 8) := (sk_81 1587 rfl).trans rfl
theorem te_368_1590 : (pT M_368).find? (fun e => e.1 == 1590) = some (1590, .istore 5, 0, 0) := (sk_81 1590 rfl).trans rfl
theorem te_368_1592 : (pT M_368).find? (fun e => e.1 == 1592) = some (1592, .aload_n 2, 0, 0) := (sk_81 1592 rfl).trans rfl
theorem te_368_1593 : (pT M_368).find? (fun e => e.1 == 1593) = some (1593, .aload_n 0, 0, 0) := (sk_81 1593 rfl).trans rfl
theorem te_368_1594 : (pT M_368).find? (fun e => e.1 == 1594) = some (1594, .iload 4, 0, 0) := (sk_81 1594 rfl).trans rfl
theorem te_368_1596 : (pT M_368).find? (fun e => e.1 == 1596) = some (1596, .iconst 1, 0, 0) := (sk_81 1596 rfl).trans rfl
theorem te_368_1597 : (pT M_368).find? (fun e => e.1 == 1597) = some (1597, .iadd, 0, 0) := (sk_81 1597 rfl).trans rfl
theorem te_368_1598 : (pT M_368).find? (fun e => e.1 == 1598) = some (1598, .iaload, 0, 0) := (sk_81 1598 rfl).trans rfl
theorem te_368_1599 : (pT M_368).find? (fun e => e.1 == 1599) = some (1599, .aload_n 0, 0, 0) := (sk_81 1599 rfl).trans rfl
theorem te_368_1600 : (pT M_368).find? (fun e => e.1 == 1600) = some (1600, .iload 4, 0, 0) := (sk_81 1600 rfl).trans rfl
theorem te_368_1602 : (pT M_368).find? (fun e => e.1 == 1602) = some (1602, .iconst 2, 0, 0) := (sk_81 1602 rfl).trans rfl
theorem te_368_1603 : (pT M_368).find? (fun e => e.1 == 1603) = some (1603, .iadd, 0, 0) := (sk_81 1603 rfl).trans rfl
theorem te_368_1604 : (pT M_368).find? (fun e => e.1 == 1604) = some (1604, .iaload, 0, 0) := (sk_82 1604 rfl).trans rfl
theorem te_368_1605 : (pT M_368).find? (fun e => e.1 == 1605) = some (1605, .aload_n 0, 0, 0) := (sk_82 1605 rfl).trans rfl
theorem te_368_1606 : (pT M_368).find? (fun e => e.1 == 1606) = some (1606, .iload 4, 0, 0) := (sk_82 1606 rfl).trans rfl
theorem te_368_1608 : (pT M_368).find? (fun e => e.1 == 1608) = some (1608, .iconst 3, 0, 0) := (sk_82 1608 rfl).trans rfl
theorem te_368_1609 : (pT M_368).find? (fun e => e.1 == 1609) = some (1609, .iadd, 0, 0) := (sk_82 1609 rfl).trans rfl
theorem te_368_1610 : (pT M_368).find? (fun e => e.1 == 1610) = some (1610, .iaload, 0, 0) := (sk_82 1610 rfl).trans rfl
theorem te_368_1611 : (pT M_368).find? (fun e => e.1 == 1611) = some (1611, .ifCond .eq 7, 0, 0) := (sk_82 1611 rfl).trans rfl
theorem te_368_1614 : (pT M_368).find? (fun e => e.1 == 1614) = some (1614, .iconst 1, 0, 0) := (sk_82 1614 rfl).trans rfl
theorem te_368_1615 : (pT M_368).find? (fun e => e.1 == 1615) = some (1615, .goto 4, 0, 0) := (sk_82 1615 rfl).trans rfl
theorem te_368_1618 : (pT M_368).find? (fun e => e.1 == 1618) = some (1618, .iconst 0, 0, 0) := (sk_82 1618 rfl).trans rfl
theorem te_368_1619 : (pT M_368).find? (fun e => e.1 == 1619) = some (1619, .invokevirtual 280, 333, 0) := (sk_82 1619 rfl).trans rfl
theorem te_368_1622 : (pT M_368).find? (fun e => e.1 == 1622) = some (1622, .istore 6, 0, 0) := (sk_82 1622 rfl).trans rfl
theorem te_368_1624 : (pT M_368).find? (fun e => e.1 == 1624) = some (1624, .goto 692, 0, 0) := (sk_83 1624 rfl).trans rfl
theorem te_368_1627 : (pT M_368).find? (fun e => e.1 == 1627) = some (1627, .aload_n 1, 0, 0) := (sk_83 1627 rfl).trans rfl
theorem te_368_1628 : (pT M_368).find? (fun e => e.1 == 1628) = some (1628, .aload_n 0, 0, 0) := (sk_83 1628 rfl).trans rfl
theorem te_368_1629 : (pT M_368).find? (fun e => e.1 == 1629) = some (1629, .iload 4, 0, 0) := (sk_83 1629 rfl).trans rfl
theorem te_368_1631 : (pT M_368).find? (fun e => e.1 == 1631) = some (1631, .iconst 1, 0, 0) := (sk_83 1631 rfl).trans rfl
theorem te_368_1632 : (pT M_368).find? (fun e => e.1 == 1632) = some (1632, .iadd, 0, 0) := (sk_83 1632 rfl).trans rfl
theorem te_368_1633 : (pT M_368).find? (fun e => e.1 == 1633) = some (1633, .iaload, 0, 0) := (sk_83 1633 rfl).trans rfl
theorem te_368_1634 : (pT M_368).find? (fun e => e.1 == 1634) = some (1634, .aload_n 3, 0, 0) := (sk_83 1634 rfl).trans rfl
theorem te_368_1635 : (pT M_368).find? (fun e => e.1 == 1635) = some (1635, .invokestatic 281, 177, 8) := (sk_83 1635 rfl).trans rfl
theorem te_368_1638 : (pT M_368).find? (fun e => e.1 == 1638) = some (1638, .istore 5, 0, 0) := (sk_83 1638 rfl).trans rfl
theorem te_368_1640 : (pT M_368).find? (fun e => e.1 == 1640) = some (1640, .aload_n 2, 0, 0) := (sk_83 1640 rfl).trans rfl
theorem te_368_1641 : (pT M_368).find? (fun e => e.1 == 1641) = some (1641, .aload_n 0, 0, 0) := (sk_83 1641 rfl).trans rfl
theorem te_368_1642 : (pT M_368).find? (fun e => e.1 == 1642) = some (1642, .iload 4, 0, 0) := (sk_84 1642 rfl).trans rfl
theorem te_368_1644 : (pT M_368).find? (fun e => e.1 == 1644) = some (1644, .iconst 1, 0, 0) := (sk_84 1644 rfl).trans rfl
theorem te_368_1645 : (pT M_368).find? (fun e => e.1 == 1645) = some (1645, .iadd, 0, 0) := (sk_84 1645 rfl).trans rfl
theorem te_368_1646 : (pT M_368).find? (fun e => e.1 == 1646) = some (1646, .iaload, 0, 0) := (sk_84 1646 rfl).trans rfl
theorem te_368_1647 : (pT M_368).find? (fun e => e.1 == 1647) = some (1647, .invokevirtual 283, 337, 0) := (sk_84 1647 rfl).trans rfl
theorem te_368_1650 : (pT M_368).find? (fun e => e.1 == 1650) = some (1650, .istore 6, 0, 0) := (sk_84 1650 rfl).trans rfl
theorem te_368_1652 : (pT M_368).find? (fun e => e.1 == 1652) = some (1652, .goto 664, 0, 0) := (sk_84 1652 rfl).trans rfl
theorem te_368_1655 : (pT M_368).find? (fun e => e.1 == 1655) = some (1655, .aload_n 1, 0, 0) := (sk_84 1655 rfl).trans rfl
theorem te_368_1656 : (pT M_368).find? (fun e => e.1 == 1656) = some (1656, .aload_n 0, 0, 0) := (sk_84 1656 rfl).trans rfl
theorem te_368_1657 : (pT M_368).find? (fun e => e.1 == 1657) = some (1657, .iload 4, 0, 0) := (sk_84 1657 rfl).trans rfl
theorem te_368_1659 : (pT M_368).find? (fun e => e.1 == 1659) = some (1659, .iconst 1, 0, 0) := (sk_84 1659 rfl).trans rfl
theorem te_368_1660 : (pT M_368).find? (fun e => e.1 == 1660) = some (1660, .iadd, 0, 0) := (sk_84 1660 rfl).trans rfl
theorem te_368_1661 : (pT M_368).find? (fun e => e.1 == 1661) = some (1661, .iaload, 0, 0) := (sk_85 1661 rfl).trans rfl
theorem te_368_1662 : (pT M_368).find? (fun e => e.1 == 1662) = some (1662, .aload_n 0, 0, 0) := (sk_85 1662 rfl).trans rfl
theorem te_368_1663 : (pT M_368).find? (fun e => e.1 == 1663) = some (1663, .iload 4, 0, 0) := (sk_85 1663 rfl).trans rfl
theorem te_368_1665 : (pT M_368).find? (fun e => e.1 == 1665) = some (1665, .iconst 2, 0, 0) := (sk_85 1665 rfl).trans rfl
theorem te_368_1666 : (pT M_368).find? (fun e => e.1 == 1666) = some (1666, .iadd, 0, 0) := (sk_85 1666 rfl).trans rfl
theorem te_368_1667 : (pT M_368).find? (fun e => e.1 == 1667) = some (1667, .iaload, 0, 0) := (sk_85 1667 rfl).trans rfl
theorem te_368_1668 : (pT M_368).find? (fun e => e.1 == 1668) = some (1668, .aload_n 0, 0, 0) := (sk_85 1668 rfl).trans rfl
theorem te_368_1669 : (pT M_368).find? (fun e => e.1 == 1669) = some (1669, .iload 4, 0, 0) := (sk_85 1669 rfl).trans rfl
theorem te_368_1671 : (pT M_368).find? (fun e => e.1 == 1671) = some (1671, .iconst 3, 0, 0) := (sk_85 1671 rfl).trans rfl
theorem te_368_1672 : (pT M_368).find? (fun e => e.1 == 1672) = some (1672, .iadd, 0, 0) := (sk_85 1672 rfl).trans rfl
theorem te_368_1673 : (pT M_368).find? (fun e => e.1 == 1673) = some (1673, .iaload, 0, 0) := (sk_85 1673 rfl).trans rfl
theorem te_368_1674 : (pT M_368).find? (fun e => e.1 == 1674) = some (1674, .aload_n 3, 0, 0) := (sk_85 1674 rfl).trans rfl
theorem te_368_1675 : (pT M_368).find? (fun e => e.1 == 1675) = some (1675, .invokestatic 284, 182, 8) := (sk_86 1675 rfl).trans rfl
theorem te_368_1678 : (pT M_368).find? (fun e => e.1 == 1678) = some (1678, .istore 5, 0, 0) := (sk_86 1678 rfl).trans rfl
theorem te_368_1680 : (pT M_368).find? (fun e => e.1 == 1680) = some (1680, .aload_n 2, 0, 0) := (sk_86 1680 rfl).trans rfl
theorem te_368_1681 : (pT M_368).find? (fun e => e.1 == 1681) = some (1681, .aload_n 0, 0, 0) := (sk_86 1681 rfl).trans rfl
theorem te_368_1682 : (pT M_368).find? (fun e => e.1 == 1682) = some (1682, .iload 4, 0, 0) := (sk_86 1682 rfl).trans rfl
theorem te_368_1684 : (pT M_368).find? (fun e => e.1 == 1684) = some (1684, .iconst 1, 0, 0) := (sk_86 1684 rfl).trans rfl
theorem te_368_1685 : (pT M_368).find? (fun e => e.1 == 1685) = some (1685, .iadd, 0, 0) := (sk_86 1685 rfl).trans rfl
theorem te_368_1686 : (pT M_368).find? (fun e => e.1 == 1686) = some (1686, .iaload, 0, 0) := (sk_86 1686 rfl).trans rfl
theorem te_368_1687 : (pT M_368).find? (fun e => e.1 == 1687) = some (1687, .aload_n 0, 0, 0) := (sk_86 1687 rfl).trans rfl
theorem te_368_1688 : (pT M_368).find? (fun e => e.1 == 1688) = some (1688, .iload 4, 0, 0) := (sk_86 1688 rfl).trans rfl
theorem te_368_1690 : (pT M_368).find? (fun e => e.1 == 1690) = some (1690, .iconst 2, 0, 0) := (sk_86 1690 rfl).trans rfl
theorem te_368_1691 : (pT M_368).find? (fun e => e.1 == 1691) = some (1691, .iadd, 0, 0) := (sk_86 1691 rfl).trans rfl
theorem te_368_1692 : (pT M_368).find? (fun e => e.1 == 1692) = some (1692, .iaload, 0, 0) := (sk_87 1692 rfl).trans rfl
theorem te_368_1693 : (pT M_368).find? (fun e => e.1 == 1693) = some (1693, .aload_n 0, 0, 0) := (sk_87 1693 rfl).trans rfl
theorem te_368_1694 : (pT M_368).find? (fun e => e.1 == 1694) = some (1694, .iload 4, 0, 0) := (sk_87 1694 rfl).trans rfl
theorem te_368_1696 : (pT M_368).find? (fun e => e.1 == 1696) = some (1696, .iconst 3, 0, 0) := (sk_87 1696 rfl).trans rfl
theorem te_368_1697 : (pT M_368).find? (fun e => e.1 == 1697) = some (1697, .iadd, 0, 0) := (sk_87 1697 rfl).trans rfl
theorem te_368_1698 : (pT M_368).find? (fun e => e.1 == 1698) = some (1698, .iaload, 0, 0) := (sk_87 1698 rfl).trans rfl
theorem te_368_1699 : (pT M_368).find? (fun e => e.1 == 1699) = some (1699, .invokevirtual 286, 342, 0) := (sk_87 1699 rfl).trans rfl
theorem te_368_1702 : (pT M_368).find? (fun e => e.1 == 1702) = some (1702, .istore 6, 0, 0) := (sk_87 1702 rfl).trans rfl
theorem te_368_1704 : (pT M_368).find? (fun e => e.1 == 1704) = some (1704, .goto 612, 0, 0) := (sk_87 1704 rfl).trans rfl
theorem te_368_1707 : (pT M_368).find? (fun e => e.1 == 1707) = some (1707, .aload_n 1, 0, 0) := (sk_87 1707 rfl).trans rfl
theorem te_368_1708 : (pT M_368).find? (fun e => e.1 == 1708) = some (1708, .aload_n 0, 0, 0) := (sk_87 1708 rfl).trans rfl
theorem te_368_1709 : (pT M_368).find? (fun e => e.1 == 1709) = some (1709, .iload 4, 0, 0) := (sk_87 1709 rfl).trans rfl
theorem te_368_1711 : (pT M_368).find? (fun e => e.1 == 1711) = some (1711, .iconst 1, 0, 0) := (sk_88 1711 rfl).trans rfl
theorem te_368_1712 : (pT M_368).find? (fun e => e.1 == 1712) = some (1712, .iadd, 0, 0) := (sk_88 1712 rfl).trans rfl
theorem te_368_1713 : (pT M_368).find? (fun e => e.1 == 1713) = some (1713, .iaload, 0, 0) := (sk_88 1713 rfl).trans rfl
theorem te_368_1714 : (pT M_368).find? (fun e => e.1 == 1714) = some (1714, .aload_n 0, 0, 0) := (sk_88 1714 rfl).trans rfl
theorem te_368_1715 : (pT M_368).find? (fun e => e.1 == 1715) = some (1715, .iload 4, 0, 0) := (sk_88 1715 rfl).trans rfl
theorem te_368_1717 : (pT M_368).find? (fun e => e.1 == 1717) = some (1717, .iconst 2, 0, 0) := (sk_88 1717 rfl).trans rfl
theorem te_368_1718 : (pT M_368).find? (fun e => e.1 == 1718) = some (1718, .iadd, 0, 0) := (sk_88 1718 rfl).trans rfl
theorem te_368_1719 : (pT M_368).find? (fun e => e.1 == 1719) = some (1719, .iaload, 0, 0) := (sk_88 1719 rfl).trans rfl
theorem te_368_1720 : (pT M_368).find? (fun e => e.1 == 1720) = some (1720, .aload_n 0, 0, 0) := (sk_88 1720 rfl).trans rfl
theorem te_368_1721 : (pT M_368).find? (fun e => e.1 == 1721) = some (1721, .iload 4, 0, 0) := (sk_88 1721 rfl).trans rfl
theorem te_368_1723 : (pT M_368).find? (fun e => e.1 == 1723) = some (1723, .iconst 3, 0, 0) := (sk_88 1723 rfl).trans rfl
theorem te_368_1724 : (pT M_368).find? (fun e => e.1 == 1724) = some (1724, .iadd, 0, 0) := (sk_88 1724 rfl).trans rfl
theorem te_368_1725 : (pT M_368).find? (fun e => e.1 == 1725) = some (1725, .iaload, 0, 0) := (sk_89 1725 rfl).trans rfl
theorem te_368_1726 : (pT M_368).find? (fun e => e.1 == 1726) = some (1726, .aload_n 0, 0, 0) := (sk_89 1726 rfl).trans rfl
theorem te_368_1727 : (pT M_368).find? (fun e => e.1 == 1727) = some (1727, .iload 4, 0, 0) := (sk_89 1727 rfl).trans rfl
theorem te_368_1729 : (pT M_368).find? (fun e => e.1 == 1729) = some (1729, .iconst 4, 0, 0) := (sk_89 1729 rfl).trans rfl
theorem te_368_1730 : (pT M_368).find? (fun e => e.1 == 1730) = some (1730, .iadd, 0, 0) := (sk_89 1730 rfl).trans rfl
theorem te_368_1731 : (pT M_368).find? (fun e => e.1 == 1731) = some (1731, .iaload, 0, 0) := (sk_89 1731 rfl).trans rfl
theorem te_368_1732 : (pT M_368).find? (fun e => e.1 == 1732) = some (1732, .aload_n 0, 0, 0) := (sk_89 1732 rfl).trans rfl
theorem te_368_1733 : (pT M_368).find? (fun e => e.1 == 1733) = some (1733, .iload 4, 0, 0) := (sk_89 1733 rfl).trans rfl
theorem te_368_1735 : (pT M_368).find? (fun e => e.1 == 1735) = some (1735, .iconst 5, 0, 0) := (sk_89 1735 rfl).trans rfl
theorem te_368_1736 : (pT M_368).find? (fun e => e.1 == 1736) = some (1736, .iadd, 0, 0) := (sk_89 1736 rfl).trans rfl
theorem te_368_1737 : (pT M_368).find? (fun e => e.1 == 1737) = some (1737, .iaload, 0, 0) := (sk_89 1737 rfl).trans rfl
theorem te_368_1738 : (pT M_368).find? (fun e => e.1 == 1738) = some (1738, .aload_n 3, 0, 0) := (sk_89 1738 rfl).trans rfl
theorem te_368_1739 : (pT M_368).find? (fun e => e.1 == 1739) = some (1739, .invokestatic 287, 184, 8) := (sk_90 1739 rfl).trans rfl
theorem te_368_1742 : (pT M_368).find? (fun e => e.1 == 1742) = some (1742, .istore 5, 0, 0) := (sk_90 1742 rfl).trans rfl
theorem te_368_1744 : (pT M_368).find? (fun e => e.1 == 1744) = some (1744, .aload_n 2, 0, 0) := (sk_90 1744 rfl).trans rfl
theorem te_368_1745 : (pT M_368).find? (fun e => e.1 == 1745) = some (1745, .aload_n 0, 0, 0) := (sk_90 1745 rfl).trans rfl
theorem te_368_1746 : (pT M_368).find? (fun e => e.1 == 1746) = some (1746, .iload 4, 0, 0) := (sk_90 1746 rfl).trans rfl
theorem te_368_1748 : (pT M_368).find? (fun e => e.1 == 1748) = some (1748, .iconst 1, 0, 0) := (sk_90 1748 rfl).trans rfl
theorem te_368_1749 : (pT M_368).find? (fun e => e.1 == 1749) = some (1749, .iadd, 0, 0) := (sk_90 1749 rfl).trans rfl
theorem te_368_1750 : (pT M_368).find? (fun e => e.1 == 1750) = some (1750, .iaload, 0, 0) := (sk_90 1750 rfl).trans rfl
theorem te_368_1751 : (pT M_368).find? (fun e => e.1 == 1751) = some (1751, .aload_n 0, 0, 0) := (sk_90 1751 rfl).trans rfl
theorem te_368_1752 : (pT M_368).find? (fun e => e.1 == 1752) = some (1752, .iload 4, 0, 0) := (sk_90 1752 rfl).trans rfl
theorem te_368_1754 : (pT M_368).find? (fun e => e.1 == 1754) = some (1754, .iconst 2, 0, 0) := (sk_90 1754 rfl).trans rfl
theorem te_368_1755 : (pT M_368).find? (fun e => e.1 == 1755) = some (1755, .iadd, 0, 0) := (sk_90 1755 rfl).trans rfl
theorem te_368_1756 : (pT M_368).find? (fun e => e.1 == 1756) = some (1756, .iaload, 0, 0) := (sk_91 1756 rfl).trans rfl
theorem te_368_1757 : (pT M_368).find? (fun e => e.1 == 1757) = some (1757, .aload_n 0, 0, 0) := (sk_91 1757 rfl).trans rfl
theorem te_368_1758 : (pT M_368).find? (fun e => e.1 == 1758) = some (1758, .iload 4, 0, 0) := (sk_91 1758 rfl).trans rfl
theorem te_368_1760 : (pT M_368).find? (fun e => e.1 == 1760) = some (1760, .iconst 3, 0, 0) := (sk_91 1760 rfl).trans rfl
theorem te_368_1761 : (pT M_368).find? (fun e => e.1 == 1761) = some (1761, .iadd, 0, 0) := (sk_91 1761 rfl).trans rfl
theorem te_368_1762 : (pT M_368).find? (fun e => e.1 == 1762) = some (1762, .iaload, 0, 0) := (sk_91 1762 rfl).trans rfl
theorem te_368_1763 : (pT M_368).find? (fun e => e.1 == 1763) = some (1763, .aload_n 0, 0, 0) := (sk_91 1763 rfl).trans rfl
theorem te_368_1764 : (pT M_368).find? (fun e => e.1 == 1764) = some (1764, .iload 4, 0, 0) := (sk_91 1764 rfl).trans rfl
theorem te_368_1766 : (pT M_368).find? (fun e => e.1 == 1766) = some (1766, .iconst 4, 0, 0) := (sk_91 1766 rfl).trans rfl
theorem te_368_1767 : (pT M_368).find? (fun e => e.1 == 1767) = some (1767, .iadd, 0, 0) := (sk_91 1767 rfl).trans rfl
theorem te_368_1768 : (pT M_368).find? (fun e => e.1 == 1768) = some (1768, .iaload, 0, 0) := (sk_91 1768 rfl).trans rfl
theorem te_368_1769 : (pT M_368).find? (fun e => e.1 == 1769) = some (1769, .aload_n 0, 0, 0) := (sk_91 1769 rfl).trans rfl
theorem te_368_1770 : (pT M_368).find? (fun e => e.1 == 1770) = some (1770, .iload 4, 0, 0) := (sk_92 1770 rfl).trans rfl
theorem te_368_1772 : (pT M_368).find? (fun e => e.1 == 1772) = some (1772, .iconst 5, 0, 0) := (sk_92 1772 rfl).trans rfl
theorem te_368_1773 : (pT M_368).find? (fun e => e.1 == 1773) = some (1773, .iadd, 0, 0) := (sk_92 1773 rfl).trans rfl
theorem te_368_1774 : (pT M_368).find? (fun e => e.1 == 1774) = some (1774, .iaload, 0, 0) := (sk_92 1774 rfl).trans rfl
theorem te_368_1775 : (pT M_368).find? (fun e => e.1 == 1775) = some (1775, .invokevirtual 289, 326, 0) := (sk_92 1775 rfl).trans rfl
theorem te_368_1778 : (pT M_368).find? (fun e => e.1 == 1778) = some (1778, .istore 6, 0, 0) := (sk_92 1778 rfl).trans rfl
theorem te_368_1780 : (pT M_368).find? (fun e => e.1 == 1780) = some (1780, .goto 536, 0, 0) := (sk_92 1780 rfl).trans rfl
theorem lc_21 {S : Nat × (Nat → Int32)} {lv : LV} {h : PH} {c s : Nat} {i : Int32} (hS : S.1 ≤ 3072) (hl : LwS lv i) (hi : 0 ≤ i.toInt ∧ i.toInt + 5 < S.1) (hL : LR h) (hc : c + 8 ≤ 601024) (hs : s + 48 ≤ 7293033) (Nx : ∀ lv' h' c' s', LwS lv' i → LR h' → c' ≤ c + 8 → s' ≤ s + 48 → Vx (Ex S 24) S M_368 [] Q1 2316 lv' [] h' c' s') : Vx (Ex S 24) S M_368 [] Q1 1063 lv [] h c s := by
  have hC := Ex.mono S 24
  refine Vx.go hC te_368_1063 ?_
  refine ⟨_, hl.2.1, ⟨0, Or.inl rfl⟩, ?_⟩
  refine sc_load hC (k := 1) hl te_368_1064 te_368_1065 te_368_1067 te_368_1068 te_368_1069 (sc_in hS hi (by decide)) ?_
  refine sc_load hC (k := 2) hl te_368_1070 te_368_1071 te_368_1073 te_368_1074 te_368_1075 (sc_in hS hi (by decide)) ?_
  refine sc_load hC (k := 3) hl te_368_1076 te_368_1077 te_368_1079 te_368_1080 te_368_1081 (sc_in hS hi (by decide)) ?_
  refine Vx.go hC te_368_1082 ?_
  refine ⟨_, hl.2.2.2.1, ⟨173, Or.inl rfl⟩, ?_⟩
  refine Vx.go hC te_368_1083 ?_
  refine Or.inr ⟨by decide, ?_⟩
  refine p_call_mk (av := [.ref 0, .int (S.2 (i + Int32.ofInt 1).toNatClampNeg), .int (S.2 (i + Int32.ofInt 2).toNatClampNeg), .int (S.2 (i + Int32.ofInt 3).toNatClampNeg), .ref 173]) (rest := []) mt_144 rfl (by decide) (show c + 5 ≤ 601024 by omega) (show s + 30 ≤ 7293033 by omega) (fun q => by cases q) ?_
  refine g_144 (n := 6) hL (fun r3 h1 hL2 => ?_)
  show Vx (Ex S 24) S M_368 [] Q1 1086 lv [.int r3] h1 (c + 5) (s + 30)
  refine Vx.go hC te_368_1086 ?_
  refine ⟨by decide, ?_⟩
  have hl4 := LwS.st (j := 5) (v := .int r3) (by omega) hl
  show Vx (Ex S 24) S M_368 [] Q1 1088 (px_s1 lv 5 (.int r3)) [] h1 (c + 5) (s + 30)
  refine Vx.go hC te_368_1088 ?_
  refine ⟨_, hl4.2.2.1, ⟨143, Or.inl rfl⟩, ?_⟩
  refine sc_load hC (k := 1) hl4 te_368_1089 te_368_1090 te_368_1092 te_368_1093 te_368_1094 (sc_in hS hi (by decide)) ?_
  refine sc_load hC (k := 2) hl4 te_368_1095 te_368_1096 te_368_1098 te_368_1099 te_368_1100 (sc_in hS hi (by decide)) ?_
  refine sc_load hC (k := 3) hl4 te_368_1101 te_368_1102 te_368_1104 te_368_1105 te_368_1106 (sc_in hS hi (by decide)) ?_
  refine Vx.go hC te_368_1107 ?_
  obtain ⟨gs8, gs8g⟩ := hL2.obj (A := 143) rfl
  have hcall9 := ref_call (S := S) (n := 24) (μ := 305) (args := [.inr 143, .inl ((S.2 (i + Int32.ofInt 1).toNatClampNeg) : Int32).toInt, .inl ((S.2 (i + Int32.ofInt 2).toNatClampNeg) : Int32).toInt, .inl ((S.2 (i + Int32.ofInt 3).toNatClampNeg) : Int32).toInt]) (h := h1) (fun v hv => by simp only [List.mem_cons, List.not_mem_nil, or_false] at hv; rcases hv with rfl | rfl | rfl | rfl <;> first | trivial | exact wiI _) hL2 (fun mem hr => f_305 hr (fun r m' a b => ⟨a, b⟩))
  simp only [List.map_cons, List.map_nil, wv, Int32.ofInt_toInt] at hcall9
  refine p_call_mk (av := [.ref 143, .int (S.2 (i + Int32.ofInt 1).toNatClampNeg), .int (S.2 (i + Int32.ofInt 2).toNatClampNeg), .int (S.2 (i + Int32.ofInt 3).toNatClampNeg)]) (rest := []) mt_305 rfl (by decide) (show (c + 5) + 0 ≤ 601024 by omega) (show (s + 30) + 0 ≤ 7293033 by omega) (fun _ => ⟨143, gs8, rfl, gs8g⟩) ?_
  refine hC _ _ _ _ _ ?_ hcall9
  rintro _ h5 ⟨hL6, r7, rfl⟩
  show Vx (Ex S 24) S M_368 [] Q1 1110 (px_s1 lv 5 (.int r3)) [.int r7] h5 (c + 5) (s + 30)
  refine Vx.go hC te_368_1110 ?_
  refine ⟨by decide, ?_⟩
  have hl10 := LwS.st (j := 6) (v := .int r7) (by omega) hl4
  show Vx (Ex S 24) S M_368 [] Q1 1112 (px_s1 (px_s1 lv 5 (.int r3)) 6 (.int r7)) [] h5 (c + 5) (s + 30)
  refine Vx.go hC te_368_1112 ?_
  refine ⟨by decide, ?_⟩
  exact Nx _ _ _ _ hl10 hL6 (by omega) (by omega)
theorem lc_22 {S : Nat × (Nat → Int32)} {lv : LV} {h : PH} {c s : Nat} {i : Int32} (hS : S.1 ≤ 3072) (hl : LwS lv i) (hi : 0 ≤ i.toInt ∧ i.toInt + 5 < S.1) (hL : LR h) (hc : c + 8 ≤ 601024) (hs : s + 48 ≤ 7293033) (Nx : ∀ lv' h' c' s', LwS lv' i → LR h' → c' ≤ c + 8 → s' ≤ s + 48 → Vx (Ex S 24) S M_368 [] Q1 2316 lv' [] h' c' s') : Vx (Ex S 24) S M_368 [] Q1 1115 lv [] h c s := by
  have hC := Ex.mono S 24
  refine Vx.go hC te_368_1115 ?_
  refine ⟨_, hl.2.1, ⟨0, Or.inl rfl⟩, ?_⟩
  refine sc_load hC (k := 1) hl te_368_1116 te_368_1117 te_368_1119 te_368_1120 te_368_1121 (sc_in hS hi (by decide)) ?_
  refine sc_load hC (k := 2) hl te_368_1122 te_368_1123 te_368_1125 te_368_1126 te_368_1127 (sc_in hS hi (by decide)) ?_
  refine Vx.go hC te_368_1128 ?_
  refine ⟨_, hl.2.2.2.1, ⟨173, Or.inl rfl⟩, ?_⟩
  refine Vx.go hC te_368_1129 ?_
  refine Or.inr ⟨by decide, ?_⟩
  refine p_call_mk (av := [.ref 0, .int (S.2 (i + Int32.ofInt 1).toNatClampNeg), .int (S.2 (i + Int32.ofInt 2).toNatClampNeg), .ref 173]) (rest := []) mt_147 rfl (by decide) (show c + 5 ≤ 601024 by omega) (show s + 30 ≤ 7293033 by omega) (fun q => by cases q) ?_
  refine g_147 (n := 6) hL (fun r3 h1 hL2 => ?_)
  show Vx (Ex S 24) S M_368 [] Q1 1132 lv [.int r3] h1 (c + 5) (s + 30)
  refine Vx.go hC te_368_1132 ?_
  refine ⟨by decide, ?_⟩
  have hl4 := LwS.st (j := 5) (v := .int r3) (by omega) hl
  show Vx (Ex S 24) S M_368 [] Q1 1134 (px_s1 lv 5 (.int r3)) [] h1 (c + 5) (s + 30)
  refine Vx.go hC te_368_1134 ?_
  refine ⟨_, hl4.2.2.1, ⟨143, Or.inl rfl⟩, ?_⟩
  refine sc_load hC (k := 1) hl4 te_368_1135 te_368_1136 te_368_1138 te_368_1139 te_368_1140 (sc_in hS hi (by decide)) ?_
  refine sc_load hC (k := 2) hl4 te_368_1141 te_368_1142 te_368_1144 te_368_1145 te_368_1146 (sc_in hS hi (by decide)) ?_
  refine Vx.go hC te_368_1147 ?_
  obtain ⟨gs8, gs8g⟩ := hL2.obj (A := 143) rfl
  have hcall9 := ref_call (S := S) (n := 24) (μ := 307) (args := [.inr 143, .inl ((S.2 (i + Int32.ofInt 1).toNatClampNeg) : Int32).toInt, .inl ((S.2 (i + Int32.ofInt 2).toNatClampNeg) : Int32).toInt]) (h := h1) (fun v hv => by simp only [List.mem_cons, List.not_mem_nil, or_false] at hv; rcases hv with rfl | rfl | rfl <;> first | trivial | exact wiI _) hL2 (fun mem hr => f_307 hr (fun r m' a b => ⟨a, b⟩))
  simp only [List.map_cons, List.map_nil, wv, Int32.ofInt_toInt] at hcall9
  refine p_call_mk (av := [.ref 143, .int (S.2 (i + Int32.ofInt 1).toNatClampNeg), .int (S.2 (i + Int32.ofInt 2).toNatClampNeg)]) (rest := []) mt_307 rfl (by decide) (show (c + 5) + 0 ≤ 601024 by omega) (show (s + 30) + 0 ≤ 7293033 by omega) (fun _ => ⟨143, gs8, rfl, gs8g⟩) ?_
  refine hC _ _ _ _ _ ?_ hcall9
  rintro _ h5 ⟨hL6, r7, rfl⟩
  show Vx (Ex S 24) S M_368 [] Q1 1150 (px_s1 lv 5 (.int r3)) [.int r7] h5 (c + 5) (s + 30)
  refine Vx.go hC te_368_1150 ?_
  refine ⟨by decide, ?_⟩
  have hl10 := LwS.st (j := 6) (v := .int r7) (by omega) hl4
  show Vx (Ex S 24) S M_368 [] Q1 1152 (px_s1 (px_s1 lv 5 (.int r3)) 6 (.int r7)) [] h5 (c + 5) (s + 30)
  refine Vx.go hC te_368_1152 ?_
  refine ⟨by decide, ?_⟩
  exact Nx _ _ _ _ hl10 hL6 (by omega) (by omega)
theorem lc_23 {S : Nat × (Nat → Int32)} {lv : LV} {h : PH} {c s : Nat} {i : Int32} (hS : S.1 ≤ 3072) (hl : LwS lv i) (hi : 0 ≤ i.toInt ∧ i.toInt + 5 < S.1) (hL : LR h) (hc : c + 8 ≤ 601024) (hs : s + 48 ≤ 7293033) (Nx : ∀ lv' h' c' s', LwS lv' i → LR h' → c' ≤ c + 8 → s' ≤ s + 48 → Vx (Ex S 24) S M_368 [] Q1 2316 lv' [] h' c' s') : Vx (Ex S 24) S M_368 [] Q1 1155 lv [] h c s := by
  have hC := Ex.mono S 24
  refine Vx.go hC te_368_1155 ?_
  refine ⟨_, hl.2.1, ⟨0, Or.inl rfl⟩, ?_⟩
  refine sc_load hC (k := 1) hl te_368_1156 te_368_1157 te_368_1159 te_368_1160 te_368_1161 (sc_in hS hi (by decide)) ?_
  refine sc_load hC (k := 2) hl te_368_1162 te_368_1163 te_368_1165 te_368_1166 te_368_1167 (sc_in hS hi (by decide)) ?_
  refine sc_load hC (k := 3) hl te_368_1168 te_368_1169 te_368_1171 te_368_1172 te_368_1173 (sc_in hS hi (by decide)) ?_
  refine sc_load hC (k := 4) hl te_368_1174 te_368_1175 te_368_1177 te_368_1178 te_368_1179 (sc_in hS hi (by decide)) ?_
  refine Vx.go hC te_368_1180 ?_
  refine ⟨_, hl.2.2.2.1, ⟨173, Or.inl rfl⟩, ?_⟩
  refine Vx.go hC te_368_1181 ?_
  refine Or.inr ⟨by decide, ?_⟩
  refine p_call_mk (av := [.ref 0, .int (S.2 (i + Int32.ofInt 1).toNatClampNeg), .int (S.2 (i + Int32.ofInt 2).toNatClampNeg), .int (S.2 (i + Int32.ofInt 3).toNatClampNeg), .int (S.2 (i + Int32.ofInt 4).toNatClampNeg), .ref 173]) (rest := []) mt_149 rfl (by decide) (show c + 7 ≤ 601024 by omega) (show s + 42 ≤ 7293033 by omega) (fun q => by cases q) ?_
  refine g_149 (n := 6) hL (fun r3 h1 hL2 => ?_)
  show Vx (Ex S 24) S M_368 [] Q1 1184 lv [.int r3] h1 (c + 7) (s + 42)
  refine Vx.go hC te_368_1184 ?_
  refine ⟨by decide, ?_⟩
  have hl4 := LwS.st (j := 5) (v := .int r3) (by omega) hl
  show Vx (Ex S 24) S M_368 [] Q1 1186 (px_s1 lv 5 (.int r3)) [] h1 (c + 7) (s + 42)
  refine Vx.go hC te_368_1186 ?_
  refine ⟨_, hl4.2.2.1, ⟨143, Or.inl rfl⟩, ?_⟩
  refine sc_load hC (k := 1) hl4 te_368_1187 te_368_1188 te_368_1190 te_368_1191 te_368_1192 (sc_in hS hi (by decide)) ?_
  refine sc_load hC (k := 2) hl4 te_368_1193 te_368_1194 te_368_1196 te_368_1197 te_368_1198 (sc_in hS hi (by decide)) ?_
  refine sc_load hC (k := 3) hl4 te_368_1199 te_368_1200 te_368_1202 te_368_1203 te_368_1204 (sc_in hS hi (by decide)) ?_
  refine sc_load hC (k := 4) hl4 te_368_1205 te_368_1206 te_368_1208 te_368_1209 te_368_1210 (sc_in hS hi (by decide)) ?_
  refine Vx.go hC te_368_1211 ?_
  obtain ⟨gs8, gs8g⟩ := hL2.obj (A := 143) rfl
  have hcall9 := ref_call (S := S) (n := 24) (μ := 308) (args := [.inr 143, .inl ((S.2 (i + Int32.ofInt 1).toNatClampNeg) : Int32).toInt, .inl ((S.2 (i + Int32.ofInt 2).toNatClampNeg) : Int32).toInt, .inl ((S.2 (i + Int32.ofInt 3).toNatClampNeg) : Int32).toInt, .inl ((S.2 (i + Int32.ofInt 4).toNatClampNeg) : Int32).toInt]) (h := h1) (fun v hv => by simp only [List.mem_cons, List.not_mem_nil, or_false] at hv; rcases hv with rfl | rfl | rfl | rfl | rfl <;> first | trivial | exact wiI _) hL2 (fun mem hr => f_308 (wiI _) hr (fun r m' a b => ⟨a, b⟩))
  simp only [List.map_cons, List.map_nil, wv, Int32.ofInt_toInt] at hcall9
  refine p_call_mk (av := [.ref 143, .int (S.2 (i + Int32.ofInt 1).toNatClampNeg), .int (S.2 (i + Int32.ofInt 2).toNatClampNeg), .int (S.2 (i + Int32.ofInt 3).toNatClampNeg), .int (S.2 (i + Int32.ofInt 4).toNatClampNeg)]) (rest := []) mt_308 rfl (by decide) (show (c + 7) + 0 ≤ 601024 by omega) (show (s + 42) + 0 ≤ 7293033 by omega) (fun _ => ⟨143, gs8, rfl, gs8g⟩) ?_
  refine hC _ _ _ _ _ ?_ hcall9
  rintro _ h5 ⟨hL6, r7, rfl⟩
  show Vx (Ex S 24) S M_368 [] Q1 1214 (px_s1 lv 5 (.int r3)) [.int r7] h5 (c + 7) (s + 42)
  refine Vx.go hC te_368_1214 ?_
  refine ⟨by decide, ?_⟩
  have hl10 := LwS.st (j := 6) (v := .int r7) (by omega) hl4
  show Vx (Ex S 24) S M_368 [] Q1 1216 (px_s1 (px_s1 lv 5 (.int r3)) 6 (.int r7)) [] h5 (c + 7) (s + 42)
  refine Vx.go hC te_368_1216 ?_
  refine ⟨by decide, ?_⟩
  exact Nx _ _ _ _ hl10 hL6 (by omega) (by omega)
theorem lc_24 {S : Nat × (Nat → Int32)} {lv : LV} {h : PH} {c s : Nat} {i : Int32} (hS : S.1 ≤ 3072) (hl : LwS lv i) (hi : 0 ≤ i.toInt ∧ i.toInt + 5 < S.1) (hL : LR h) (hc : c + 8 ≤ 601024) (hs : s + 48 ≤ 7293033) (Nx : ∀ lv' h' c' s', LwS lv' i → LR h' → c' ≤ c + 8 → s' ≤ s + 48 → Vx (Ex S 24) S M_368 [] Q1 2316 lv' [] h' c' s') : Vx (Ex S 24) S M_368 [] Q1 1219 lv [] h c s := by
  have hC := Ex.mono S 24
  refine Vx.go hC te_368_1219 ?_
  refine ⟨_, hl.2.1, ⟨0, Or.inl rfl⟩, ?_⟩
  refine sc_load hC (k := 1) hl te_368_1220 te_368_1221 te_368_1223 te_368_1224 te_368_1225 (sc_in hS hi (by decide)) ?_
  refine sc_load hC (k := 2) hl te_368_1226 te_368_1227 te_368_1229 te_368_1230 te_368_1231 (sc_in hS hi (by decide)) ?_
  refine sc_load hC (k := 3) hl te_368_1232 te_368_1233 te_368_1235 te_368_1236 te_368_1237 (sc_in hS hi (by decide)) ?_
  refine Vx.go hC te_368_1238 ?_
  refine ⟨_, hl.2.2.2.1, ⟨173, Or.inl rfl⟩, ?_⟩
  refine Vx.go hC te_368_1239 ?_
  refine Or.inr ⟨by decide, ?_⟩
  refine p_call_mk (av := [.ref 0, .int (S.2 (i + Int32.ofInt 1).toNatClampNeg), .int (S.2 (i + Int32.ofInt 2).toNatClampNeg), .int (S.2 (i + Int32.ofInt 3).toNatClampNeg), .ref 173]) (rest := []) mt_153 rfl (by decide) (show c + 6 ≤ 601024 by omega) (show s + 36 ≤ 7293033 by omega) (fun q => by cases q) ?_
  refine g_153 (n := 6) hL (fun r3 h1 hL2 => ?_)
  show Vx (Ex S 24) S M_368 [] Q1 1242 lv [.int r3] h1 (c + 6) (s + 36)
  refine Vx.go hC te_368_1242 ?_
  refine ⟨by decide, ?_⟩
  have hl4 := LwS.st (j := 5) (v := .int r3) (by omega) hl
  show Vx (Ex S 24) S M_368 [] Q1 1244 (px_s1 lv 5 (.int r3)) [] h1 (c + 6) (s + 36)
  refine Vx.go hC te_368_1244 ?_
  refine ⟨_, hl4.2.2.1, ⟨143, Or.inl rfl⟩, ?_⟩
  refine sc_load hC (k := 1) hl4 te_368_1245 te_368_1246 te_368_1248 te_368_1249 te_368_1250 (sc_in hS hi (by decide)) ?_
  refine sc_load hC (k := 2) hl4 te_368_1251 te_368_1252 te_368_1254 te_368_1255 te_368_1256 (sc_in hS hi (by decide)) ?_
  refine sc_load hC (k := 3) hl4 te_368_1257 te_368_1258 te_368_1260 te_368_1261 te_368_1262 (sc_in hS hi (by decide)) ?_
  refine Vx.go hC te_368_1263 ?_
  obtain ⟨gs8, gs8g⟩ := hL2.obj (A := 143) rfl
  have hcall9 := ref_call (S := S) (n := 24) (μ := 310) (args := [.inr 143, .inl ((S.2 (i + Int32.ofInt 1).toNatClampNeg) : Int32).toInt, .inl ((S.2 (i + Int32.ofInt 2).toNatClampNeg) : Int32).toInt, .inl ((S.2 (i + Int32.ofInt 3).toNatClampNeg) : Int32).toInt]) (h := h1) (fun v hv => by simp only [List.mem_cons, List.not_mem_nil, or_false] at hv; rcases hv with rfl | rfl | rfl | rfl <;> first | trivial | exact wiI _) hL2 (fun mem hr => f_310 hr (fun r m' a b => ⟨a, b⟩))
  simp only [List.map_cons, List.map_nil, wv, Int32.ofInt_toInt] at hcall9
  refine p_call_mk (av := [.ref 143, .int (S.2 (i + Int32.ofInt 1).toNatClampNeg), .int (S.2 (i + Int32.ofInt 2).toNatClampNeg), .int (S.2 (i + Int32.ofInt 3).toNatClampNeg)]) (rest := []) mt_310 rfl (by decide) (show (c + 6) + 0 ≤ 601024 by omega) (show (s + 36) + 0 ≤ 7293033 by omega) (fun _ => ⟨143, gs8, rfl, gs8g⟩) ?_
  refine hC _ _ _ _ _ ?_ hcall9
  rintro _ h5 ⟨hL6, r7, rfl⟩
  show Vx (Ex S 24) S M_368 [] Q1 1266 (px_s1 lv 5 (.int r3)) [.int r7] h5 (c + 6) (s + 36)
  refine Vx.go hC te_368_1266 ?_
  refine ⟨by decide, ?_⟩
  have hl10 := LwS.st (j := 6) (v := .int r7) (by omega) hl4
  show Vx (Ex S 24) S M_368 [] Q1 1268 (px_s1 (px_s1 lv 5 (.int r3)) 6 (.int r7)) [] h5 (c + 6) (s + 36)
  refine Vx.go hC te_368_1268 ?_
  refine ⟨by decide, ?_⟩
  exact Nx _ _ _ _ hl10 hL6 (by omega) (by omega)
theorem lc_25 {S : Nat × (Nat → Int32)} {lv : LV} {h : PH} {c s : Nat} {i : Int32} (hS : S.1 ≤ 3072) (hl : LwS lv i) (hi : 0 ≤ i.toInt ∧ i.toInt + 5 < S.1) (hL : LR h) (hc : c + 8 ≤ 601024) (hs : s + 48 ≤ 7293033) (Nx : ∀ lv' h' c' s', LwS lv' i → LR h' → c' ≤ c + 8 → s' ≤ s + 48 → Vx (Ex S 24) S M_368 [] Q1 2316 lv' [] h' c' s') : Vx (Ex S 24) S M_368 [] Q1 1271 lv [] h c s := by
  have hC := Ex.mono S 24
  refine Vx.go hC te_368_1271 ?_
  refine ⟨_, hl.2.1, ⟨0, Or.inl rfl⟩, ?_⟩
  refine sc_load hC (k := 1) hl te_368_1272 te_368_1273 te_368_1275 te_368_1276 te_368_1277 (sc_in hS hi (by decide)) ?_
  refine sc_load hC (k := 2) hl te_368_1278 te_368_1279 te_368_1281 te_368_1282 te_368_1283 (sc_in hS hi (by decide)) ?_
  refine sc_load hC (k := 3) hl te_368_1284 te_368_1285 te_368_1287 te_368_1288 te_368_1289 (sc_in hS hi (by decide)) ?_
  refine sc_load hC (k := 4) hl te_368_1290 te_368_1291 te_368_1293 te_368_1294 te_368_1295 (sc_in hS hi (by decide)) ?_
  refine Vx.go hC te_368_1296 ?_
  refine ⟨_, hl.2.2.2.1, ⟨173, Or.inl rfl⟩, ?_⟩
  refine Vx.go hC te_368_1297 ?_
  refine Or.inr ⟨by decide, ?_⟩
  refine p_call_mk (av := [.ref 0, .int (S.2 (i + Int32.ofInt 1).toNatClampNeg), .int (S.2 (i + Int32.ofInt 2).toNatClampNeg), .int (S.2 (i + Int32.ofInt 3).toNatClampNeg), .int (S.2 (i + Int32.ofInt 4).toNatClampNeg), .ref 173]) (rest := []) mt_158 rfl (by decide) (show c + 6 ≤ 601024 by omega) (show s + 36 ≤ 7293033 by omega) (fun q => by cases q) ?_
  refine g_158 (n := 6) hL (fun r3 h1 hL2 => ?_)
  show Vx (Ex S 24) S M_368 [] Q1 1300 lv [.int r3] h1 (c + 6) (s + 36)
  refine Vx.go hC te_368_1300 ?_
  refine ⟨by decide, ?_⟩
  have hl4 := LwS.st (j := 5) (v := .int r3) (by omega) hl
  show Vx (Ex S 24) S M_368 [] Q1 1302 (px_s1 lv 5 (.int r3)) [] h1 (c + 6) (s + 36)
  refine Vx.go hC te_368_1302 ?_
  refine ⟨_, hl4.2.2.1, ⟨143, Or.inl rfl⟩, ?_⟩
  refine sc_load hC (k := 1) hl4 te_368_1303 te_368_1304 te_368_1306 te_368_1307 te_368_1308 (sc_in hS hi (by decide)) ?_
  refine sc_load hC (k := 2) hl4 te_368_1309 te_368_1310 te_368_1312 te_368_1313 te_368_1314 (sc_in hS hi (by decide)) ?_
  refine sc_load hC (k := 3) hl4 te_368_1315 te_368_1316 te_368_1318 te_368_1319 te_368_1320 (sc_in hS hi (by decide)) ?_
  refine sc_load hC (k := 4) hl4 te_368_1321 te_368_1322 te_368_1324 te_368_1325 te_368_1326 (sc_in hS hi (by decide)) ?_
  refine Vx.go hC te_368_1327 ?_
  obtain ⟨gs8, gs8g⟩ := hL2.obj (A := 143) rfl
  have hcall9 := ref_call (S := S) (n := 24) (μ := 315) (args := [.inr 143, .inl ((S.2 (i + Int32.ofInt 1).toNatClampNeg) : Int32).toInt, .inl ((S.2 (i + Int32.ofInt 2).toNatClampNeg) : Int32).toInt, .inl ((S.2 (i + Int32.ofInt 3).toNatClampNeg) : Int32).toInt, .inl ((S.2 (i + Int32.ofInt 4).toNatClampNeg) : Int32).toInt]) (h := h1) (fun v hv => by simp only [List.mem_cons, List.not_mem_nil, or_false] at hv; rcases hv with rfl | rfl | rfl | rfl | rfl <;> first | trivial | exact wiI _) hL2 (fun mem hr => f_315 hr (fun r m' a b => ⟨a, b⟩))
  simp only [List.map_cons, List.map_nil, wv, Int32.ofInt_toInt] at hcall9
  refine p_call_mk (av := [.ref 143, .int (S.2 (i + Int32.ofInt 1).toNatClampNeg), .int (S.2 (i + Int32.ofInt 2).toNatClampNeg), .int (S.2 (i + Int32.ofInt 3).toNatClampNeg), .int (S.2 (i + Int32.ofInt 4).toNatClampNeg)]) (rest := []) mt_315 rfl (by decide) (show (c + 6) + 0 ≤ 601024 by omega) (show (s + 36) + 0 ≤ 7293033 by omega) (fun _ => ⟨143, gs8, rfl, gs8g⟩) ?_
  refine hC _ _ _ _ _ ?_ hcall9
  rintro _ h5 ⟨hL6, r7, rfl⟩
  show Vx (Ex S 24) S M_368 [] Q1 1330 (px_s1 lv 5 (.int r3)) [.int r7] h5 (c + 6) (s + 36)
  refine Vx.go hC te_368_1330 ?_
  refine ⟨by decide, ?_⟩
  have hl10 := LwS.st (j := 6) (v := .int r7) (by omega) hl4
  show Vx (Ex S 24) S M_368 [] Q1 1332 (px_s1 (px_s1 lv 5 (.int r3)) 6 (.int r7)) [] h5 (c + 6) (s + 36)
  refine Vx.go hC te_368_1332 ?_
  refine ⟨by decide, ?_⟩
  exact Nx _ _ _ _ hl10 hL6 (by omega) (by omega)
theorem lc_26 {S : Nat × (Nat → Int32)} {lv : LV} {h : PH} {c s : Nat} {i : Int32} (hS : S.1 ≤ 3072) (hl : LwS lv i) (hi : 0 ≤ i.toInt ∧ i.toInt + 5 < S.1) (hL : LR h) (hc : c + 8 ≤ 601024) (hs : s + 48 ≤ 7293033) (Nx : ∀ lv' h' c' s', LwS lv' i → LR h' → c' ≤ c + 8 → s' ≤ s + 48 → Vx (Ex S 24) S M_368 [] Q1 2316 lv' [] h' c' s') : Vx (Ex S 24) S M_368 [] Q1 1335 lv [] h c s := by
  have hC := Ex.mono S 24
  refine Vx.go hC te_368_1335 ?_
  refine ⟨_, hl.2.1, ⟨0, Or.inl rfl⟩, ?_⟩
  refine sc_load hC (k := 1) hl te_368_1336 te_368_1337 te_368_1339 te_368_1340 te_368_1341 (sc_in hS hi (by decide)) ?_
  refine sc_load hC (k := 2) hl te_368_1342 te_368_1343 te_368_1345 te_368_1346 te_368_1347 (sc_in hS hi (by decide)) ?_
  refine sc_load hC (k := 3) hl te_368_1348 te_368_1349 te_368_1351 te_368_1352 te_368_1353 (sc_in hS hi (by decide)) ?_
  refine Vx.go hC te_368_1354 ?_
  refine ⟨_, hl.2.2.2.1, ⟨173, Or.inl rfl⟩, ?_⟩
  refine Vx.go hC te_368_1355 ?_
  refine Or.inr ⟨by decide, ?_⟩
  refine p_call_mk (av := [.ref 0, .int (S.2 (i + Int32.ofInt 1).toNatClampNeg), .int (S.2 (i + Int32.ofInt 2).toNatClampNeg), .int (S.2 (i + Int32.ofInt 3).toNatClampNeg), .ref 173]) (rest := []) mt_165 rfl (by decide) (show c + 7 ≤ 601024 by omega) (show s + 42 ≤ 7293033 by omega) (fun q => by cases q) ?_
  refine g_165 (n := 6) hL (fun r3 h1 hL2 => ?_)
  show Vx (Ex S 24) S M_368 [] Q1 1358 lv [.int r3] h1 (c + 7) (s + 42)
  refine Vx.go hC te_368_1358 ?_
  refine ⟨by decide, ?_⟩
  have hl4 := LwS.st (j := 5) (v := .int r3) (by omega) hl
  show Vx (Ex S 24) S M_368 [] Q1 1360 (px_s1 lv 5 (.int r3)) [] h1 (c + 7) (s + 42)
  refine Vx.go hC te_368_1360 ?_
  refine ⟨_, hl4.2.2.1, ⟨143, Or.inl rfl⟩, ?_⟩
  refine sc_load hC (k := 1) hl4 te_368_1361 te_368_1362 te_368_1364 te_368_1365 te_368_1366 (sc_in hS hi (by decide)) ?_
  refine sc_load hC (k := 2) hl4 te_368_1367 te_368_1368 te_368_1370 te_368_1371 te_368_1372 (sc_in hS hi (by decide)) ?_
  refine sc_load hC (k := 3) hl4 te_368_1373 te_368_1374 te_368_1376 te_368_1377 te_368_1378 (sc_in hS hi (by decide)) ?_
  refine Vx.go hC te_368_1379 ?_
  obtain ⟨gs8, gs8g⟩ := hL2.obj (A := 143) rfl
  have hcall9 := ref_call (S := S) (n := 24) (μ := 325) (args := [.inr 143, .inl ((S.2 (i + Int32.ofInt 1).toNatClampNeg) : Int32).toInt, .inl ((S.2 (i + Int32.ofInt 2).toNatClampNeg) : Int32).toInt, .inl ((S.2 (i + Int32.ofInt 3).toNatClampNeg) : Int32).toInt]) (h := h1) (fun v hv => by simp only [List.mem_cons, List.not_mem_nil, or_false] at hv; rcases hv with rfl | rfl | rfl | rfl <;> first | trivial | exact wiI _) hL2 (fun mem hr => f_325 hr (fun r m' a b => ⟨a, b⟩))
  simp only [List.map_cons, List.map_nil, wv, Int32.ofInt_toInt] at hcall9
  refine p_call_mk (av := [.ref 143, .int (S.2 (i + Int32.ofInt 1).toNatClampNeg), .int (S.2 (i + Int32.ofInt 2).toNatClampNeg), .int (S.2 (i + Int32.ofInt 3).toNatClampNeg)]) (rest := []) mt_325 rfl (by decide) (show (c + 7) + 0 ≤ 601024 by omega) (show (s + 42) + 0 ≤ 7293033 by omega) (fun _ => ⟨143, gs8, rfl, gs8g⟩) ?_
  refine hC _ _ _ _ _ ?_ hcall9
  rintro _ h5 ⟨hL6, r7, rfl⟩
  show Vx (Ex S 24) S M_368 [] Q1 1382 (px_s1 lv 5 (.int r3)) [.int r7] h5 (c + 7) (s + 42)
  refine Vx.go hC te_368_1382 ?_
  refine ⟨by decide, ?_⟩
  have hl10 := LwS.st (j := 6) (v := .int r7) (by omega) hl4
  show Vx (Ex S 24) S M_368 [] Q1 1384 (px_s1 (px_s1 lv 5 (.int r3)) 6 (.int r7)) [] h5 (c + 7) (s + 42)
  refine Vx.go hC te_368_1384 ?_
  refine ⟨by decide, ?_⟩
  exact Nx _ _ _ _ hl10 hL6 (by omega) (by omega)
theorem lc_27 {S : Nat × (Nat → Int32)} {lv : LV} {h : PH} {c s : Nat} {i : Int32} (hS : S.1 ≤ 3072) (hl : LwS lv i) (hi : 0 ≤ i.toInt ∧ i.toInt + 5 < S.1) (hL : LR h) (hc : c + 8 ≤ 601024) (hs : s + 48 ≤ 7293033) (Nx : ∀ lv' h' c' s', LwS lv' i → LR h' → c' ≤ c + 8 → s' ≤ s + 48 → Vx (Ex S 24) S M_368 [] Q1 2316 lv' [] h' c' s') : Vx (Ex S 24) S M_368 [] Q1 1387 lv [] h c s := by
  have hC := Ex.mono S 24
  refine Vx.go hC te_368_1387 ?_
  refine ⟨_, hl.2.1, ⟨0, Or.inl rfl⟩, ?_⟩
  refine sc_load hC (k := 1) hl te_368_1388 te_368_1389 te_368_1391 te_368_1392 te_368_1393 (sc_in hS hi (by decide)) ?_
  refine sc_load hC (k := 2) hl te_368_1394 te_368_1395 te_368_1397 te_368_1398 te_368_1399 (sc_in hS hi (by decide)) ?_
  refine sc_load hC (k := 3) hl te_368_1400 te_368_1401 te_368_1403 te_368_1404 te_368_1405 (sc_in hS hi (by decide)) ?_
  refine Vx.go hC te_368_1406 ?_
  refine ⟨_, hl.2.2.2.1, ⟨173, Or.inl rfl⟩, ?_⟩
  refine Vx.go hC te_368_1407 ?_
  refine Or.inr ⟨by decide, ?_⟩
  refine p_call_mk (av := [.ref 0, .int (S.2 (i + Int32.ofInt 1).toNatClampNeg), .int (S.2 (i + Int32.ofInt 2).toNatClampNeg), .int (S.2 (i + Int32.ofInt 3).toNatClampNeg), .ref 173]) (rest := []) mt_168 rfl (by decide) (show c + 3 ≤ 601024 by omega) (show s + 18 ≤ 7293033 by omega) (fun q => by cases q) ?_
  refine g_168 (n := 6) hL (fun r3 h1 hL2 => ?_)
  show Vx (Ex S 24) S M_368 [] Q1 1410 lv [.int r3] h1 (c + 3) (s + 18)
  refine Vx.go hC te_368_1410 ?_
  refine ⟨by decide, ?_⟩
  have hl4 := LwS.st (j := 5) (v := .int r3) (by omega) hl
  show Vx (Ex S 24) S M_368 [] Q1 1412 (px_s1 lv 5 (.int r3)) [] h1 (c + 3) (s + 18)
  refine Vx.go hC te_368_1412 ?_
  refine ⟨_, hl4.2.2.1, ⟨143, Or.inl rfl⟩, ?_⟩
  refine sc_load hC (k := 1) hl4 te_368_1413 te_368_1414 te_368_1416 te_368_1417 te_368_1418 (sc_in hS hi (by decide)) ?_
  refine sc_load hC (k := 2) hl4 te_368_1419 te_368_1420 te_368_1422 te_368_1423 te_368_1424 (sc_in hS hi (by decide)) ?_
  refine sc_load hC (k := 3) hl4 te_368_1425 te_368_1426 te_368_1428 te_368_1429 te_368_1430 (sc_in hS hi (by decide)) ?_
  refine Vx.go hC te_368_1431 ?_
  obtain ⟨gs8, gs8g⟩ := hL2.obj (A := 143) rfl
  have hcall9 := ref_call (S := S) (n := 24) (μ := 327) (args := [.inr 143, .inl ((S.2 (i + Int32.ofInt 1).toNatClampNeg) : Int32).toInt, .inl ((S.2 (i + Int32.ofInt 2).toNatClampNeg) : Int32).toInt, .inl ((S.2 (i + Int32.ofInt 3).toNatClampNeg) : Int32).toInt]) (h := h1) (fun v hv => by simp only [List.mem_cons, List.not_mem_nil, or_false] at hv; rcases hv with rfl | rfl | rfl | rfl <;> first | trivial | exact wiI _) hL2 (fun mem hr => f_327 hr (fun r m' a b => ⟨a, b⟩))
  simp only [List.map_cons, List.map_nil, wv, Int32.ofInt_toInt] at hcall9
  refine p_call_mk (av := [.ref 143, .int (S.2 (i + Int32.ofInt 1).toNatClampNeg), .int (S.2 (i + Int32.ofInt 2).toNatClampNeg), .int (S.2 (i + Int32.ofInt 3).toNatClampNeg)]) (rest := []) mt_327 rfl (by decide) (show (c + 3) + 0 ≤ 601024 by omega) (show (s + 18) + 0 ≤ 7293033 by omega) (fun _ => ⟨143, gs8, rfl, gs8g⟩) ?_
  refine hC _ _ _ _ _ ?_ hcall9
  rintro _ h5 ⟨hL6, r7, rfl⟩
  show Vx (Ex S 24) S M_368 [] Q1 1434 (px_s1 lv 5 (.int r3)) [.int r7] h5 (c + 3) (s + 18)
  refine Vx.go hC te_368_1434 ?_
  refine ⟨by decide, ?_⟩
  have hl10 := LwS.st (j := 6) (v := .int r7) (by omega) hl4
  show Vx (Ex S 24) S M_368 [] Q1 1436 (px_s1 (px_s1 lv 5 (.int r3)) 6 (.int r7)) [] h5 (c + 3) (s + 18)
  refine Vx.go hC te_368_1436 ?_
  refine ⟨by decide, ?_⟩
  exact Nx _ _ _ _ hl10 hL6 (by omega) (by omega)
theorem lc_28 {S : Nat × (Nat → Int32)} {lv : LV} {h : PH} {c s : Nat} {i : Int32} (hS : S.1 ≤ 3072) (hl : LwS lv i) (hi : 0 ≤ i.toInt ∧ i.toInt + 5 < S.1) (hL : LR h) (hc : c + 8 ≤ 601024) (hs : s + 48 ≤ 7293033) (Nx : ∀ lv' h' c' s', LwS lv' i → LR h' → c' ≤ c + 8 → s' ≤ s + 48 → Vx (Ex S 24) S M_368 [] Q1 2316 lv' [] h' c' s') : Vx (Ex S 24) S M_368 [] Q1 1439 lv [] h c s := by
  have hC := Ex.mono S 24
  refine Vx.go hC te_368_1439 ?_
  refine ⟨_, hl.2.1, ⟨0, Or.inl rfl⟩, ?_⟩
  refine sc_load hC (k := 1) hl te_368_1440 te_368_1441 te_368_1443 te_368_1444 te_368_1445 (sc_in hS hi (by decide)) ?_
  refine sc_load hC (k := 2) hl te_368_1446 te_368_1447 te_368_1449 te_368_1450 te_368_1451 (sc_in hS hi (by decide)) ?_
  refine sc_load hC (k := 3) hl te_368_1452 te_368_1453 te_368_1455 te_368_1456 te_368_1457 (sc_in hS hi (by decide)) ?_
  refine sc_load hC (k := 4) hl te_368_1458 te_368_1459 te_368_1461 te_368_1462 te_368_1463 (sc_in hS hi (by decide)) ?_
  refine Vx.go hC te_368_1464 ?_
  refine ⟨_, hl.2.2.2.1, ⟨173, Or.inl rfl⟩, ?_⟩
  refine Vx.go hC te_368_1465 ?_
  refine Or.inr ⟨by decide, ?_⟩
  refine p_call_mk (av := [.ref 0, .int (S.2 (i + Int32.ofInt 1).toNatClampNeg), .int (S.2 (i + Int32.ofInt 2).toNatClampNeg), .int (S.2 (i + Int32.ofInt 3).toNatClampNeg), .int (S.2 (i + Int32.ofInt 4).toNatClampNeg), .ref 173]) (rest := []) mt_170 rfl (by decide) (show c + 7 ≤ 601024 by omega) (show s + 42 ≤ 7293033 by omega) (fun q => by cases q) ?_
  refine g_170 (n := 6) hL (fun r3 h1 hL2 => ?_)
  show Vx (Ex S 24) S M_368 [] Q1 1468 lv [.int r3] h1 (c + 7) (s + 42)
  refine Vx.go hC te_368_1468 ?_
  refine ⟨by decide, ?_⟩
  have hl4 := LwS.st (j := 5) (v := .int r3) (by omega) hl
  show Vx (Ex S 24) S M_368 [] Q1 1470 (px_s1 lv 5 (.int r3)) [] h1 (c + 7) (s + 42)
  refine Vx.go hC te_368_1470 ?_
  refine ⟨_, hl4.2.2.1, ⟨143, Or.inl rfl⟩, ?_⟩
  refine sc_load hC (k := 1) hl4 te_368_1471 te_368_1472 te_368_1474 te_368_1475 te_368_1476 (sc_in hS hi (by decide)) ?_
  refine sc_load hC (k := 2) hl4 te_368_1477 te_368_1478 te_368_1480 te_368_1481 te_368_1482 (sc_in hS hi (by decide)) ?_
  refine sc_load hC (k := 3) hl4 te_368_1483 te_368_1484 te_368_1486 te_368_1487 te_368_1488 (sc_in hS hi (by decide)) ?_
  refine sc_load hC (k := 4) hl4 te_368_1489 te_368_1490 te_368_1492 te_368_1493 te_368_1494 (sc_in hS hi (by decide)) ?_
  refine Vx.go hC te_368_1495 ?_
  obtain ⟨gs8, gs8g⟩ := hL2.obj (A := 143) rfl
  have hcall9 := ref_call (S := S) (n := 24) (μ := 331) (args := [.inr 143, .inl ((S.2 (i + Int32.ofInt 1).toNatClampNeg) : Int32).toInt, .inl ((S.2 (i + Int32.ofInt 2).toNatClampNeg) : Int32).toInt, .inl ((S.2 (i + Int32.ofInt 3).toNatClampNeg) : Int32).toInt, .inl ((S.2 (i + Int32.ofInt 4).toNatClampNeg) : Int32).toInt]) (h := h1) (fun v hv => by simp only [List.mem_cons, List.not_mem_nil, or_false] at hv; rcases hv with rfl | rfl | rfl | rfl | rfl <;> first | trivial | exact wiI _) hL2 (fun mem hr => f_331 (wiI _) hr (fun r m' a b => ⟨a, b⟩))
  simp only [List.map_cons, List.map_nil, wv, Int32.ofInt_toInt] at hcall9
  refine p_call_mk (av := [.ref 143, .int (S.2 (i + Int32.ofInt 1).toNatClampNeg), .int (S.2 (i + Int32.ofInt 2).toNatClampNeg), .int (S.2 (i + Int32.ofInt 3).toNatClampNeg), .int (S.2 (i + Int32.ofInt 4).toNatClampNeg)]) (rest := []) mt_331 rfl (by decide) (show (c + 7) + 0 ≤ 601024 by omega) (show (s + 42) + 0 ≤ 7293033 by omega) (fun _ => ⟨143, gs8, rfl, gs8g⟩) ?_
  refine hC _ _ _ _ _ ?_ hcall9
  rintro _ h5 ⟨hL6, r7, rfl⟩
  show Vx (Ex S 24) S M_368 [] Q1 1498 (px_s1 lv 5 (.int r3)) [.int r7] h5 (c + 7) (s + 42)
  refine Vx.go hC te_368_1498 ?_
  refine ⟨by decide, ?_⟩
  have hl10 := LwS.st (j := 6) (v := .int r7) (by omega) hl4
  show Vx (Ex S 24) S M_368 [] Q1 1500 (px_s1 (px_s1 lv 5 (.int r3)) 6 (.int r7)) [] h5 (c + 7) (s + 42)
  refine Vx.go hC te_368_1500 ?_
  refine ⟨by decide, ?_⟩
  exact Nx _ _ _ _ hl10 hL6 (by omega) (by omega)
theorem lc_29 {S : Nat × (Nat → Int32)} {lv : LV} {h : PH} {c s : Nat} {i : Int32} (hS : S.1 ≤ 3072) (hl : LwS lv i) (hi : 0 ≤ i.toInt ∧ i.toInt + 5 < S.1) (hL : LR h) (hc : c + 8 ≤ 601024) (hs : s + 48 ≤ 7293033) (Nx : ∀ lv' h' c' s', LwS lv' i → LR h' → c' ≤ c + 8 → s' ≤ s + 48 → Vx (Ex S 24) S M_368 [] Q1 2316 lv' [] h' c' s') : Vx (Ex S 24) S M_368 [] Q1 1503 lv [] h c s := by
  have hC := Ex.mono S 24
  refine Vx.go hC te_368_1503 ?_
  refine ⟨_, hl.2.1, ⟨0, Or.inl rfl⟩, ?_⟩
  refine sc_load hC (k := 1) hl te_368_1504 te_368_1505 te_368_1507 te_368_1508 te_368_1509 (sc_in hS hi (by decide)) ?_
  refine sc_load hC (k := 2) hl te_368_1510 te_368_1511 te_368_1513 te_368_1514 te_368_1515 (sc_in hS hi (by decide)) ?_
  refine Vx.go hC te_368_1516 ?_
  refine ⟨by decide, fun q => ?_, fun q => ?_⟩
  · show Vx (Ex S 24) S M_368 [] Q1 1523 lv [.int (S.2 (i + Int32.ofInt 1).toNatClampNeg), .ref 0] h c s
    refine Vx.go hC te_368_1523 ?_
    refine Vx.go hC te_368_1524 ?_
    refine ⟨_, hl.2.2.2.1, ⟨173, Or.inl rfl⟩, ?_⟩
    refine Vx.go hC te_368_1525 ?_
    refine Or.inr ⟨by decide, ?_⟩
    refine p_call_mk (av := [.ref 0, .int (S.2 (i + Int32.ofInt 1).toNatClampNeg), .int (Int32.ofInt 0), .ref 173]) (rest := []) mt_172 rfl (by decide) (show c + 3 ≤ 601024 by omega) (show s + 18 ≤ 7293033 by omega) (fun q => by cases q) ?_
    refine g_172 (n := 6) hL (fun r3 h1 hL2 => ?_)
    show Vx (Ex S 24) S M_368 [] Q1 1528 lv [.int r3] h1 (c + 3) (s + 18)
    refine Vx.go hC te_368_1528 ?_
    refine ⟨by decide, ?_⟩
    have hl4 := LwS.st (j := 5) (v := .int r3) (by omega) hl
    show Vx (Ex S 24) S M_368 [] Q1 1530 (px_s1 lv 5 (.int r3)) [] h1 (c + 3) (s + 18)
    refine Vx.go hC te_368_1530 ?_
    refine ⟨_, hl4.2.2.1, ⟨143, Or.inl rfl⟩, ?_⟩
    refine sc_load hC (k := 1) hl4 te_368_1531 te_368_1532 te_368_1534 te_368_1535 te_368_1536 (sc_in hS hi (by decide)) ?_
    refine sc_load hC (k := 2) hl4 te_368_1537 te_368_1538 te_368_1540 te_368_1541 te_368_1542 (sc_in hS hi (by decide)) ?_
    refine Vx.go hC te_368_1543 ?_
    refine ⟨by decide, fun q => ?_, fun q => ?_⟩
    · show Vx (Ex S 24) S M_368 [] Q1 1550 (px_s1 lv 5 (.int r3)) [.int (S.2 (i + Int32.ofInt 1).toNatClampNeg), .ref 143] h1 (c + 3) (s + 18)
      refine Vx.go hC te_368_1550 ?_
      refine Vx.go hC te_368_1551 ?_
      obtain ⟨gs8, gs8g⟩ := hL2.obj (A := 143) rfl
      have hcall9 := ref_call (S := S) (n := 24) (μ := 332) (args := [.inr 143, .inl ((S.2 (i + Int32.ofInt 1).toNatClampNeg) : Int32).toInt, .inl ((Int32.ofInt 0) : Int32).toInt]) (h := h1) (fun v hv => by simp only [List.mem_cons, List.not_mem_nil, or_false] at hv; rcases hv with rfl | rfl | rfl <;> first | trivial | exact wiI _) hL2 (fun mem hr => f_332 hr (fun r m' a b => ⟨a, b⟩))
      simp only [List.map_cons, List.map_nil, wv, Int32.ofInt_toInt] at hcall9
      refine p_call_mk (av := [.ref 143, .int (S.2 (i + Int32.ofInt 1).toNatClampNeg), .int (Int32.ofInt 0)]) (rest := []) mt_332 rfl (by decide) (show (c + 3) + 0 ≤ 601024 by omega) (show (s + 18) + 0 ≤ 7293033 by omega) (fun _ => ⟨143, gs8, rfl, gs8g⟩) ?_
      refine hC _ _ _ _ _ ?_ hcall9
      rintro _ h5 ⟨hL6, r7, rfl⟩
      show Vx (Ex S 24) S M_368 [] Q1 1554 (px_s1 lv 5 (.int r3)) [.int r7] h5 (c + 3) (s + 18)
      refine Vx.go hC te_368_1554 ?_
      refine ⟨by decide, ?_⟩
      have hl10 := LwS.st (j := 6) (v := .int r7) (by omega) hl4
      show Vx (Ex S 24) S M_368 [] Q1 1556 (px_s1 (px_s1 lv 5 (.int r3)) 6 (.int r7)) [] h5 (c + 3) (s + 18)
      refine Vx.go hC te_368_1556 ?_
      refine ⟨by decide, ?_⟩
      exact Nx _ _ _ _ hl10 hL6 (by omega) (by omega)
    · show Vx (Ex S 24) S M_368 [] Q1 1546 (px_s1 lv 5 (.int r3)) [.int (S.2 (i + Int32.ofInt 1).toNatClampNeg), .ref 143] h1 (c + 3) (s + 18)
      refine Vx.go hC te_368_1546 ?_
      refine Vx.go hC te_368_1547 ?_
      refine ⟨by decide, ?_⟩
      show Vx (Ex S 24) S M_368 [] Q1 1551 (px_s1 lv 5 (.int r3)) [.int (Int32.ofInt 1), .int (S.2 (i + Int32.ofInt 1).toNatClampNeg), .ref 143] h1 (c + 3) (s + 18)
      refine Vx.go hC te_368_1551 ?_
      obtain ⟨gs14, gs14g⟩ := hL2.obj (A := 143) rfl
      have hcall15 := ref_call (S := S) (n := 24) (μ := 332) (args := [.inr 143, .inl ((S.2 (i + Int32.ofInt 1).toNatClampNeg) : Int32).toInt, .inl ((Int32.ofInt 1) : Int32).toInt]) (h := h1) (fun v hv => by simp only [List.mem_cons, List.not_mem_nil, or_false] at hv; rcases hv with rfl | rfl | rfl <;> first | trivial | exact wiI _) hL2 (fun mem hr => f_332 hr (fun r m' a b => ⟨a, b⟩))
      simp only [List.map_cons, List.map_nil, wv, Int32.ofInt_toInt] at hcall15
      refine p_call_mk (av := [.ref 143, .int (S.2 (i + Int32.ofInt 1).toNatClampNeg), .int (Int32.ofInt 1)]) (rest := []) mt_332 rfl (by decide) (show (c + 3) + 0 ≤ 601024 by omega) (show (s + 18) + 0 ≤ 7293033 by omega) (fun _ => ⟨143, gs14, rfl, gs14g⟩) ?_
      refine hC _ _ _ _ _ ?_ hcall15
      rintro _ h11 ⟨hL12, r13, rfl⟩
      show Vx (Ex S 24) S M_368 [] Q1 1554 (px_s1 lv 5 (.int r3)) [.int r13] h11 (c + 3) (s + 18)
      refine Vx.go hC te_368_1554 ?_
      refine ⟨by decide, ?_⟩
      have hl16 := LwS.st (j := 6) (v := .int r13) (by omega) hl4
      show Vx (Ex S 24) S M_368 [] Q1 1556 (px_s1 (px_s1 lv 5 (.int r3)) 6 (.int r13)) [] h11 (c + 3) (s + 18)
      refine Vx.go hC te_368_1556 ?_
      refine ⟨by decide, ?_⟩
      exact Nx _ _ _ _ hl16 hL12 (by omega) (by omega)
  · show Vx (Ex S 24) S M_368 [] Q1 1519 lv [.int (S.2 (i + Int32.ofInt 1).toNatClampNeg), .ref 0] h c s
    refine Vx.go hC te_368_1519 ?_
    refine Vx.go hC te_368_1520 ?_
    refine ⟨by decide, ?_⟩
    show Vx (Ex S 24) S M_368 [] Q1 1524 lv [.int (Int32.ofInt 1), .int (S.2 (i + Int32.ofInt 1).toNatClampNeg), .ref 0] h c s
    refine Vx.go hC te_368_1524 ?_
    refine ⟨_, hl.2.2.2.1, ⟨173, Or.inl rfl⟩, ?_⟩
    refine Vx.go hC te_368_1525 ?_
    refine Or.inr ⟨by decide, ?_⟩
    refine p_call_mk (av := [.ref 0, .int (S.2 (i + Int32.ofInt 1).toNatClampNeg), .int (Int32.ofInt 1), .ref 173]) (rest := []) mt_172 rfl (by decide) (show c + 3 ≤ 601024 by omega) (show s + 18 ≤ 7293033 by omega) (fun q => by cases q) ?_
    refine g_172 (n := 6) hL (fun r19 h17 hL18 => ?_)
    show Vx (Ex S 24) S M_368 [] Q1 1528 lv [.int r19] h17 (c + 3) (s + 18)
    refine Vx.go hC te_368_1528 ?_
    refine ⟨by decide, ?_⟩
    have hl20 := LwS.st (j := 5) (v := .int r19) (by omega) hl
    show Vx (Ex S 24) S M_368 [] Q1 1530 (px_s1 lv 5 (.int r19)) [] h17 (c + 3) (s + 18)
    refine Vx.go hC te_368_1530 ?_
    refine ⟨_, hl20.2.2.1, ⟨143, Or.inl rfl⟩, ?_⟩
    refine sc_load hC (k := 1) hl20 te_368_1531 te_368_1532 te_368_1534 te_368_1535 te_368_1536 (sc_in hS hi (by decide)) ?_
    refine sc_load hC (k := 2) hl20 te_368_1537 te_368_1538 te_368_1540 te_368_1541 te_368_1542 (sc_in hS hi (by decide)) ?_
    refine Vx.go hC te_368_1543 ?_
    refine ⟨by decide, fun q => ?_, fun q => ?_⟩
    · show Vx (Ex S 24) S M_368 [] Q1 1550 (px_s1 lv 5 (.int r19)) [.int (S.2 (i + Int32.ofInt 1).toNatClampNeg), .ref 143] h17 (c + 3) (s + 18)
      refine Vx.go hC te_368_1550 ?_
      refine Vx.go hC te_368_1551 ?_
      obtain ⟨gs24, gs24g⟩ := hL18.obj (A := 143) rfl
      have hcall25 := ref_call (S := S) (n := 24) (μ := 332) (args := [.inr 143, .inl ((S.2 (i + Int32.ofInt 1).toNatClampNeg) : Int32).toInt, .inl ((Int32.ofInt 0) : Int32).toInt]) (h := h17) (fun v hv => by simp only [List.mem_cons, List.not_mem_nil, or_false] at hv; rcases hv with rfl | rfl | rfl <;> first | trivial | exact wiI _) hL18 (fun mem hr => f_332 hr (fun r m' a b => ⟨a, b⟩))
      simp only [List.map_cons, List.map_nil, wv, Int32.ofInt_toInt] at hcall25
      refine p_call_mk (av := [.ref 143, .int (S.2 (i + Int32.ofInt 1).toNatClampNeg), .int (Int32.ofInt 0)]) (rest := []) mt_332 rfl (by decide) (show (c + 3) + 0 ≤ 601024 by omega) (show (s + 18) + 0 ≤ 7293033 by omega) (fun _ => ⟨143, gs24, rfl, gs24g⟩) ?_
      refine hC _ _ _ _ _ ?_ hcall25
      rintro _ h21 ⟨hL22, r23, rfl⟩
      show Vx (Ex S 24) S M_368 [] Q1 1554 (px_s1 lv 5 (.int r19)) [.int r23] h21 (c + 3) (s + 18)
      refine Vx.go hC te_368_1554 ?_
      refine ⟨by decide, ?_⟩
      have hl26 := LwS.st (j := 6) (v := .int r23) (by omega) hl20
      show Vx (Ex S 24) S M_368 [] Q1 1556 (px_s1 (px_s1 lv 5 (.int r19)) 6 (.int r23)) [] h21 (c + 3) (s + 18)
      refine Vx.go hC te_368_1556 ?_
      refine ⟨by decide, ?_⟩
      exact Nx _ _ _ _ hl26 hL22 (by omega) (by omega)
    · show Vx (Ex S 24) S M_368 [] Q1 1546 (px_s1 lv 5 (.int r19)) [.int (S.2 (i + Int32.ofInt 1).toNatClampNeg), .ref 143] h17 (c + 3) (s + 18)
      refine Vx.go hC te_368_1546 ?_
      refine Vx.go hC te_368_1547 ?_
      refine ⟨by decide, ?_⟩
      show Vx (Ex S 24) S M_368 [] Q1 1551 (px_s1 lv 5 (.int r19)) [.int (Int32.ofInt 1), .int (S.2 (i + Int32.ofInt 1).toNatClampNeg), .ref 143] h17 (c + 3) (s + 18)
      refine Vx.go hC te_368_1551 ?_
      obtain ⟨gs30, gs30g⟩ := hL18.obj (A := 143) rfl
      have hcall31 := ref_call (S := S) (n := 24) (μ := 332) (args := [.inr 143, .inl ((S.2 (i + Int32.ofInt 1).toNatClampNeg) : Int32).toInt, .inl ((Int32.ofInt 1) : Int32).toInt]) (h := h17) (fun v hv => by simp only [List.mem_cons, List.not_mem_nil, or_false] at hv; rcases hv with rfl | rfl | rfl <;> first | trivial | exact wiI _) hL18 (fun mem hr => f_332 hr (fun r m' a b => ⟨a, b⟩))
      simp only [List.map_cons, List.map_nil, wv, Int32.ofInt_toInt] at hcall31
      refine p_call_mk (av := [.ref 143, .int (S.2 (i + Int32.ofInt 1).toNatClampNeg), .int (Int32.ofInt 1)]) (rest := []) mt_332 rfl (by decide) (show (c + 3) + 0 ≤ 601024 by omega) (show (s + 18) + 0 ≤ 7293033 by omega) (fun _ => ⟨143, gs30, rfl, gs30g⟩) ?_
      refine hC _ _ _ _ _ ?_ hcall31
      rintro _ h27 ⟨hL28, r29, rfl⟩
      show Vx (Ex S 24) S M_368 [] Q1 1554 (px_s1 lv 5 (.int r19)) [.int r29] h27 (c + 3) (s + 18)
      refine Vx.go hC te_368_1554 ?_
      refine ⟨by decide, ?_⟩
      have hl32 := LwS.st (j := 6) (v := .int r29) (by omega) hl20
      show Vx (Ex S 24) S M_368 [] Q1 1556 (px_s1 (px_s1 lv 5 (.int r19)) 6 (.int r29)) [] h27 (c + 3) (s + 18)
      refine Vx.go hC te_368_1556 ?_
      refine ⟨by decide, ?_⟩
      exact Nx _ _ _ _ hl32 hL28 (by omega) (by omega)
theorem lc_30 {S : Nat × (Nat → Int32)} {lv : LV} {h : PH} {c s : Nat} {i : Int32} (hS : S.1 ≤ 3072) (hl : LwS lv i) (hi : 0 ≤ i.toInt ∧ i.toInt + 5 < S.1) (hL : LR h) (hc : c + 8 ≤ 601024) (hs : s + 48 ≤ 7293033) (Nx : ∀ lv' h' c' s', LwS lv' i → LR h' → c' ≤ c + 8 → s' ≤ s + 48 → Vx (Ex S 24) S M_368 [] Q1 2316 lv' [] h' c' s') : Vx (Ex S 24) S M_368 [] Q1 1559 lv [] h c s := by
  have hC := Ex.mono S 24
  refine Vx.go hC te_368_1559 ?_
  refine ⟨_, hl.2.1, ⟨0, Or.inl rfl⟩, ?_⟩
  refine sc_load hC (k := 1) hl te_368_1560 te_368_1561 te_368_1563 te_368_1564 te_368_1565 (sc_in hS hi (by decide)) ?_
  refine sc_load hC (k := 2) hl te_368_1566 te_368_1567 te_368_1569 te_368_1570 te_368_1571 (sc_in hS hi (by decide)) ?_
  refine sc_load hC (k := 3) hl te_368_1572 te_368_1573 te_368_1575 te_368_1576 te_368_1577 (sc_in hS hi (by decide)) ?_
  refine Vx.go hC te_368_1578 ?_
  refine ⟨by decide, fun q => ?_, fun q => ?_⟩
  · show Vx (Ex S 24) S M_368 [] Q1 1585 lv [.int (S.2 (i + Int32.ofInt 2).toNatClampNeg), .int (S.2 (i + Int32.ofInt 1).toNatClampNeg), .ref 0] h c s
    refine Vx.go hC te_368_1585 ?_
    refine Vx.go hC te_368_1586 ?_
    refine ⟨_, hl.2.2.2.1, ⟨173, Or.inl rfl⟩, ?_⟩
    refine Vx.go hC te_368_1587 ?_
    refine Or.inr ⟨by decide, ?_⟩
    refine p_call_mk (av := [.ref 0, .int (S.2 (i + Int32.ofInt 1).toNatClampNeg), .int (S.2 (i + Int32.ofInt 2).toNatClampNeg), .int (Int32.ofInt 0), .ref 173]) (rest := []) mt_174 rfl (by decide) (show c + 5 ≤ 601024 by omega) (show s + 30 ≤ 7293033 by omega) (fun q => by cases q) ?_
    refine g_174 (n := 6) hL (fun r3 h1 hL2 => ?_)
    show Vx (Ex S 24) S M_368 [] Q1 1590 lv [.int r3] h1 (c + 5) (s + 30)
    refine Vx.go hC te_368_1590 ?_
    refine ⟨by decide, ?_⟩
    have hl4 := LwS.st (j := 5) (v := .int r3) (by omega) hl
    show Vx (Ex S 24) S M_368 [] Q1 1592 (px_s1 lv 5 (.int r3)) [] h1 (c + 5) (s + 30)
    refine Vx.go hC te_368_1592 ?_
    refine ⟨_, hl4.2.2.1, ⟨143, Or.inl rfl⟩, ?_⟩
    refine sc_load hC (k := 1) hl4 te_368_1593 te_368_1594 te_368_1596 te_368_1597 te_368_1598 (sc_in hS hi (by decide)) ?_
    refine sc_load hC (k := 2) hl4 te_368_1599 te_368_1600 te_368_1602 te_368_1603 te_368_1604 (sc_in hS hi (by decide)) ?_
    refine sc_load hC (k := 3) hl4 te_368_1605 te_368_1606 te_368_1608 te_368_1609 te_368_1610 (sc_in hS hi (by decide)) ?_
    refine Vx.go hC te_368_1611 ?_
    refine ⟨by decide, fun q => ?_, fun q => ?_⟩
    · show Vx (Ex S 24) S M_368 [] Q1 1618 (px_s1 lv 5 (.int r3)) [.int (S.2 (i + Int32.ofInt 2).toNatClampNeg), .int (S.2 (i + Int32.ofInt 1).toNatClampNeg), .ref 143] h1 (c + 5) (s + 30)
      refine Vx.go hC te_368_1618 ?_
      refine Vx.go hC te_368_1619 ?_
      obtain ⟨gs8, gs8g⟩ := hL2.obj (A := 143) rfl
      have hcall9 := ref_call (S := S) (n := 24) (μ := 333) (args := [.inr 143, .inl ((S.2 (i + Int32.ofInt 1).toNatClampNeg) : Int32).toInt, .inl ((S.2 (i + Int32.ofInt 2).toNatClampNeg) : Int32).toInt, .inl ((Int32.ofInt 0) : Int32).toInt]) (h := h1) (fun v hv => by simp only [List.mem_cons, List.not_mem_nil, or_false] at hv; rcases hv with rfl | rfl | rfl | rfl <;> first | trivial | exact wiI _) hL2 (fun mem hr => f_333 hr (fun r m' a b => ⟨a, b⟩))
      simp only [List.map_cons, List.map_nil, wv, Int32.ofInt_toInt] at hcall9
      refine p_call_mk (av := [.ref 143, .int (S.2 (i + Int32.ofInt 1).toNatClampNeg), .int (S.2 (i + Int32.ofInt 2).toNatClampNeg), .int (Int32.ofInt 0)]) (rest := []) mt_333 rfl (by decide) (show (c + 5) + 0 ≤ 601024 by omega) (show (s + 30) + 0 ≤ 7293033 by omega) (fun _ => ⟨143, gs8, rfl, gs8g⟩) ?_
      refine hC _ _ _ _ _ ?_ hcall9
      rintro _ h5 ⟨hL6, r7, rfl⟩
      show Vx (Ex S 24) S M_368 [] Q1 1622 (px_s1 lv 5 (.int r3)) [.int r7] h5 (c + 5) (s + 30)
      refine Vx.go hC te_368_1622 ?_
      refine ⟨by decide, ?_⟩
      have hl10 := LwS.st (j := 6) (v := .int r7) (by omega) hl4
      show Vx (Ex S 24) S M_368 [] Q1 1624 (px_s1 (px_s1 lv 5 (.int r3)) 6 (.int r7)) [] h5 (c + 5) (s + 30)
      refine Vx.go hC te_368_1624 ?_
      refine ⟨by decide, ?_⟩
      exact Nx _ _ _ _ hl10 hL6 (by omega) (by omega)
    · show Vx (Ex S 24) S M_368 [] Q1 1614 (px_s1 lv 5 (.int r3)) [.int (S.2 (i + Int32.ofInt 2).toNatClampNeg), .int (S.2 (i + Int32.ofInt 1).toNatClampNeg), .ref 143] h1 (c + 5) (s + 30)
      refine Vx.go hC te_368_1614 ?_
      refine Vx.go hC te_368_1615 ?_
      refine ⟨by decide, ?_⟩
      show Vx (Ex S 24) S M_368 [] Q1 1619 (px_s1 lv 5 (.int r3)) [.int (Int32.ofInt 1), .int (S.2 (i + Int32.ofInt 2).toNatClampNeg), .int (S.2 (i + Int32.ofInt 1).toNatClampNeg), .ref 143] h1 (c + 5) (s + 30)
      refine Vx.go hC te_368_1619 ?_
      obtain ⟨gs14, gs14g⟩ := hL2.obj (A := 143) rfl
      have hcall15 := ref_call (S := S) (n := 24) (μ := 333) (args := [.inr 143, .inl ((S.2 (i + Int32.ofInt 1).toNatClampNeg) : Int32).toInt, .inl ((S.2 (i + Int32.ofInt 2).toNatClampNeg) : Int32).toInt, .inl ((Int32.ofInt 1) : Int32).toInt]) (h := h1) (fun v hv => by simp only [List.mem_cons, List.not_mem_nil, or_false] at hv; rcases hv with rfl | rfl | rfl | rfl <;> first | trivial | exact wiI _) hL2 (fun mem hr => f_333 hr (fun r m' a b => ⟨a, b⟩))
      simp only [List.map_cons, List.map_nil, wv, Int32.ofInt_toInt] at hcall15
      refine p_call_mk (av := [.ref 143, .int (S.2 (i + Int32.ofInt 1).toNatClampNeg), .int (S.2 (i + Int32.ofInt 2).toNatClampNeg), .int (Int32.ofInt 1)]) (rest := []) mt_333 rfl (by decide) (show (c + 5) + 0 ≤ 601024 by omega) (show (s + 30) + 0 ≤ 7293033 by omega) (fun _ => ⟨143, gs14, rfl, gs14g⟩) ?_
      refine hC _ _ _ _ _ ?_ hcall15
      rintro _ h11 ⟨hL12, r13, rfl⟩
      show Vx (Ex S 24) S M_368 [] Q1 1622 (px_s1 lv 5 (.int r3)) [.int r13] h11 (c + 5) (s + 30)
      refine Vx.go hC te_368_1622 ?_
      refine ⟨by decide, ?_⟩
      have hl16 := LwS.st (j := 6) (v := .int r13) (by omega) hl4
      show Vx (Ex S 24) S M_368 [] Q1 1624 (px_s1 (px_s1 lv 5 (.int r3)) 6 (.int r13)) [] h11 (c + 5) (s + 30)
      refine Vx.go hC te_368_1624 ?_
      refine ⟨by decide, ?_⟩
      exact Nx _ _ _ _ hl16 hL12 (by omega) (by omega)
  · show Vx (Ex S 24) S M_368 [] Q1 1581 lv [.int (S.2 (i + Int32.ofInt 2).toNatClampNeg), .int (S.2 (i + Int32.ofInt 1).toNatClampNeg), .ref 0] h c s
    refine Vx.go hC te_368_1581 ?_
    refine Vx.go hC te_368_1582 ?_
    refine ⟨by decide, ?_⟩
    show Vx (Ex S 24) S M_368 [] Q1 1586 lv [.int (Int32.ofInt 1), .int (S.2 (i + Int32.ofInt 2).toNatClampNeg), .int (S.2 (i + Int32.ofInt 1).toNatClampNeg), .ref 0] h c s
    refine Vx.go hC te_368_1586 ?_
    refine ⟨_, hl.2.2.2.1, ⟨173, Or.inl rfl⟩, ?_⟩
    refine Vx.go hC te_368_1587 ?_
    refine Or.inr ⟨by decide, ?_⟩
    refine p_call_mk (av := [.ref 0, .int (S.2 (i + Int32.ofInt 1).toNatClampNeg), .int (S.2 (i + Int32.ofInt 2).toNatClampNeg), .int (Int32.ofInt 1), .ref 173]) (rest := []) mt_174 rfl (by decide) (show c + 5 ≤ 601024 by omega) (show s + 30 ≤ 7293033 by omega) (fun q => by cases q) ?_
    refine g_174 (n := 6) hL (fun r19 h17 hL18 => ?_)
    show Vx (Ex S 24) S M_368 [] Q1 1590 lv [.int r19] h17 (c + 5) (s + 30)
    refine Vx.go hC te_368_1590 ?_
    refine ⟨by decide, ?_⟩
    have hl20 := LwS.st (j := 5) (v := .int r19) (by omega) hl
    show Vx (Ex S 24) S M_368 [] Q1 1592 (px_s1 lv 5 (.int r19)) [] h17 (c + 5) (s + 30)
    refine Vx.go hC te_368_1592 ?_
    refine ⟨_, hl20.2.2.1, ⟨143, Or.inl rfl⟩, ?_⟩
    refine sc_load hC (k := 1) hl20 te_368_1593 te_368_1594 te_368_1596 te_368_1597 te_368_1598 (sc_in hS hi (by decide)) ?_
    refine sc_load hC (k := 2) hl20 te_368_1599 te_368_1600 te_368_1602 te_368_1603 te_368_1604 (sc_in hS hi (by decide)) ?_
    refine sc_load hC (k := 3) hl20 te_368_1605 te_368_1606 te_368_1608 te_368_1609 te_368_1610 (sc_in hS hi (by decide)) ?_
    refine Vx.go hC te_368_1611 ?_
    refine ⟨by decide, fun q => ?_, fun q => ?_⟩
    · show Vx (Ex S 24) S M_368 [] Q1 1618 (px_s1 lv 5 (.int r19)) [.int (S.2 (i + Int32.ofInt 2).toNatClampNeg), .int (S.2 (i + Int32.ofInt 1).toNatClampNeg), .ref 143] h17 (c + 5) (s + 30)
      refine Vx.go hC te_368_1618 ?_
      refine Vx.go hC te_368_1619 ?_
      obtain ⟨gs24, gs24g⟩ := hL18.obj (A := 143) rfl
      have hcall25 := ref_call (S := S) (n := 24) (μ := 333) (args := [.inr 143, .inl ((S.2 (i + Int32.ofInt 1).toNatClampNeg) : Int32).toInt, .inl ((S.2 (i + Int32.ofInt 2).toNatClampNeg) : Int32).toInt, .inl ((Int32.ofInt 0) : Int32).toInt]) (h := h17) (fun v hv => by simp only [List.mem_cons, List.not_mem_nil, or_false] at hv; rcases hv with rfl | rfl | rfl | rfl <;> first | trivial | exact wiI _) hL18 (fun mem hr => f_333 hr (fun r m' a b => ⟨a, b⟩))
      simp only [List.map_cons, List.map_nil, wv, Int32.ofInt_toInt] at hcall25
      refine p_call_mk (av := [.ref 143, .int (S.2 (i + Int32.ofInt 1).toNatClampNeg), .int (S.2 (i + Int32.ofInt 2).toNatClampNeg), .int (Int32.ofInt 0)]) (rest := []) mt_333 rfl (by decide) (show (c + 5) + 0 ≤ 601024 by omega) (show (s + 30) + 0 ≤ 7293033 by omega) (fun _ => ⟨143, gs24, rfl, gs24g⟩) ?_
      refine hC _ _ _ _ _ ?_ hcall25
      rintro _ h21 ⟨hL22, r23, rfl⟩
      show Vx (Ex S 24) S M_368 [] Q1 1622 (px_s1 lv 5 (.int r19)) [.int r23] h21 (c + 5) (s + 30)
      refine Vx.go hC te_368_1622 ?_
      refine ⟨by decide, ?_⟩
      have hl26 := LwS.st (j := 6) (v := .int r23) (by omega) hl20
      show Vx (Ex S 24) S M_368 [] Q1 1624 (px_s1 (px_s1 lv 5 (.int r19)) 6 (.int r23)) [] h21 (c + 5) (s + 30)
      refine Vx.go hC te_368_1624 ?_
      refine ⟨by decide, ?_⟩
      exact Nx _ _ _ _ hl26 hL22 (by omega) (by omega)
    · show Vx (Ex S 24) S M_368 [] Q1 1614 (px_s1 lv 5 (.int r19)) [.int (S.2 (i + Int32.ofInt 2).toNatClampNeg), .int (S.2 (i + Int32.ofInt 1).toNatClampNeg), .ref 143] h17 (c + 5) (s + 30)
      refine Vx.go hC te_368_1614 ?_
      refine Vx.go hC te_368_1615 ?_
      refine ⟨by decide, ?_⟩
      show Vx (Ex S 24) S M_368 [] Q1 1619 (px_s1 lv 5 (.int r19)) [.int (Int32.ofInt 1), .int (S.2 (i + Int32.ofInt 2).toNatClampNeg), .int (S.2 (i + Int32.ofInt 1).toNatClampNeg), .ref 143] h17 (c + 5) (s + 30)
      refine Vx.go hC te_368_1619 ?_
      obtain ⟨gs30, gs30g⟩ := hL18.obj (A := 143) rfl
      have hcall31 := ref_call (S := S) (n := 24) (μ := 333) (args := [.inr 143, .inl ((S.2 (i + Int32.ofInt 1).toNatClampNeg) : Int32).toInt, .inl ((S.2 (i + Int32.ofInt 2).toNatClampNeg) : Int32).toInt, .inl ((Int32.ofInt 1) : Int32).toInt]) (h := h17) (fun v hv => by simp only [List.mem_cons, List.not_mem_nil, or_false] at hv; rcases hv with rfl | rfl | rfl | rfl <;> first | trivial | exact wiI _) hL18 (fun mem hr => f_333 hr (fun r m' a b => ⟨a, b⟩))
      simp only [List.map_cons, List.map_nil, wv, Int32.ofInt_toInt] at hcall31
      refine p_call_mk (av := [.ref 143, .int (S.2 (i + Int32.ofInt 1).toNatClampNeg), .int (S.2 (i + Int32.ofInt 2).toNatClampNeg), .int (Int32.ofInt 1)]) (rest := []) mt_333 rfl (by decide) (show (c + 5) + 0 ≤ 601024 by omega) (show (s + 30) + 0 ≤ 7293033 by omega) (fun _ => ⟨143, gs30, rfl, gs30g⟩) ?_
      refine hC _ _ _ _ _ ?_ hcall31
      rintro _ h27 ⟨hL28, r29, rfl⟩
      show Vx (Ex S 24) S M_368 [] Q1 1622 (px_s1 lv 5 (.int r19)) [.int r29] h27 (c + 5) (s + 30)
      refine Vx.go hC te_368_1622 ?_
      refine ⟨by decide, ?_⟩
      have hl32 := LwS.st (j := 6) (v := .int r29) (by omega) hl20
      show Vx (Ex S 24) S M_368 [] Q1 1624 (px_s1 (px_s1 lv 5 (.int r19)) 6 (.int r29)) [] h27 (c + 5) (s + 30)
      refine Vx.go hC te_368_1624 ?_
      refine ⟨by decide, ?_⟩
      exact Nx _ _ _ _ hl32 hL28 (by omega) (by omega)
theorem lc_31 {S : Nat × (Nat → Int32)} {lv : LV} {h : PH} {c s : Nat} {i : Int32} (hS : S.1 ≤ 3072) (hl : LwS lv i) (hi : 0 ≤ i.toInt ∧ i.toInt + 5 < S.1) (hL : LR h) (hc : c + 8 ≤ 601024) (hs : s + 48 ≤ 7293033) (Nx : ∀ lv' h' c' s', LwS lv' i → LR h' → c' ≤ c + 8 → s' ≤ s + 48 → Vx (Ex S 24) S M_368 [] Q1 2316 lv' [] h' c' s') : Vx (Ex S 24) S M_368 [] Q1 1627 lv [] h c s := by
  have hC := Ex.mono S 24
  refine Vx.go hC te_368_1627 ?_
  refine ⟨_, hl.2.1, ⟨0, Or.inl rfl⟩, ?_⟩
  refine sc_load hC (k := 1) hl te_368_1628 te_368_1629 te_368_1631 te_368_1632 te_368_1633 (sc_in hS hi (by decide)) ?_
  refine Vx.go hC te_368_1634 ?_
  refine ⟨_, hl.2.2.2.1, ⟨173, Or.inl rfl⟩, ?_⟩
  refine Vx.go hC te_368_1635 ?_
  refine Or.inr ⟨by decide, ?_⟩
  refine p_call_mk (av := [.ref 0, .int (S.2 (i + Int32.ofInt 1).toNatClampNeg), .ref 173]) (rest := []) mt_177 rfl (by decide) (show c + 3 ≤ 601024 by omega) (show s + 18 ≤ 7293033 by omega) (fun q => by cases q) ?_
  refine g_177 (n := 6) hL (fun r3 h1 hL2 => ?_)
  show Vx (Ex S 24) S M_368 [] Q1 1638 lv [.int r3] h1 (c + 3) (s + 18)
  refine Vx.go hC te_368_1638 ?_
  refine ⟨by decide, ?_⟩
  have hl4 := LwS.st (j := 5) (v := .int r3) (by omega) hl
  show Vx (Ex S 24) S M_368 [] Q1 1640 (px_s1 lv 5 (.int r3)) [] h1 (c + 3) (s + 18)
  refine Vx.go hC te_368_1640 ?_
  refine ⟨_, hl4.2.2.1, ⟨143, Or.inl rfl⟩, ?_⟩
  refine sc_load hC (k := 1) hl4 te_368_1641 te_368_1642 te_368_1644 te_368_1645 te_368_1646 (sc_in hS hi (by decide)) ?_
  refine Vx.go hC te_368_1647 ?_
  obtain ⟨gs8, gs8g⟩ := hL2.obj (A := 143) rfl
  have hcall9 := ref_call (S := S) (n := 24) (μ := 337) (args := [.inr 143, .inl ((S.2 (i + Int32.ofInt 1).toNatClampNeg) : Int32).toInt]) (h := h1) (fun v hv => by simp only [List.mem_cons, List.not_mem_nil, or_false] at hv; rcases hv with rfl | rfl <;> first | trivial | exact wiI _) hL2 (fun mem hr => f_337 hr (fun r m' a b => ⟨a, b⟩))
  simp only [List.map_cons, List.map_nil, wv, Int32.ofInt_toInt] at hcall9
  refine p_call_mk (av := [.ref 143, .int (S.2 (i + Int32.ofInt 1).toNatClampNeg)]) (rest := []) mt_337 rfl (by decide) (show (c + 3) + 0 ≤ 601024 by omega) (show (s + 18) + 0 ≤ 7293033 by omega) (fun _ => ⟨143, gs8, rfl, gs8g⟩) ?_
  refine hC _ _ _ _ _ ?_ hcall9
  rintro _ h5 ⟨hL6, r7, rfl⟩
  show Vx (Ex S 24) S M_368 [] Q1 1650 (px_s1 lv 5 (.int r3)) [.int r7] h5 (c + 3) (s + 18)
  refine Vx.go hC te_368_1650 ?_
  refine ⟨by decide, ?_⟩
  have hl10 := LwS.st (j := 6) (v := .int r7) (by omega) hl4
  show Vx (Ex S 24) S M_368 [] Q1 1652 (px_s1 (px_s1 lv 5 (.int r3)) 6 (.int r7)) [] h5 (c + 3) (s + 18)
  refine Vx.go hC te_368_1652 ?_
  refine ⟨by decide, ?_⟩
  exact Nx _ _ _ _ hl10 hL6 (by omega) (by omega)
theorem lc_32 {S : Nat × (Nat → Int32)} {lv : LV} {h : PH} {c s : Nat} {i : Int32} (hS : S.1 ≤ 3072) (hl : LwS lv i) (hi : 0 ≤ i.toInt ∧ i.toInt + 5 < S.1) (hL : LR h) (hc : c + 8 ≤ 601024) (hs : s + 48 ≤ 7293033) (Nx : ∀ lv' h' c' s', LwS lv' i → LR h' → c' ≤ c + 8 → s' ≤ s + 48 → Vx (Ex S 24) S M_368 [] Q1 2316 lv' [] h' c' s') : Vx (Ex S 24) S M_368 [] Q1 1655 lv [] h c s := by
  have hC := Ex.mono S 24
  refine Vx.go hC te_368_1655 ?_
  refine ⟨_, hl.2.1, ⟨0, Or.inl rfl⟩, ?_⟩
  refine sc_load hC (k := 1) hl te_368_1656 te_368_1657 te_368_1659 te_368_1660 te_368_1661 (sc_in hS hi (by decide)) ?_
  refine sc_load hC (k := 2) hl te_368_1662 te_368_1663 te_368_1665 te_368_1666 te_368_1667 (sc_in hS hi (by decide)) ?_
  refine sc_load hC (k := 3) hl te_368_1668 te_368_1669 te_368_1671 te_368_1672 te_368_1673 (sc_in hS hi (by decide)) ?_
  refine Vx.go hC te_368_1674 ?_
  refine ⟨_, hl.2.2.2.1, ⟨173, Or.inl rfl⟩, ?_⟩
  refine Vx.go hC te_368_1675 ?_
  refine Or.inr ⟨by decide, ?_⟩
  refine p_call_mk (av := [.ref 0, .int (S.2 (i + Int32.ofInt 1).toNatClampNeg), .int (S.2 (i + Int32.ofInt 2).toNatClampNeg), .int (S.2 (i + Int32.ofInt 3).toNatClampNeg), .ref 173]) (rest := []) mt_182 rfl (by decide) (show c + 6 ≤ 601024 by omega) (show s + 36 ≤ 7293033 by omega) (fun q => by cases q) ?_
  refine g_182 (n := 6) hL (fun r3 h1 hL2 => ?_)
  show Vx (Ex S 24) S M_368 [] Q1 1678 lv [.int r3] h1 (c + 6) (s + 36)
  refine Vx.go hC te_368_1678 ?_
  refine ⟨by decide, ?_⟩
  have hl4 := LwS.st (j := 5) (v := .int r3) (by omega) hl
  show Vx (Ex S 24) S M_368 [] Q1 1680 (px_s1 lv 5 (.int r3)) [] h1 (c + 6) (s + 36)
  refine Vx.go hC te_368_1680 ?_
  refine ⟨_, hl4.2.2.1, ⟨143, Or.inl rfl⟩, ?_⟩
  refine sc_load hC (k := 1) hl4 te_368_1681 te_368_1682 te_368_1684 te_368_1685 te_368_1686 (sc_in hS hi (by decide)) ?_
  refine sc_load hC (k := 2) hl4 te_368_1687 te_368_1688 te_368_1690 te_368_1691 te_368_1692 (sc_in hS hi (by decide)) ?_
  refine sc_load hC (k := 3) hl4 te_368_1693 te_368_1694 te_368_1696 te_368_1697 te_368_1698 (sc_in hS hi (by decide)) ?_
  refine Vx.go hC te_368_1699 ?_
  obtain ⟨gs8, gs8g⟩ := hL2.obj (A := 143) rfl
  have hcall9 := ref_call (S := S) (n := 24) (μ := 342) (args := [.inr 143, .inl ((S.2 (i + Int32.ofInt 1).toNatClampNeg) : Int32).toInt, .inl ((S.2 (i + Int32.ofInt 2).toNatClampNeg) : Int32).toInt, .inl ((S.2 (i + Int32.ofInt 3).toNatClampNeg) : Int32).toInt]) (h := h1) (fun v hv => by simp only [List.mem_cons, List.not_mem_nil, or_false] at hv; rcases hv with rfl | rfl | rfl | rfl <;> first | trivial | exact wiI _) hL2 (fun mem hr => f_342 hr (fun r m' a b => ⟨a, b⟩))
  simp only [List.map_cons, List.map_nil, wv, Int32.ofInt_toInt] at hcall9
  refine p_call_mk (av := [.ref 143, .int (S.2 (i + Int32.ofInt 1).toNatClampNeg), .int (S.2 (i + Int32.ofInt 2).toNatClampNeg), .int (S.2 (i + Int32.ofInt 3).toNatClampNeg)]) (rest := []) mt_342 rfl (by decide) (show (c + 6) + 0 ≤ 601024 by omega) (show (s + 36) + 0 ≤ 7293033 by omega) (fun _ => ⟨143, gs8, rfl, gs8g⟩) ?_
  refine hC _ _ _ _ _ ?_ hcall9
  rintro _ h5 ⟨hL6, r7, rfl⟩
  show Vx (Ex S 24) S M_368 [] Q1 1702 (px_s1 lv 5 (.int r3)) [.int r7] h5 (c + 6) (s + 36)
  refine Vx.go hC te_368_1702 ?_
  refine ⟨by decide, ?_⟩
  have hl10 := LwS.st (j := 6) (v := .int r7) (by omega) hl4
  show Vx (Ex S 24) S M_368 [] Q1 1704 (px_s1 (px_s1 lv 5 (.int r3)) 6 (.int r7)) [] h5 (c + 6) (s + 36)
  refine Vx.go hC te_368_1704 ?_
  refine ⟨by decide, ?_⟩
  exact Nx _ _ _ _ hl10 hL6 (by omega) (by omega)
theorem lc_33 {S : Nat × (Nat → Int32)} {lv : LV} {h : PH} {c s : Nat} {i : Int32} (hS : S.1 ≤ 3072) (hl : LwS lv i) (hi : 0 ≤ i.toInt ∧ i.toInt + 5 < S.1) (hL : LR h) (hc : c + 8 ≤ 601024) (hs : s + 48 ≤ 7293033) (Nx : ∀ lv' h' c' s', LwS lv' i → LR h' → c' ≤ c + 8 → s' ≤ s + 48 → Vx (Ex S 24) S M_368 [] Q1 2316 lv' [] h' c' s') : Vx (Ex S 24) S M_368 [] Q1 1707 lv [] h c s := by
  have hC := Ex.mono S 24
  refine Vx.go hC te_368_1707 ?_
  refine ⟨_, hl.2.1, ⟨0, Or.inl rfl⟩, ?_⟩
  refine sc_load hC (k := 1) hl te_368_1708 te_368_1709 te_368_1711 te_368_1712 te_368_1713 (sc_in hS hi (by decide)) ?_
  refine sc_load hC (k := 2) hl te_368_1714 te_368_1715 te_368_1717 te_368_1718 te_368_1719 (sc_in hS hi (by decide)) ?_
  refine sc_load hC (k := 3) hl te_368_1720 te_368_1721 te_368_1723 te_368_1724 te_368_1725 (sc_in hS hi (by decide)) ?_
  refine sc_load hC (k := 4) hl te_368_1726 te_368_1727 te_368_1729 te_368_1730 te_368_1731 (sc_in hS hi (by decide)) ?_
  refine sc_load hC (k := 5) hl te_368_1732 te_368_1733 te_368_1735 te_368_1736 te_368_1737 (sc_in hS hi (by decide)) ?_
  refine Vx.go hC te_368_1738 ?_
  refine ⟨_, hl.2.2.2.1, ⟨173, Or.inl rfl⟩, ?_⟩
  refine Vx.go hC te_368_1739 ?_
  refine Or.inr ⟨by decide, ?_⟩
  refine p_call_mk (av := [.ref 0, .int (S.2 (i + Int32.ofInt 1).toNatClampNeg), .int (S.2 (i + Int32.ofInt 2).toNatClampNeg), .int (S.2 (i + Int32.ofInt 3).toNatClampNeg), .int (S.2 (i + Int32.ofInt 4).toNatClampNeg), .int (S.2 (i + Int32.ofInt 5).toNatClampNeg), .ref 173]) (rest := []) mt_184 rfl (by decide) (show c + 8 ≤ 601024 by omega) (show s + 48 ≤ 7293033 by omega) (fun q => by cases q) ?_
  refine g_184 (n := 6) hL (fun r3 h1 hL2 => ?_)
  show Vx (Ex S 24) S M_368 [] Q1 1742 lv [.int r3] h1 (c + 8) (s + 48)
  refine Vx.go hC te_368_1742 ?_
  refine ⟨by decide, ?_⟩
  have hl4 := LwS.st (j := 5) (v := .int r3) (by omega) hl
  show Vx (Ex S 24) S M_368 [] Q1 1744 (px_s1 lv 5 (.int r3)) [] h1 (c + 8) (s + 48)
  refine Vx.go hC te_368_1744 ?_
  refine ⟨_, hl4.2.2.1, ⟨143, Or.inl rfl⟩, ?_⟩
  refine sc_load hC (k := 1) hl4 te_368_1745 te_368_1746 te_368_1748 te_368_1749 te_368_1750 (sc_in hS hi (by decide)) ?_
  refine sc_load hC (k := 2) hl4 te_368_1751 te_368_1752 te_368_1754 te_368_1755 te_368_1756 (sc_in hS hi (by decide)) ?_
  refine sc_load hC (k := 3) hl4 te_368_1757 te_368_1758 te_368_1760 te_368_1761 te_368_1762 (sc_in hS hi (by decide)) ?_
  refine sc_load hC (k := 4) hl4 te_368_1763 te_368_1764 te_368_1766 te_368_1767 te_368_1768 (sc_in hS hi (by decide)) ?_
  refine sc_load hC (k := 5) hl4 te_368_1769 te_368_1770 te_368_1772 te_368_1773 te_368_1774 (sc_in hS hi (by decide)) ?_
  refine Vx.go hC te_368_1775 ?_
  obtain ⟨gs8, gs8g⟩ := hL2.obj (A := 143) rfl
  have hcall9 := ref_call (S := S) (n := 24) (μ := 326) (args := [.inr 143, .inl ((S.2 (i + Int32.ofInt 1).toNatClampNeg) : Int32).toInt, .inl ((S.2 (i + Int32.ofInt 2).toNatClampNeg) : Int32).toInt, .inl ((S.2 (i + Int32.ofInt 3).toNatClampNeg) : Int32).toInt, .inl ((S.2 (i + Int32.ofInt 4).toNatClampNeg) : Int32).toInt, .inl ((S.2 (i + Int32.ofInt 5).toNatClampNeg) : Int32).toInt]) (h := h1) (fun v hv => by simp only [List.mem_cons, List.not_mem_nil, or_false] at hv; rcases hv with rfl | rfl | rfl | rfl | rfl | rfl <;> first | trivial | exact wiI _) hL2 (fun mem hr => f_326 hr (fun r m' a b => ⟨a, b⟩))
  simp only [List.map_cons, List.map_nil, wv, Int32.ofInt_toInt] at hcall9
  refine p_call_mk (av := [.ref 143, .int (S.2 (i + Int32.ofInt 1).toNatClampNeg), .int (S.2 (i + Int32.ofInt 2).toNatClampNeg), .int (S.2 (i + Int32.ofInt 3).toNatClampNeg), .int (S.2 (i + Int32.ofInt 4).toNatClampNeg), .int (S.2 (i + Int32.ofInt 5).toNatClampNeg)]) (rest := []) mt_326 rfl (by decide) (show (c + 8) + 0 ≤ 601024 by omega) (show (s + 48) + 0 ≤ 7293033 by omega) (fun _ => ⟨143, gs8, rfl, gs8g⟩) ?_
  refine hC _ _ _ _ _ ?_ hcall9
  rintro _ h5 ⟨hL6, r7, rfl⟩
  show Vx (Ex S 24) S M_368 [] Q1 1778 (px_s1 lv 5 (.int r3)) [.int r7] h5 (c + 8) (s + 48)
  refine Vx.go hC te_368_1778 ?_
  refine ⟨by decide, ?_⟩
  have hl10 := LwS.st (j := 6) (v := .int r7) (by omega) hl4
  show Vx (Ex S 24) S M_368 [] Q1 1780 (px_s1 (px_s1 lv 5 (.int r3)) 6 (.int r7)) [] h5 (c + 8) (s + 48)
  refine Vx.go hC te_368_1780 ?_
  refine ⟨by decide, ?_⟩
  exact Nx _ _ _ _ hl10 hL6 (by omega) (by omega)
