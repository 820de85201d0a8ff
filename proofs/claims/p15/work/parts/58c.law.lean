/-! laid by wip/hand/lw.py: cases of the law -/
theorem te_368_1098 : (pT M_368).find? (fun e => e.1 == 1098) = some (1098, .aload_n 1, 0, 0) := (sk_50 1098 rfl).trans rfl
theorem te_368_1099 : (pT M_368).find? (fun e => e.1 == 1099) = some (1099, .aload_n 0, 0, 0) := (sk_51 1099 rfl).trans rfl
theorem te_368_1100 : (pT M_368).find? (fun e => e.1 == 1100) = some (1100, .iload 4, 0, 0) := (sk_51 1100 rfl).trans rfl
theorem te_368_1102 : (pT M_368).find? (fun e => e.1 == 1102) = some (1102, .iconst 1, 0, 0) := (sk_51 1102 rfl).trans rfl
theorem te_368_1103 : (pT M_368).find? (fun e => e.1 == 1103) = some (1103, .iadd, 0, 0) := (sk_51 1103 rfl).trans rfl
theorem te_368_1104 : (pT M_368).find? (fun e => e.1 == 1104) = some (1104, .iaload, 0, 0) := (sk_51 1104 rfl).trans rfl
theorem te_368_1105 : (pT M_368).find? (fun e => e.1 == 1105) = some (1105, .aload_n 0, 0, 0) := (sk_51 1105 rfl).trans rfl
theorem te_368_1106 : (pT M_368).find? (fun e => e.1 == 1106) = some (1106, .iload 4, 0, 0) := (sk_51 1106 rfl).trans rfl
theorem te_368_1108 : (pT M_368).find? (fun e => e.1 == 1108) = some (1108, .iconst 2, 0, 0) := (sk_51 1108 rfl).trans rfl
theorem te_368_1109 : (pT M_368).find? (fun e => e.1 == 1109) = some (1109, .iadd, 0, 0) := (sk_51 1109 rfl).trans rfl
theorem te_368_1110 : (pT M_368).find? (fun e => e.1 == 1110) = some (1110, .iaload, 0, 0) := (sk_51 1110 rfl).trans rfl
theorem te_368_1111 : (pT M_368).find? (fun e => e.1 == 1111) = some (1111, .aload_n 0, 0, 0) := (sk_51 1111 rfl).trans rfl
theorem te_368_1112 : (pT M_368).find? (fun e => e.1 == 1112) = some (1112, .iload 4, 0, 0) := (sk_51 1112 rfl).trans rfl
theorem te_368_1114 : (pT M_368).find? (fun e => e.1 == 1114) = some (1114, .iconst 3, 0, 0) := (sk_52 1114 rfl).trans rfl
theorem te_368_1115 : (pT M_368).find? (fun e => e.1 == 1115) = some (1115, .iadd, 0, 0) := (sk_52 1115 rfl).trans rfl
theorem te_368_1116 : (pT M_368).find? (fun e => e.1 == 1116) = some (1116, .iaload, 0, 0) := (sk_52 1116 rfl).trans rfl
theorem te_368_1117 : (pT M_368).find? (fun e => e.1 == 1117) = some (1117, .aload_n 3, 0, 0) := (sk_52 1117 rfl).trans rfl
theorem te_368_1118 : (pT M_368).find? (fun e => e.1 == 1118) = some (1118, .invokestatic 252, 144, 8) := (sk_52 1118 rfl).trans rfl
theorem te_368_1121 : (pT M_368).find? (fun e => e.1 == 1121) = some (1121, .istore 5, 0, 0) := (sk_52 1121 rfl).trans rfl
theorem te_368_1123 : (pT M_368).find? (fun e => e.1 == 1123) = some (1123, .aload_n 2, 0, 0) := (sk_52 1123 rfl).trans rfl
theorem te_368_1124 : (pT M_368).find? (fun e => e.1 == 1124) = some (1124, .aload_n 0, 0, 0) := (sk_52 1124 rfl).trans rfl
theorem te_368_1125 : (pT M_368).find? (fun e => e.1 == 1125) = some (1125, .iload 4, 0, 0) := (sk_52 1125 rfl).trans rfl
theorem te_368_1127 : (pT M_368).find? (fun e => e.1 == 1127) = some (1127, .iconst 1, 0, 0) := (sk_52 1127 rfl).trans rfl
theorem te_368_1128 : (pT M_368).find? (fun e => e.1 == 1128) = some (1128, .iadd, 0, 0) := (sk_52 1128 rfl).trans rfl
theorem te_368_1129 : (pT M_368).find? (fun e => e.1 == 1129) = some (1129, .iaload, 0, 0) := (sk_52 1129 rfl).trans rfl
theorem te_368_1130 : (pT M_368).find? (fun e => e.1 == 1130) = some (1130, .aload_n 0, 0, 0) := (sk_53 1130 rfl).trans rfl
theorem te_368_1131 : (pT M_368).find? (fun e => e.1 == 1131) = some (1131, .iload 4, 0, 0) := (sk_53 1131 rfl).trans rfl
theorem te_368_1133 : (pT M_368).find? (fun e => e.1 == 1133) = some (1133, .iconst 2, 0, 0) := (sk_53 1133 rfl).trans rfl
theorem te_368_1134 : (pT M_368).find? (fun e => e.1 == 1134) = some (1134, .iadd, 0, 0) := (sk_53 1134 rfl).trans rfl
theorem te_368_1135 : (pT M_368).find? (fun e => e.1 == 1135) = some (1135, .iaload, 0, 0) := (sk_53 1135 rfl).trans rfl
theorem te_368_1136 : (pT M_368).find? (fun e => e.1 == 1136) = some (1136, .aload_n 0, 0, 0) := (sk_53 1136 rfl).trans rfl
theorem te_368_1137 : (pT M_368).find? (fun e => e.1 == 1137) = some (1137, .iload 4, 0, 0) := (sk_53 1137 rfl).trans rfl
theorem te_368_1139 : (pT M_368).find? (fun e => e.1 == 1139) = some (1139, .iconst 3, 0, 0) := (sk_53 1139 rfl).trans rfl
theorem te_368_1140 : (pT M_368).find? (fun e => e.1 == 1140) = some (1140, .iadd, 0, 0) := (sk_53 1140 rfl).trans rfl
theorem te_368_1141 : (pT M_368).find? (fun e => e.1 == 1141) = some (1141, .iaload, 0, 0) := (sk_53 1141 rfl).trans rfl
theorem te_368_1142 : (pT M_368).find? (fun e => e.1 == 1142) = some (1142, .invokevirtual 254, 305, 0) := (sk_53 1142 rfl).trans rfl
theorem te_368_1145 : (pT M_368).find? (fun e => e.1 == 1145) = some (1145, .istore 6, 0, 0) := (sk_53 1145 rfl).trans rfl
theorem te_368_1147 : (pT M_368).find? (fun e => e.1 == 1147) = some (1147, .goto 1204, 0, 0) := (sk_54 1147 rfl).trans rfl
theorem te_368_1150 : (pT M_368).find? (fun e => e.1 == 1150) = some (1150, .aload_n 1, 0, 0) := (sk_54 1150 rfl).trans rfl
theorem te_368_1151 : (pT M_368).find? (fun e => e.1 == 1151) = some (1151, .aload_n 0, 0, 0) := (sk_54 1151 rfl).trans rfl
theorem te_368_1152 : (pT M_368).find? (fun e => e.1 == 1152) = some (1152, .iload 4, 0, 0) := (sk_54 1152 rfl).trans rfl
theorem te_368_1154 : (pT M_368).find? (fun e => e.1 == 1154) = some (1154, .iconst 1, 0, 0) := (sk_54 1154 rfl).trans rfl
theorem te_368_1155 : (pT M_368).find? (fun e => e.1 == 1155) = some (1155, .iadd, 0, 0) := (sk_54 1155 rfl).trans rfl
theorem te_368_1156 : (pT M_368).find? (fun e => e.1 == 1156) = some (1156, .iaload, 0, 0) := (sk_54 1156 rfl).trans rfl
theorem te_368_1157 : (pT M_368).find? (fun e => e.1 == 1157) = some (1157, .aload_n 0, 0, 0) := (sk_54 1157 rfl).trans rfl
theorem te_368_1158 : (pT M_368).find? (fun e => e.1 == 1158) = some (1158, .iload 4, 0, 0) := (sk_54 1158 rfl).trans rfl
theorem te_368_1160 : (pT M_368).find? (fun e => e.1 == 1160) = some (1160, .iconst 2, 0, 0) := (sk_54 1160 rfl).trans rfl
theorem te_368_1161 : (pT M_368).find? (fun e => e.1 == 1161) = some (1161, .iadd, 0, 0) := (sk_54 1161 rfl).trans rfl
theorem te_368_1162 : (pT M_368).find? (fun e => e.1 == 1162) = some (1162, .iaload, 0, 0) := (sk_54 1162 rfl).trans rfl
theorem te_368_1163 : (pT M_368).find? (fun e => e.1 == 1163) = some (1163, .aload_n 3, 0, 0) := (sk_55 1163 rfl).trans rfl
theorem te_368_1164 : (pT M_368).find? (fun e => e.1 == 1164) = some (1164, .invokestatic 255, 147, 8) := (sk_55 1164 rfl).trans rfl
theorem te_368_1167 : (pT M_368).find? (fun e => e.1 == 1167) = some (1167, .istore 5, 0, 0) := (sk_55 1167 rfl).trans rfl
theorem te_368_1169 : (pT M_368).find? (fun e => e.1 == 1169) = some (1169, .aload_n 2, 0, 0) := (sk_55 1169 rfl).trans rfl
theorem te_368_1170 : (pT M_368).find? (fun e => e.1 == 1170) = some (1170, .aload_n 0, 0, 0) := (sk_55 1170 rfl).trans rfl
theorem te_368_1171 : (pT M_368).find? (fun e => e.1 == 1171) = some (1171, .iload 4, 0, 0) := (sk_55 1171 rfl).trans rfl
theorem te_368_1173 : (pT M_368).find? (fun e => e.1 == 1173) = some (1173, .iconst 1, 0, 0) := (sk_55 1173 rfl).trans rfl
theorem te_368_1174 : (pT M_368).find? (fun e => e.1 == 1174) = some (1174, .iadd, 0, 0) := (sk_55 1174 rfl).trans rfl
theorem te_368_1175 : (pT M_368).find? (fun e => e.1 == 1175) = some (1175, .iaload, 0, 0) := (sk_55 1175 rfl).trans rfl
theorem te_368_1176 : (pT M_368).find? (fun e => e.1 == 1176) = some (1176, .aload_n 0, 0, 0) := (sk_55 1176 rfl).trans rfl
theorem te_368_1177 : (pT M_368).find? (fun e => e.1 == 1177) = some (1177, .iload 4, 0, 0) := (sk_55 1177 rfl).trans rfl
theorem te_368_1179 : (pT M_368).find? (fun e => e.1 == 1179) = some (1179, .iconst 2, 0, 0) := (sk_55 1179 rfl).trans rfl
theorem te_368_1180 : (pT M_368).find? (fun e => e.1 == 1180) = some (1180, .iadd, 0, 0) := (sk_56 1180 rfl).trans rfl
theorem te_368_1181 : (pT M_368).find? (fun e => e.1 == 1181) = some (1181, .iaload, 0, 0) := (sk_56 1181 rfl).trans rfl
theorem te_368_1182 : (pT M_368).find? (fun e => e.1 == 1182) = some (1182, .invokevirtual 257, 307, 0) := (sk_56 1182 rfl).trans rfl
theorem te_368_1185 : (pT M_368).find? (fun e => e.1 == 1185) = some (1185, .istore 6, 0, 0) := (sk_56 1185 rfl).trans rfl
theorem te_368_1187 : (pT M_368).find? (fun e => e.1 == 1187) = some (1187, .goto 1164, 0, 0) := (sk_56 1187 rfl).trans rfl
theorem te_368_1190 : (pT M_368).find? (fun e => e.1 == 1190) = some (1190, .aload_n 1, 0, 0) := (sk_56 1190 rfl).trans rfl
theorem te_368_1191 : (pT M_368).find? (fun e => e.1 == 1191) = some (1191, .aload_n 0, 0, 0) := (sk_56 1191 rfl).trans rfl
theorem te_368_1192 : (pT M_368).find? (fun e => e.1 == 1192) = some (1192, .iload 4, 0, 0) := (sk_56 1192 rfl).trans rfl
theorem te_368_1194 : (pT M_368).find? (fun e => e.1 == 1194) = some (1194, .iconst 1, 0, 0) := (sk_56 1194 rfl).trans rfl
theorem te_368_1195 : (pT M_368).find? (fun e => e.1 == 1195) = some (1195, .iadd, 0, 0) := (sk_56 1195 rfl).trans rfl
theorem te_368_1196 : (pT M_368).find? (fun e => e.1 == 1196) = some (1196, .iaload, 0, 0) := (sk_56 1196 rfl).trans rfl
theorem te_368_1197 : (pT M_368).find? (fun e => e.1 == 1197) = some (1197, .aload_n 0, 0, 0) := (sk_56 1197 rfl).trans rfl
theorem te_368_1198 : (pT M_368).find? (fun e => e.1 == 1198) = some (1198, .iload 4, 0, 0) := (sk_57 1198 rfl).trans rfl
theorem te_368_1200 : (pT M_368).find? (fun e => e.1 == 1200) = some (1200, .iconst 2, 0, 0) := (sk_57 1200 rfl).trans rfl
theorem te_368_1201 : (pT M_368).find? (fun e => e.1 == 1201) = some (1201, .iadd, 0, 0) := (sk_57 1201 rfl).trans rfl
theorem te_368_1202 : (pT M_368).find? (fun e => e.1 == 1202) = some (1202, .iaload, 0, 0) := (sk_57 1202 rfl).trans rfl
theorem te_368_1203 : (pT M_368).find? (fun e => e.1 == 1203) = some (1203, .aload_n 0, 0, 0) := (sk_57 1203 rfl).trans rfl
theorem te_368_1204 : (pT M_368).find? (fun e => e.1 == 1204) = some (1204, .iload 4, 0, 0) := (sk_57 1204 rfl).trans rfl
theorem te_368_1206 : (pT M_368).find? (fun e => e.1 == 1206) = some (1206, .iconst 3, 0, 0) := (sk_57 1206 rfl).trans rfl
theorem te_368_1207 : (pT M_368).find? (fun e => e.1 == 1207) = some (1207, .iadd, 0, 0) := (sk_57 1207 rfl).trans rfl
theorem te_368_1208 : (pT M_368).find? (fun e => e.1 == 1208) = some (1208, .iaload, 0, 0) := (sk_57 1208 rfl).trans rfl
theorem te_368_1209 : (pT M_368).find? (fun e => e.1 == 1209) = some (1209, .aload_n 0, 0, 0) := (sk_57 1209 rfl).trans rfl
theorem te_368_1210 : (pT M_368).find? (fun e => e.1 == 1210) = some (1210, .iload 4, 0, 0) := (sk_57 1210 rfl).trans rfl
theorem te_368_1212 : (pT M_368).find? (fun e => e.1 == 1212) = some (1212, .iconst 4, 0, 0) := (sk_57 1212 rfl).trans rfl
theorem te_368_1213 : (pT M_368).find? (fun e => e.1 == 1213) = some (1213, .iadd, 0, 0) := (sk_58 1213 rfl).trans rfl
theorem te_368_1214 : (pT M_368).find? (fun e => e.1 == 1214) = some (1214, .iaload, 0, 0) := (sk_58 1214 rfl).trans rfl
theorem te_368_1215 : (pT M_368).find? (fun e => e.1 == 1215) = some (1215, .aload_n 3, 0, 0) := (sk_58 1215 rfl).trans rfl
theorem te_368_1216 : (pT M_368).find? (fun e => e.1 == 1216) = some (1216, .invokestatic 258, 149, 8) := (sk_58 1216 rfl).trans rfl
theorem te_368_1219 : (pT M_368).find? (fun e => e.1 == 1219) = some (1219, .istore 5, 0, 0) := (sk_58 1219 rfl).trans rfl
theorem te_368_1221 : (pT M_368).find? (fun e => e.1 == 1221) = some (1221, .aload_n 2, 0, 0) := (sk_58 1221 rfl).trans rfl
theorem te_368_1222 : (pT M_368).find? (fun e => e.1 == 1222) = some (1222, .aload_n 0, 0, 0) := (sk_58 1222 rfl).trans rfl
theorem te_368_1223 : (pT M_368).find? (fun e => e.1 == 1223) = some (1223, .iload 4, 0, 0) := (sk_58 1223 rfl).trans rfl
theorem te_368_1225 : (pT M_368).find? (fun e => e.1 == 1225) = some (1225, .iconst 1, 0, 0) := (sk_58 1225 rfl).trans rfl
theorem te_368_1226 : (pT M_368).find? (fun e => e.1 == 1226) = some (1226, .iadd, 0, 0) := (sk_58 1226 rfl).trans rfl
theorem te_368_1227 : (pT M_368).find? (fun e => e.1 == 1227) = some (1227, .iaload, 0, 0) := (sk_58 1227 rfl).trans rfl
theorem te_368_1228 : (pT M_368).find? (fun e => e.1 == 1228) = some (1228, .aload_n 0, 0, 0) := (sk_58 1228 rfl).trans rfl
theorem te_368_1229 : (pT M_368).find? (fun e => e.1 == 1229) = some (1229, .iload 4, 0, 0) := (sk_59 1229 rfl).trans rfl
theorem te_368_1231 : (pT M_368).find? (fun e => e.1 == 1231) = some (1231, .iconst 2, 0, 0) := (sk_59 1231 rfl).trans rfl
theorem te_368_1232 : (pT M_368).find? (fun e => e.1 == 1232) = some (1232, .iadd, 0, 0) := (sk_59 1232 rfl).trans rfl
theorem te_368_1233 : (pT M_368).find? (fun e => e.1 == 1233) = some (1233, .iaload, 0, 0) := (sk_59 1233 rfl).trans rfl
theorem te_368_1234 : (pT M_368).find? (fun e => e.1 == 1234) = some (1234, .aload_n 0, 0, 0) := (sk_59 1234 rfl).trans rfl
theorem te_368_1235 : (pT M_368).find? (fun e => e.1 == 1235) = some (1235, .iload 4, 0, 0) := (sk_59 1235 rfl).trans rfl
theorem te_368_1237 : (pT M_368).find? (fun e => e.1 == 1237) = some (1237, .iconst 3, 0, 0) := (sk_59 1237 rfl).trans rfl
theorem te_368_1238 : (pT M_368).find? (fun e => e.1 == 1238) = some (1238, .iadd, 0, 0) := (sk_59 1238 rfl).trans rfl
theorem te_368_1239 : (pT M_368).find? (fun e => e.1 == 1239) = some (1239, .iaload, 0, 0) := (sk_59 1239 rfl).trans rfl
theorem te_368_1240 : (pT M_368).find? (fun e => e.1 == 1240) = some (1240, .aload_n 0, 0, 0) := (sk_59 1240 rfl).trans rfl
theorem te_368_1241 : (pT M_368).find? (fun e => e.1 == 1241) = some (1241, .iload 4, 0, 0) := (sk_59 1241 rfl).trans rfl
theorem te_368_1243 : (pT M_368).find? (fun e => e.1 == 1243) = some (1243, .iconst 4, 0, 0) := (sk_59 1243 rfl).trans rfl
theorem te_368_1244 : (pT M_368).find? (fun e => e.1 == 1244) = some (1244, .iadd, 0, 0) := (sk_60 1244 rfl).trans rfl
theorem te_368_1245 : (pT M_368).find? (fun e => e.1 == 1245) = some (1245, .iaload, 0, 0) := (sk_60 1245 rfl).trans rfl
theorem te_368_1246 : (pT M_368).find? (fun e => e.1 == 1246) = some (1246, .invokevirtual 260, 308, 0) := (sk_60 1246 rfl).trans rfl
theorem te_368_1249 : (pT M_368).find? (fun e => e.1 == 1249) = some (1249, .istore 6, 0, 0) := (sk_60 1249 rfl).trans rfl
theorem te_368_1251 : (pT M_368).find? (fun e => e.1 == 1251) = some (1251, .goto 1100, 0, 0) := (sk_60 1251 rfl).trans rfl
theorem te_368_1254 : (pT M_368).find? (fun e => e.1 == 1254) = some (1254, .aload_n 1, 0, 0) := (sk_60 1254 rfl).trans rfl
theorem te_368_1255 : (pT M_368).find? (fun e => e.1 == 1255) = some (1255, .aload_n 0, 0, 0) := (sk_60 1255 rfl).trans rfl
theorem te_368_1256 : (pT M_368).find? (fun e => e.1 == 1256) = some (1256, .iload 4, 0, 0) := (sk_60 1256 rfl).trans rfl
theorem te_368_1258 : (pT M_368).find? (fun e => e.1 == 1258) = some (1258, .iconst 1, 0, 0) := (sk_60 1258 rfl).trans rfl
theorem te_368_1259 : (pT M_368).find? (fun e => e.1 == 1259) = some (1259, .iadd, 0, 0) := (sk_60 1259 rfl).trans rfl
theorem te_368_1260 : (pT M_368).find? (fun e => e.1 == 1260) = some (1260, .iaload, 0, 0) := (sk_60 1260 rfl).trans rfl
theorem te_368_1261 : (pT M_368).find? (fun e => e.1 == 1261) = some (1261, .aload_n 0, 0, 0) := (sk_60 1261 rfl).trans rfl
theorem te_368_1262 : (pT M_368).find? (fun e => e.1 == 1262) = some (1262, .iload 4, 0, 0) := (sk_61 1262 rfl).trans rfl
theorem te_368_1264 : (pT M_368).find? (fun e => e.1 == 1264) = some (1264, .iconst 2, 0, 0) := (sk_61 1264 rfl).trans rfl
theorem te_368_1265 : (pT M_368).find? (fun e => e.1 == 1265) = some (1265, .iadd, 0, 0) := (sk_61 1265 rfl).trans rfl
theorem te_368_1266 : (pT M_368).find? (fun e => e.1 == 1266) = some (1266, .iaload, 0, 0) := (sk_61 1266 rfl).trans rfl
theorem te_368_1267 : (pT M_368).find? (fun e => e.1 == 1267) = some (1267, .aload_n 0, 0, 0) := (sk_61 1267 rfl).trans rfl
theorem te_368_1268 : (pT M_368).find? (fun e => e.1 == 1268) = some (1268, .iload 4, 0, 0) := (sk_61 1268 rfl).trans rfl
theorem te_368_1270 : (pT M_368).find? (fun e => e.1 == 1270) = some (1270, .iconst 3, 0, 0) := (sk_61 1270 rfl).trans rfl
theorem te_368_1271 : (pT M_368).find? (fun e => e.1 == 1271) = some (1271, .iadd, 0, 0) := (sk_61 1271 rfl).trans rfl
theorem te_368_1272 : (pT M_368).find? (fun e => e.1 == 1272) = some (1272, .iaload, 0, 0) := (sk_61 1272 rfl).trans rfl
theorem te_368_1273 : (pT M_368).find? (fun e => e.1 == 1273) = some (1273, .aload_n 3, 0, 0) := (sk_61 1273 rfl).trans rfl
theorem te_368_1274 : (pT M_368).find? (fun e => e.1 == 1274) = some (1274, .invokestatic 261, 153, 8) := (sk_61 1274 rfl).trans rfl
theorem te_368_1277 : (pT M_368).find? (fun e => e.1 == 1277) = some (1277, .istore 5, 0, 0) := (sk_61 1277 rfl).trans rfl
theorem te_368_1279 : (pT M_368).find? (fun e => e.1 == 1279) = some (1279, .aload_n 2, 0, 0) := (sk_62 1279 rfl).trans rfl
theorem te_368_1280 : (pT M_368).find? (fun e => e.1 == 1280) = some (1280, .aload_n 0, 0, 0) := (sk_62 1280 rfl).trans rfl
theorem te_368_1281 : (pT M_368).find? (fun e => e.1 == 1281) = some (1281, .iload 4, 0, 0) := (sk_62 1281 rfl).trans rfl
theorem te_368_1283 : (pT M_368).find? (fun e => e.1 == 1283) = some (1283, .iconst 1, 0, 0) := (sk_62 1283 rfl).trans rfl
theorem te_368_1284 : (pT M_368).find? (fun e => e.1 == 1284) = some (1284, .iadd, 0, 0) := (sk_62 1284 rfl).trans rfl
theorem te_368_1285 : (pT M_368).find? (fun e => e.1 == 1285) = some (1285, .iaload, 0, 0) := (sk_62 1285 rfl).trans rfl
theorem te_368_1286 : (pT M_368).find? (fun e => e.1 == 1286) = some (1286, .aload_n 0, 0, 0) := (sk_62 1286 rfl).trans rfl
theorem te_368_1287 : (pT M_368).find? (fun e => e.1 == 1287) = some (1287, .iload 4, 0, 0) := (sk_62 1287 rfl).trans rfl
theorem te_368_1289 : (pT M_368).find? (fun e => e.1 == 1289) = some (1289, .iconst 2, 0, 0) := (sk_62 1289 rfl).trans rfl
theorem te_368_1290 : (pT M_368).find? (fun e => e.1 == 1290) = some (1290, .iadd, 0, 0) := (sk_62 1290 rfl).trans rfl
theorem te_368_1291 : (pT M_368).find? (fun e => e.1 == 1291) = some (1291, .iaload, 0, 0) := (sk_62 1291 rfl).trans rfl
theorem te_368_1292 : (pT M_368).find? (fun e => e.1 == 1292) = some (1292, .aload_n 0, 0, 0) := (sk_62 1292 rfl).trans rfl
theorem te_368_1293 : (pT M_368).find? (fun e => e.1 == 1293) = some (1293, .iload 4, 0, 0) := (sk_63 1293 rfl).trans rfl
theorem te_368_1295 : (pT M_368).find? (fun e => e.1 == 1295) = some (1295, .iconst 3, 0, 0) := (sk_63 1295 rfl).trans rfl
theorem te_368_1296 : (pT M_368).find? (fun e => e.1 == 1296) = some (1296, .iadd, 0, 0) := (sk_63 1296 rfl).trans rfl
theorem te_368_1297 : (pT M_368).find? (fun e => e.1 == 1297) = some (1297, .iaload, 0, 0) := (sk_63 1297 rfl).trans rfl
theorem te_368_1298 : (pT M_368).find? (fun e => e.1 == 1298) = some (1298, .invokevirtual 263, 310, 0) := (sk_63 1298 rfl).trans rfl
theorem te_368_1301 : (pT M_368).find? (fun e => e.1 == 1301) = some (1301, .istore 6, 0, 0) := (sk_63 1301 rfl).trans rfl
theorem te_368_1303 : (pT M_368).find? (fun e => e.1 == 1303) = some (1303, .goto 1048, 0, 0) := (sk_63 1303 rfl).trans rfl
theorem te_368_1306 : (pT M_368).find? (fun e => e.1 == 1306) = some (1306, .aload_n 1, 0, 0) := (sk_63 1306 rfl).trans rfl
theorem te_368_1307 : (pT M_368).find? (fun e => e.1 == 1307) = some (1307, .aload_n 0, 0, 0) := (sk_63 1307 rfl).trans rfl
theorem te_368_1308 : (pT M_368).find? (fun e => e.1 == 1308) = some (1308, .iload 4, 0, 0) := (sk_63 1308 rfl).trans rfl
theorem te_368_1310 : (pT M_368).find? (fun e => e.1 == 1310) = some (1310, .iconst 1, 0, 0) := (sk_63 1310 rfl).trans rfl
theorem te_368_1311 : (pT M_368).find? (fun e => e.1 == 1311) = some (1311, .iadd, 0, 0) := (sk_63 1311 rfl).trans rfl
theorem te_368_1312 : (pT M_368).find? (fun e => e.1 == 1312) = some (1312, .iaload, 0, 0) := (sk_64 1312 rfl).trans rfl
theorem te_368_1313 : (pT M_368).find? (fun e => e.1 == 1313) = some (1313, .aload_n 0, 0, 0) := (sk_64 1313 rfl).trans rfl
theorem te_368_1314 : (pT M_368).find? (fun e => e.1 == 1314) = some (1314, .iload 4, 0, 0) := (sk_64 1314 rfl).trans rfl
theorem te_368_1316 : (pT M_368).find? (fun e => e.1 == 1316) = some (1316, .iconst 2, 0, 0) := (sk_64 1316 rfl).trans rfl
theorem te_368_1317 : (pT M_368).find? (fun e => e.1 == 1317) = some (1317, .iadd, 0, 0) := (sk_64 1317 rfl).trans rfl
theorem te_368_1318 : (pT M_368).find? (fun e => e.1 == 1318) = some (1318, .iaload, 0, 0) := (sk_64 1318 rfl).trans rfl
theorem te_368_1319 : (pT M_368).find? (fun e => e.1 == 1319) = some (1319, .aload_n 0, 0, 0) := (sk_64 1319 rfl).trans rfl
theorem te_368_1320 : (pT M_368).find? (fun e => e.1 == 1320) = some (1320, .iload 4, 0, 0) := (sk_64 1320 rfl).trans rfl
theorem te_368_1322 : (pT M_368).find? (fun e => e.1 == 1322) = some (1322, .iconst 3, 0, 0) := (sk_64 1322 rfl).trans rfl
theorem te_368_1323 : (pT M_368).find? (fun e => e.1 == 1323) = some (1323, .iadd, 0, 0) := (sk_64 1323 rfl).trans rfl
theorem te_368_1324 : (pT M_368).find? (fun e => e.1 == 1324) = some (1324, .iaload, 0, 0) := (sk_64 1324 rfl).trans rfl
theorem te_368_1325 : (pT M_368).find? (fun e => e.1 == 1325) = some (1325, .aload_n 0, 0, 0) := (sk_64 1325 rfl).trans rfl
theorem te_368_1326 : (pT M_368).find? (fun e => e.1 == 1326) = some (1326, .iload 4, 0, 0) := (sk_65 1326 rfl).trans rfl
theorem te_368_1328 : (pT M_368).find? (fun e => e.1 == 1328) = some (1328, .iconst 4, 0, 0) := (sk_65 1328 rfl).trans rfl
theorem te_368_1329 : (pT M_368).find? (fun e => e.1 == 1329) = some (1329, .iadd, 0, 0) := (sk_65 1329 rfl).trans rfl
theorem te_368_1330 : (pT M_368).find? (fun e => e.1 == 1330) = some (1330, .iaload, 0, 0) := (sk_65 1330 rfl).trans rfl
theorem te_368_1331 : (pT M_368).find? (fun e => e.1 == 1331) = some (1331, .aload_n 3, 0, 0) := (sk_65 1331 rfl).trans rfl
theorem te_368_1332 : (pT M_368).find? (fun e => e.1 == 1332) = some (1332, .invokestatic 264, 158, 8) := (sk_65 1332 rfl).trans rfl
theorem te_368_1335 : (pT M_368).find? (fun e => e.1 == 1335) = some (1335, .istore 5, 0, 0) := (sk_65 1335 rfl).trans rfl
theorem te_368_1337 : (pT M_368).find? (fun e => e.1 == 1337) = some (1337, .aload_n 2, 0, 0) := (sk_65 1337 rfl).trans rfl
theorem te_368_1338 : (pT M_368).find? (fun e => e.1 == 1338) = some (1338, .aload_n 0, 0, 0) := (sk_65 1338 rfl).trans rfl
theorem te_368_1339 : (pT M_368).find? (fun e => e.1 == 1339) = some (1339, .iload 4, 0, 0) := (sk_65 1339 rfl).trans rfl
theorem te_368_1341 : (pT M_368).find? (fun e => e.1 == 1341) = some (1341, .iconst 1, 0, 0) := (sk_65 1341 rfl).trans rfl
theorem te_368_1342 : (pT M_368).find? (fun e => e.1 == 1342) = some (1342, .iadd, 0, 0) := (sk_65 1342 rfl).trans rfl
theorem te_368_1343 : (pT M_368).find? (fun e => e.1 == 1343) = some (1343, .iaload, 0, 0) := (sk_66 1343 rfl).trans rfl
theorem te_368_1344 : (pT M_368).find? (fun e => e.1 == 1344) = some (1344, .aload_n 0, 0, 0) := (sk_66 1344 rfl).trans rfl
theorem te_368_1345 : (pT M_368).find? (fun e => e.1 == 1345) = some (1345, .iload 4, 0, 0) := (sk_66 1345 rfl).trans rfl
theorem te_368_1347 : (pT M_368).find? (fun e => e.1 == 1347) = some (1347, .iconst 2, 0, 0) := (sk_66 1347 rfl).trans rfl
theorem te_368_1348 : (pT M_368).find? (fun e => e.1 == 1348) = some (1348, .iadd, 0, 0) := (sk_66 1348 rfl).trans rfl
theorem te_368_1349 : (pT M_368).find? (fun e => e.1 == 1349) = some (1349, .iaload, 0, 0) := (sk_66 1349 rfl).trans rfl
theorem te_368_1350 : (pT M_368).find? (fun e => e.1 == 1350) = some (1350, .aload_n 0, 0, 0) := (sk_66 1350 rfl).trans rfl
theorem te_368_1351 : (pT M_368).find? (fun e => e.1 == 1351) = some (1351, .iload 4, 0, 0) := (sk_66 1351 rfl).trans rfl
theorem te_368_1353 : (pT M_368).find? (fun e => e.1 == 1353) = some (1353, .iconst 3, 0, 0) := (sk_66 1353 rfl).trans rfl
theorem te_368_1354 : (pT M_368).find? (fun e => e.1 == 1354) = some (1354, .iadd, 0, 0) := (sk_66 1354 rfl).trans rfl
theorem te_368_1355 : (pT M_368).find? (fun e => e.1 == 1355) = some (1355, .iaload, 0, 0) := (sk_66 1355 rfl).trans rfl
theorem te_368_1356 : (pT M_368).find? (fun e => e.1 == 1356) = some (1356, .aload_n 0, 0, 0) := (sk_66 1356 rfl).trans rfl
theorem te_368_1357 : (pT M_368).find? (fun e => e.1 == 1357) = some (1357, .iload 4, 0, 0) := (sk_67 1357 rfl).trans rfl
theorem te_368_1359 : (pT M_368).find? (fun e => e.1 == 1359) = some (1359, .iconst 4, 0, 0) := (sk_67 1359 rfl).trans rfl
theorem te_368_1360 : (pT M_368).find? (fun e => e.1 == 1360) = some (1360, .iadd, 0, 0) := (sk_67 1360 rfl).trans rfl
theorem te_368_1361 : (pT M_368).find? (fun e => e.1 == 1361) = some (1361, .iaload, 0, 0) := (sk_67 1361 rfl).trans rfl
theorem te_368_1362 : (pT M_368).find? (fun e => e.1 == 1362) = some (1362, .invokevirtual 266, 315, 0) := (sk_67 1362 rfl).trans rfl
theorem te_368_1365 : (pT M_368).find? (fun e => e.1 == 1365) = some (1365, .istore 6, 0, 0) := (sk_67 1365 rfl).trans rfl
theorem te_368_1367 : (pT M_368).find? (fun e => e.1 == 1367) = some (1367, .goto 984, 0, 0) := (sk_67 1367 rfl).trans rfl
theorem te_368_1370 : (pT M_368).find? (fun e => e.1 == 1370) = some (1370, .aload_n 1, 0, 0) := (sk_67 1370 rfl).trans rfl
theorem te_368_1371 : (pT M_368).find? (fun e => e.1 == 1371) = some (1371, .aload_n 0, 0, 0) := (sk_67 1371 rfl).trans rfl
theorem te_368_1372 : (pT M_368).find? (fun e => e.1 == 1372) = some (1372, .iload 4, 0, 0) := (sk_67 1372 rfl).trans rfl
theorem te_368_1374 : (pT M_368).find? (fun e => e.1 == 1374) = some (1374, .iconst 1, 0, 0) := (sk_67 1374 rfl).trans rfl
theorem te_368_1375 : (pT M_368).find? (fun e => e.1 == 1375) = some (1375, .iadd, 0, 0) := (sk_67 1375 rfl).trans rfl
theorem te_368_1376 : (pT M_368).find? (fun e => e.1 == 1376) = some (1376, .iaload, 0, 0) := (sk_68 1376 rfl).trans rfl
theorem te_368_1377 : (pT M_368).find? (fun e => e.1 == 1377) = some (1377, .aload_n 0, 0, 0) := (sk_68 1377 rfl).trans rfl
theorem te_368_1378 : (pT M_368).find? (fun e => e.1 == 1378) = some (1378, .iload 4, 0, 0) := (sk_68 1378 rfl).trans rfl
theorem te_368_1380 : (pT M_368).find? (fun e => e.1 == 1380) = some (1380, .iconst 2, 0, 0) := (sk_68 1380 rfl).trans rfl
theorem te_368_1381 : (pT M_368).find? (fun e => e.1 == 1381) = some (1381, .iadd, 0, 0) := (sk_68 1381 rfl).trans rfl
theorem te_368_1382 : (pT M_368).find? (fun e => e.1 == 1382) = some (1382, .iaload, 0, 0) := (sk_68 1382 rfl).trans rfl
theorem te_368_1383 : (pT M_368).find? (fun e => e.1 == 1383) = some (1383, .aload_n 0, 0, 0) := (sk_68 1383 rfl).trans rfl
theorem te_368_1384 : (pT M_368).find? (fun e => e.1 == 1384) = some (1384, .iload 4, 0, 0) := (sk_68 1384 rfl).trans rfl
theorem te_368_1386 : (pT M_368).find? (fun e => e.1 == 1386) = some (1386, .iconst 3, 0, 0) := (sk_68 1386 rfl).trans rfl
theorem te_368_1387 : (pT M_368).find? (fun e => e.1 == 1387) = some (1387, .iadd, 0, 0) := (sk_68 1387 rfl).trans rfl
theorem te_368_1388 : (pT M_368).find? (fun e => e.1 == 1388) = some (1388, .iaload, 0, 0) := (sk_68 1388 rfl).trans rfl
theorem te_368_1389 : (pT M_368).find? (fun e => e.1 == 1389) = some (1389, .aload_n 3, 0, 0) := (sk_68 1389 rfl).trans rfl
theorem te_368_1390 : (pT M_368).find? (fun e => e.1 == 1390) = some (1390, .invokestatic 267, 165, 8) := (sk_69 1390 rfl).trans rfl
theorem te_368_1393 : (pT M_368).find? (fun e => e.1 == 1393) = some (1393, .istore 5, 0, 0) := (sk_69 1393 rfl).trans rfl
theorem te_368_1395 : (pT M_368).find? (fun e => e.1 == 1395) = some (1395, .aload_n 2, 0, 0) := (sk_69 1395 rfl).trans rfl
theorem te_368_1396 : (pT M_368).find? (fun e => e.1 == 1396) = some (1396, .aload_n 0, 0, 0) := (sk_69 1396 rfl).trans rfl
theorem te_368_1397 : (pT M_368).find? (fun e => e.1 == 1397) = some (1397, .iload 4, 0, 0) := (sk_69 1397 rfl).trans rfl
theorem te_368_1399 : (pT M_368).find? (fun e => e.1 == 1399) = some (1399, .iconst 1, 0, 0) := (sk_69 1399 rfl).trans rfl
theorem te_368_1400 : (pT M_368).find? (fun e => e.1 == 1400) = some (1400, .iadd, 0, 0) := (sk_69 1400 rfl).trans rfl
theorem te_368_1401 : (pT M_368).find? (fun e => e.1 == 1401) = some (1401, .iaload, 0, 0) := (sk_69 1401 rfl).trans rfl
theorem te_368_1402 : (pT M_368).find? (fun e => e.1 == 1402) = some (1402, .aload_n 0, 0, 0) := (sk_69 1402 rfl).trans rfl
theorem te_368_1403 : (pT M_368).find? (fun e => e.1 == 1403) = some (1403, .iload 4, 0, 0) := (sk_69 1403 rfl).trans rfl
theorem te_368_1405 : (pT M_368).find? (fun e => e.1 == 1405) = some (1405, .iconst 2, 0, 0) := (sk_69 1405 rfl).trans rfl
theorem te_368_1406 : (pT M_368).find? (fun e => e.1 == 1406) = some (1406, .iadd, 0, 0) := (sk_69 1406 rfl).trans rfl
theorem te_368_1407 : (pT M_368).find? (fun e => e.1 == 1407) = some (1407, .iaload, 0, 0) := (sk_70 1407 rfl).trans rfl
theorem te_368_1408 : (pT M_368).find? (fun e => e.1 == 1408) = some (1408, .aload_n 0, 0, 0) := (sk_70 1408 rfl).trans rfl
theorem te_368_1409 : (pT M_368).find? (fun e => e.1 == 1409) = some (1409, .iload 4, 0, 0) := (sk_70 1409 rfl).trans rfl
theorem te_368_1411 : (pT M_368).find? (fun e => e.1 == 1411) = some (1411, .iconst 3, 0, 0) := (sk_70 1411 rfl).trans rfl
theorem te_368_1412 : (pT M_368).find? (fun e => e.1 == 1412) = some (1412, .iadd, 0, 0) := (sk_70 1412 rfl).trans rfl
theorem te_368_1413 : (pT M_368).find? (fun e => e.1 == 1413) = some (1413, .iaload, 0, 0) := (sk_70 1413 rfl).trans rfl
theorem te_368_1414 : (pT M_368).find? (fun e => e.1 == 1414) = some (1414, .invokevirtual 269, 325, 0) := (sk_70 1414 rfl).trans rfl
theorem te_368_1417 : (pT M_368).find? (fun e => e.1 == 1417) = some (1417, .istore 6, 0, 0) := (sk_70 1417 rfl).trans rfl
theorem te_368_1419 : (pT M_368).find? (fun e => e.1 == 1419) = some (1419, .goto 932, 0, 0) := (sk_70 1419 rfl).trans rfl
theorem te_368_1422 : (pT M_368).find? (fun e => e.1 == 1422) = some (1422, .aload_n 1, 0, 0) := (sk_70 1422 rfl).trans rfl
theorem te_368_1423 : (pT M_368).find? (fun e => e.1 == 1423) = some (1423, .aload_n 0, 0, 0) := (sk_70 1423 rfl).trans rfl
theorem te_368_1424 : (pT M_368).find? (fun e => e.1 == 1424) = some (1424, .iload 4, 0, 0) := (sk_70 1424 rfl).trans rfl
theorem te_368_1426 : (pT M_368).find? (fun e => e.1 == 1426) = some (1426, .iconst 1, 0, 0) := (sk_71 1426 rfl).trans rfl
theorem te_368_1427 : (pT M_368).find? (fun e => e.1 == 1427) = some (1427, .iadd, 0, 0) := (sk_71 1427 rfl).trans rfl
theorem te_368_1428 : (pT M_368).find? (fun e => e.1 == 1428) = some (1428, .iaload, 0, 0) := (sk_71 1428 rfl).trans rfl
theorem te_368_1429 : (pT M_368).find? (fun e => e.1 == 1429) = some (1429, .aload_n 0, 0, 0) := (sk_71 1429 rfl).trans rfl
theorem te_368_1430 : (pT M_368).find? (fun e => e.1 == 1430) = some (1430, .iload 4, 0, 0) := (sk_71 1430 rfl).trans rfl
theorem te_368_1432 : (pT M_368).find? (fun e => e.1 == 1432) = some (1432, .iconst 2, 0, 0) := (sk_71 1432 rfl).trans rfl
theorem te_368_1433 : (pT M_368).find? (fun e => e.1 == 1433) = some (1433, .iadd, 0, 0) := (sk_71 1433 rfl).trans rfl
theorem te_368_1434 : (pT M_368).find? (fun e => e.1 == 1434) = some (1434, .iaload, 0, 0) := (sk_71 1434 rfl).trans rfl
theorem te_368_1435 : (pT M_368).find? (fun e => e.1 == 1435) = some (1435, .aload_n 0, 0, 0) := (sk_71 1435 rfl).trans rfl
theorem te_368_1436 : (pT M_368).find? (fun e => e.1 == 1436) = some (1436, .iload 4, 0, 0) := (sk_71 1436 rfl).trans rfl
theorem te_368_1438 : (pT M_368).find? (fun e => e.1 == 1438) = some (1438, .iconst 3, 0, 0) := (sk_71 1438 rfl).trans rfl
theorem te_368_1439 : (pT M_368).find? (fun e => e.1 == 1439) = some (1439, .iadd, 0, 0) := (sk_71 1439 rfl).trans rfl
theorem te_368_1440 : (pT M_368).find? (fun e => e.1 == 1440) = some (1440, .iaload, 0, 0) := (sk_72 1440 rfl).trans rfl
theorem te_368_1441 : (pT M_368).find? (fun e => e.1 == 1441) = some (1441, .aload_n 3, 0, 0) := (sk_72 1441 rfl).trans rfl
theorem te_368_1442 : (pT M_368).find? (fun e => e.1 == 1442) = some (1442, .invokestatic 270, 168, 8) := (sk_72 1442 rfl).trans rfl
theorem te_368_1445 : (pT M_368).find? (fun e => e.1 == 1445) = some (1445, .istore 5, 0, 0) := (sk_72 1445 rfl).trans rfl
theorem te_368_1447 : (pT M_368).find? (fun e => e.1 == 1447) = some (1447, .aload_n 2, 0, 0) := (sk_72 1447 rfl).trans rfl
theorem te_368_1448 : (pT M_368).find? (fun e => e.1 == 1448) = some (1448, .aload_n 0, 0, 0) := (sk_72 1448 rfl).trans rfl
theorem te_368_1449 : (pT M_368).find? (fun e => e.1 == 1449) = some (1449, .iload 4, 0, 0) := (sk_72 1449 rfl).trans rfl
theorem te_368_1451 : (pT M_368).find? (fun e => e.1 == 1451) = some (1451, .iconst 1, 0, 0) := (sk_72 1451 rfl).trans rfl
theorem te_368_1452 : (pT M_368).find? (fun e => e.1 == 1452) = some (1452, .iadd, 0, 0) := (sk_72 1452 rfl).trans rfl
theorem te_368_1453 : (pT M_368).find? (fun e => e.1 == 1453) = some (1453, .iaload, 0, 0) := (sk_72 1453 rfl).trans rfl
theorem te_368_1454 : (pT M_368).find? (fun e => e.1 == 1454) = some (1454, .aload_n 0, 0, 0) := (sk_72 1454 rfl).trans rfl
theorem te_368_1455 : (pT M_368).find? (fun e => e.1 == 1455) = some (1455, .iload 4, 0, 0) := (sk_72 1455 rfl).trans rfl
theorem te_368_1457 : (pT M_368).find? (fun e => e.1 == 1457) = some (1457, .iconst 2, 0, 0) := (sk_73 1457 rfl).trans rfl
theorem te_368_1458 : (pT M_368).find? (fun e => e.1 == 1458) = some (1458, .iadd, 0, 0) := (sk_73 1458 rfl).trans rfl
theorem te_368_1459 : (pT M_368).find? (fun e => e.1 == 1459) = some (1459, .iaload, 0, 0) := (sk_73 1459 rfl).trans rfl
theorem te_368_1460 : (pT M_368).find? (fun e => e.1 == 1460) = some (1460, .aload_n 0, 0, 0) := (sk_73 1460 rfl).trans rfl
theorem te_368_1461 : (pT M_368).find? (fun e => e.1 == 1461) = some (1461, .iload 4, 0, 0) := (sk_73 1461 rfl).trans rfl
theorem te_368_1463 : (pT M_368).find? (fun e => e.1 == 1463) = some (1463, .iconst 3, 0, 0) := (sk_73 1463 rfl).trans rfl
theorem te_368_1464 : (pT M_368).find? (fun e => e.1 == 1464) = some (1464, .iadd, 0, 0) := (sk_73 1464 rfl).trans rfl
theorem te_368_1465 : (pT M_368).find? (fun e => e.1 == 1465) = some (1465, .iaload, 0, 0) := (sk_73 1465 rfl).trans rfl
theorem te_368_1466 : (pT M_368).find? (fun e => e.1 == 1466) = some (1466, .invokevirtual 272, 327, 0) := (sk_73 1466 rfl).trans rfl
theorem te_368_1469 : (pT M_368).find? (fun e => e.1 == 1469) = some (1469, .istore 6, 0, 0) := (sk_73 1469 rfl).trans rfl
theorem te_368_1471 : (pT M_368).find? (fun e => e.1 == 1471) = some (1471, .goto 880, 0, 0) := (sk_73 1471 rfl).trans rfl
theorem te_368_1474 : (pT M_368).find? (fun e => e.1 == 1474) = some (1474, .aload_n 1, 0, 0) := (sk_73 1474 rfl).trans rfl
theorem te_368_1475 : (pT M_368).find? (fun e => e.1 == 1475) = some (1475, .aload_n 0, 0, 0) := (sk_74 1475 rfl).trans rfl
theorem te_368_1476 : (pT M_368).find? (fun e => e.1 == 1476) = some (1476, .iload 4, 0, 0) := (sk_74 1476 rfl).trans rfl
theorem te_368_1478 : (pT M_368).find? (fun e => e.1 == 1478) = some (1478, .iconst 1, 0, 0) := (sk_74 1478 rfl).trans rfl
theorem te_368_1479 : (pT M_368).find? (fun e => e.1 == 1479) = some (1479, .iadd, 0, 0) := (sk_74 1479 rfl).trans rfl
theorem te_368_1480 : (pT M_368).find? (fun e => e.1 == 1480) = some (1480, .iaload, 0, 0) := (sk_74 1480 rfl).trans rfl
theorem te_368_1481 : (pT M_368).find? (fun e => e.1 == 1481) = some (1481, .aload_n 0, 0, 0) := (sk_74 1481 rfl).trans rfl
theorem te_368_1482 : (pT M_368).find? (fun e => e.1 == 1482) = some (1482, .iload 4, 0, 0) := (sk_74 1482 rfl).trans rfl
theorem te_368_1484 : (pT M_368).find? (fun e => e.1 == 1484) = some (1484, .iconst 2, 0, 0) := (sk_74 1484 rfl).trans rfl
theorem te_368_1485 : (pT M_368).find? (fun e => e.1 == 1485) = some (1485, .iadd, 0, 0) := (sk_74 1485 rfl).trans rfl
theorem te_368_1486 : (pT M_368).find? (fun e => e.1 == 1486) = some (1486, .iaload, 0, 0) := (sk_74 1486 rfl).trans rfl
theorem te_368_1487 : (pT M_368).find? (fun e => e.1 == 1487) = some (1487, .aload_n 0, 0, 0) := (sk_74 1487 rfl).trans rfl
theorem te_368_1488 : (pT M_368).find? (fun e => e.1 == 1488) = some (1488, .iload 4, 0, 0) := (sk_74 1488 rfl).trans rfl
theorem te_368_1490 : (pT M_368).find? (fun e => e.1 == 1490) = some (1490, .iconst 3, 0, 0) := (sk_75 1490 rfl).trans rfl
theorem te_368_1491 : (pT M_368).find? (fun e => e.1 == 1491) = some (1491, .iadd, 0, 0) := (sk_75 1491 rfl).trans rfl
theorem te_368_1492 : (pT M_368).find? (fun e => e.1 == 1492) = some (1492, .iaload, 0, 0) := (sk_75 1492 rfl).trans rfl
theorem te_368_1493 : (pT M_368).find? (fun e => e.1 == 1493) = some (1493, .aload_n 0, 0, 0) := (sk_75 1493 rfl).trans rfl
theorem te_368_1494 : (pT M_368).find? (fun e => e.1 == 1494) = some (1494, .iload 4, 0, 0) := (sk_75 1494 rfl).trans rfl
theorem te_368_1496 : (pT M_368).find? (fun e => e.1 == 1496) = some (1496, .iconst 4, 0, 0) := (sk_75 1496 rfl).trans rfl
theorem te_368_1497 : (pT M_368).find? (fun e => e.1 == 1497) = some (1497, .iadd, 0, 0) := (sk_75 1497 rfl).trans rfl
theorem te_368_1498 : (pT M_368).find? (fun e => e.1 == 1498) = some (1498, .iaload, 0, 0) := (sk_75 1498 rfl).trans rfl
theorem te_368_1499 : (pT M_368).find? (fun e => e.1 == 1499) = some (1499, .aload_n 3, 0, 0) := (sk_75 1499 rfl).trans rfl
theorem te_368_1500 : (pT M_368).find? (fun e => e.1 == 1500) = some (1500, .invokestatic 273, 170, 8) := (sk_75 1500 rfl).trans rfl
theorem te_368_1503 : (pT M_368).find? (fun e => e.1 == 1503) = some (1503, .istore 5, 0, 0) := (sk_75 1503 rfl).trans rfl
theorem te_368_1505 : (pT M_368).find? (fun e => e.1 == 1505) = some (1505, .aload_n 2, 0, 0) := (sk_75 1505 rfl).trans rfl
theorem te_368_1506 : (pT M_368).find? (fun e => e.1 == 1506) = some (1506, .aload_n 0, 0, 0) := (sk_76 1506 rfl).trans rfl
theorem te_368_1507 : (pT M_368).find? (fun e => e.1 == 1507) = some (1507, .iload 4, 0, 0) := (sk_76 1507 rfl).trans rfl
theorem te_368_1509 : (pT M_368).find? (fun e => e.1 == 1509) = some (1509, .iconst 1, 0, 0) := (sk_76 1509 rfl).trans rfl
theorem te_368_1510 : (pT M_368).find? (fun e => e.1 == 1510) = some (1510, .iadd, 0, 0) := (sk_76 1510 rfl).trans rfl
theorem te_368_1511 : (pT M_368).find? (fun e => e.1 == 1511) = some (1511, .iaload, 0, 0) := (sk_76 1511 rfl).trans rfl
theorem te_368_1512 : (pT M_368).find? (fun e => e.1 == 1512) = some (1512, .aload_n 0, 0, 0) := (sk_76 1512 rfl).trans rfl
theorem te_368_1513 : (pT M_368).find? (fun e => e.1 == 1513) = some (1513, .iload 4, 0, 0) := (sk_76 1513 rfl).trans rfl
theorem te_368_1515 : (pT M_368).find? (fun e => e.1 == 1515) = some (1515, .iconst 2, 0, 0) := (sk_76 1515 rfl).trans rfl
theorem te_368_1516 : (pT M_368).find? (fun e => e.1 == 1516) = some (1516, .iadd, 0, 0) := (sk_76 1516 rfl).trans rfl
theorem te_368_1517 : (pT M_368).find? (fun e => e.1 == 1517) = some (1517, .iaload, 0, 0) := (sk_76 1517 rfl).trans rfl
theorem te_368_1518 : (pT M_368).find? (fun e => e.1 == 1518) = some (1518, .aload_n 0, 0, 0) := (sk_76 1518 rfl).trans rfl
theorem te_368_1519 : (pT M_368).find? (fun e => e.1 == 1519) = some (1519, .iload 4, 0, 0) := (sk_76 1519 rfl).trans rfl
theorem te_368_1521 : (pT M_368).find? (fun e => e.1 == 1521) = some (1521, .iconst 3, 0, 0) := (sk_77 1521 rfl).trans rfl
theorem te_368_1522 : (pT M_368).find? (fun e => e.1 == 1522) = some (1522, .iadd, 0, 0) := (sk_77 1522 rfl).trans rfl
theorem te_368_1523 : (pT M_368).find? (fun e => e.1 == 1523) = some (1523, .iaload, 0, 0) := (sk_77 1523 rfl).trans rfl
theorem te_368_1524 : (pT M_368).find? (fun e => e.1 == 1524) = some (1524, .aload_n 0, 0, 0) := (sk_77 1524 rfl).trans rfl
theorem te_368_1525 : (pT M_368).find? (fun e => e.1 == 1525) = some (1525, .iload 4, 0, 0) := (sk_77 1525 rfl).trans rfl
theorem te_368_1527 : (pT M_368).find? (fun e => e.1 == 1527) = some (1527, .iconst 4, 0, 0) := (sk_77 1527 rfl).trans rfl
theorem te_368_1528 : (pT M_368).find? (fun e => e.1 == 1528) = some (1528, .iadd, 0, 0) := (sk_77 1528 rfl).trans rfl
theorem te_368_1529 : (pT M_368).find? (fun e => e.1 == 1529) = some (1529, .iaload, 0, 0) := (sk_77 1529 rfl).trans rfl
theorem te_368_1530 : (pT M_368).find? (fun e => e.1 == 1530) = some (1530, .invokevirtual 275, 331, 0) := (sk_77 1530 rfl).trans rfl
theorem te_368_1533 : (pT M_368).find? (fun e => e.1 == 1533) = some (1533, .istore 6, 0, 0) := (sk_77 1533 rfl).trans rfl
theorem te_368_1535 : (pT M_368).find? (fun e => e.1 == 1535) = some (1535, .goto 816, 0, 0) := (sk_77 1535 rfl).trans rfl
theorem te_368_1538 : (pT M_368).find? (fun e => e.1 == 1538) = some (1538, .aload_n 1, 0, 0) := (sk_77 1538 rfl).trans rfl
theorem te_368_1539 : (pT M_368).find? (fun e => e.1 == 1539) = some (1539, .aload_n 0, 0, 0) := (sk_78 1539 rfl).trans rfl
theorem te_368_1540 : (pT M_368).find? (fun e => e.1 == 1540) = some (1540, .iload 4, 0, 0) := (sk_78 1540 rfl).trans rfl
theorem te_368_1542 : (pT M_368).find? (fun e => e.1 == 1542) = some (1542, .iconst 1, 0, 0) := (sk_78 1542 rfl).trans rfl
theorem te_368_1543 : (pT M_368).find? (fun e => e.1 == 1543) = some (1543, .iadd, 0, 0) := (sk_78 1543 rfl).trans rfl
theorem te_368_1544 : (pT M_368).find? (fun e => e.1 == 1544) = some (1544, .iaload, 0, 0) := (sk_78 1544 rfl).trans rfl
theorem te_368_1545 : (pT M_368).find? (fun e => e.1 == 1545) = some (1545, .aload_n 0, 0, 0) := (sk_78 1545 rfl).trans rfl
theorem te_368_1546 : (pT M_368).find? (fun e => e.1 == 1546) = some (1546, .iload 4, 0, 0) := (sk_78 1546 rfl).trans rfl
theorem te_368_1548 : (pT M_368).find? (fun e => e.1 == 1548) = some (1548, .iconst 2, 0, 0) := (sk_78 1548 rfl).trans rfl
theorem te_368_1549 : (pT M_368).find? (fun e => e.1 == 1549) = some (1549, .iadd, 0, 0) := (sk_78 1549 rfl).trans rfl
theorem te_368_1550 : (pT M_368).find? (fun e => e.1 == 1550) = some (1550, .iaload, 0, 0) := (sk_78 1550 rfl).trans rfl
theorem te_368_1551 : (pT M_368).find? (fun e => e.1 == 1551) = some (1551, .ifCond .eq 7, 0, 0) := (sk_78 1551 rfl).trans rfl
theorem te_368_1554 : (pT M_368).find? (fun e => e.1 == 1554) = some (1554, .iconst 1, 0, 0) := (sk_78 1554 rfl).trans rfl
theorem te_368_1555 : (pT M_368).find? (fun e => e.1 == 1555) = some (1555, .goto 4, 0, 0) := (sk_79 1555 rfl).trans rfl
theorem te_368_1558 : (pT M_368).find? (fun e => e.1 == 1558) = some (1558, .iconst 0, 0, 0) := (sk_79 1558 rfl).trans rfl
theorem te_368_1559 : (pT M_368).find? (fun e => e.1 == 1559) = some (1559, .aload_n 3, 0, 0) := (sk_79 1559 rfl).trans rfl
theorem te_368_1560 : (pT M_368).find? (fun e => e.1 == 1560) = some (1560, .invokestatic 276, 172, 8) := (sk_79 1560 rfl).trans rfl
theorem te_368_1563 : (pT M_368).find? (fun e => e.1 == 1563) = some (1563, .istore 5, 0, 0) := (sk_79 1563 rfl).trans rfl
theorem te_368_1565 : (pT M_368).find? (fun e => e.1 == 1565) = some (1565, .aload_n 2, 0, 0) := (sk_79 1565 rfl).trans rfl
theorem te_368_1566 : (pT M_368).find? (fun e => e.1 == 1566) = some (1566, .aload_n 0, 0, 0) := (sk_79 1566 rfl).trans rfl
theorem te_368_1567 : (pT M_368).find? (fun e => e.1 == 1567) = some (1567, .iload 4, 0, 0) := (sk_79 1567 rfl).trans rfl
theorem te_368_1569 : (pT M_368).find? (fun e => e.1 == 1569) = some (1569, .iconst 1, 0, 0) := (sk_79 1569 rfl).trans rfl
theorem te_368_1570 : (pT M_368).find? (fun e => e.1 == 1570) = some (1570, .iadd, 0, 0) := (sk_79 1570 rfl).trans rfl
theorem te_368_1571 : (pT M_368).find? (fun e => e.1 == 1571) = some (1571, .iaload, 0, 0) := (sk_79 1571 rfl).trans rfl
theorem te_368_1572 : (pT M_368).find? (fun e => e.1 == 1572) = some (1572, .aload_n 0, 0, 0) := (sk_79 1572 rfl).trans rfl
theorem te_368_1573 : (pT M_368).find? (fun e => e.1 == 1573) = some (1573, .iload 4, 0, 0) := (sk_80 1573 rfl).trans rfl
theorem te_368_1575 : (pT M_368).find? (fun e => e.1 == 1575) = some (1575, .iconst 2, 0, 0) := (sk_80 1575 rfl).trans rfl
theorem te_368_1576 : (pT M_368).find? (fun e => e.1 == 1576) = some (1576, .iadd, 0, 0) := (sk_80 1576 rfl).trans rfl
theorem te_368_1577 : (pT M_368).find? (fun e => e.1 == 1577) = some (1577, .iaload, 0, 0) := (sk_80 1577 rfl).trans rfl
theorem te_368_1578 : (pT M_368).find? (fun e => e.1 == 1578) = some (1578, .ifCond .eq 7, 0, 0) := (sk_80 1578 rfl).trans rfl
theorem te_368_1581 : (pT M_368).find? (fun e => e.1 == 1581) = some (1581, .iconst 1, 0, 0) := (sk_80 1581 rfl).trans rfl
theorem te_368_1582 : (pT M_368).find? (fun e => e.1 == 1582) = some (1582, .goto 4, 0, 0) := (sk_80 1582 rfl).trans rfl
theorem te_368_1585 : (pT M_368).find? (fun e => e.1 == 1585) = some (1585, .iconst 0, 0, 0) := (sk_80 1585 rfl).trans rfl
theorem te_368_1586 : (pT M_368).find? (fun e => e.1 == 1586) = some (1586, .invokevirtual 279, 332, 0) := (sk_80 1586 rfl).trans rfl
theorem te_368_1589 : (pT M_368).find? (fun e => e.1 == 1589) = some (1589, .istore 6, 0, 0) := (sk_80 1589 rfl).trans rfl
theorem te_368_1591 : (pT M_368).find? (fun e => e.1 == 1591) = some (1591, .goto 760, 0, 0) := (sk_80 1591 rfl).trans rfl
theorem te_368_1594 : (pT M_368).find? (fun e => e.1 == 1594) = some (1594, .aload_n 1, 0, 0) := (sk_80 1594 rfl).trans rfl
theorem te_368_1595 : (pT M_368).find? (fun e => e.1 == 1595) = some (1595, .aload_n 0, 0, 0) := (sk_81 1595 rfl).trans rfl
theorem te_368_1596 : (pT M_368).find? (fun e => e.1 == 1596) = some (1596, .iload 4, 0, 0) := (sk_81 1596 rfl).trans rfl
theorem te_368_1598 : (pT M_368).find? (fun e => e.1 == 1598) = some (1598, .iconst 1, 0, 0) := (sk_81 1598 rfl).trans rfl
theorem te_368_1599 : (pT M_368).find? (fun e => e.1 == 1599) = some (1599, .iadd, 0, 0) := (sk_81 1599 rfl).trans rfl
theorem te_368_1600 : (pT M_368).find? (fun e => e.1 == 1600) = some (1600, .iaload, 0, 0) := (sk_81 1600 rfl).trans rfl
theorem te_368_1601 : (pT M_368).find? (fun e => e.1 == 1601) = some (1601, .aload_n 0, 0, 0) := (sk_81 1601 rfl).trans rfl
theorem te_368_1602 : (pT M_368).find? (fun e => e.1 == 1602) = some (1602, .iload 4, 0, 0) := (sk_81 1602 rfl).trans rfl
theorem te_368_1604 : (pT M_368).find? (fun e => e.1 == 1604) = some (1604, .iconst 2, 0, 0) := (sk_81 1604 rfl).trans rfl
theorem te_368_1605 : (pT M_368).find? (fun e => e.1 == 1605) = some (1605, .iadd, 0, 0) := (sk_81 1605 rfl).trans rfl
theorem te_368_1606 : (pT M_368).find? (fun e => e.1 == 1606) = some (1606, .iaload, 0, 0) := (sk_81 1606 rfl).trans rfl
theorem te_368_1607 : (pT M_368).find? (fun e => e.1 == 1607) = some (1607, .aload_n 0, 0, 0) := (sk_81 1607 rfl).trans rfl
theorem te_368_1608 : (pT M_368).find? (fun e => e.1 == 1608) = some (1608, .iload 4, 0, 0) := (sk_81 1608 rfl).trans rfl
theorem te_368_1610 : (pT M_368).find? (fun e => e.1 == 1610) = some (1610, .iconst 3, 0, 0) := (sk_82 1610 rfl).trans rfl
theorem te_368_1611 : (pT M_368).find? (fun e => e.1 == 1611) = some (1611, .iadd, 0, 0) := (sk_82 1611 rfl).trans rfl
theorem te_368_1612 : (pT M_368).find? (fun e => e.1 == 1612) = some (1612, .iaload, 0, 0) := (sk_82 1612 rfl).trans rfl
theorem te_368_1613 : (pT M_368).find? (fun e => e.1 == 1613) = some (1613, .ifCond .eq 7, 0, 0) := (sk_82 1613 rfl).trans rfl
theorem te_368_1616 : (pT M_368).find? (fun e => e.1 == 1616) = some (1616, .iconst 1, 0, 0) := (sk_82 1616 rfl).trans rfl
theorem te_368_1617 : (pT M_368).find? (fun e => e.1 == 1617) = some (1617, .goto 4, 0, 0) := (sk_82 1617 rfl).trans rfl
theorem te_368_1620 : (pT M_368).find? (fun e => e.1 == 1620) = some (1620, .iconst 0, 0, 0) := (sk_82 1620 rfl).trans rfl
theorem te_368_1621 : (pT M_368).find? (fun e => e.1 == 1621) = some (1621, .aload_n 3, 0, 0) := (sk_82 1621 rfl).trans rfl
theorem te_368_1622 : (pT M_368).find? (fun e => e.1 == 1622) = some (1622, .invokestatic 280, 174, 8) := (sk_82 1622 rfl).trans rfl
theorem te_368_1625 : (pT M_368).find? (fun e => e.1 == 1625) = some (1625, .istore 5, 0, 0) := (sk_82 1625 rfl).trans rfl
theorem te_368_1627 : (pT M_368).find? (fun e => e.1 == 1627) = some (1627, .aload_n 2, 0, 0) := (sk_82 1627 rfl).trans rfl
theorem te_368_1628 : (pT M_368).find? (fun e => e.1 == 1628) = some (1628, .aload_n 0, 0, 0) := (sk_82 1628 rfl).trans rfl
theorem te_368_1629 : (pT M_368).find? (fun e => e.1 == 1629) = some (1629, .iload 4, 0, 0) := (sk_83 1629 rfl).trans rfl
theorem te_368_1631 : (pT M_368).find? (fun e => e.1 == 1631) = some (1631, .iconst 1, 0, 0) := (sk_83 1631 rfl).trans rfl
theorem te_368_1632 : (pT M_368).find? (fun e => e.1 == 1632) = some (1632, .iadd, 0, 0) := (sk_83 1632 rfl).trans rfl
theorem te_368_1633 : (pT M_368).find? (fun e => e.1 == 1633) = some (1633, .iaload, 0, 0) := (sk_83 1633 rfl).trans rfl
theorem te_368_1634 : (pT M_368).find? (fun e => e.1 == 1634) = some (1634, .aload_n 0, 0, 0) := (sk_83 1634 rfl).trans rfl
theorem te_368_1635 : (pT M_368).find? (fun e => e.1 == 1635) = some (1635, .iload 4, 0, 0) := (sk_83 1635 rfl).trans rfl
theorem te_368_1637 : (pT M_368).find? (fun e => e.1 == 1637) = some (1637, .iconst 2, 0, 0) := (sk_83 1637 rfl).trans rfl
theorem te_368_1638 : (pT M_368).find? (fun e => e.1 == 1638) = some (1638, .iadd, 0, 0) := (sk_83 1638 rfl).trans rfl
theorem te_368_1639 : (pT M_368).find? (fun e => e.1 == 1639) = some (1639, .iaload, 0, 0) := (sk_83 1639 rfl).trans rfl
theorem te_368_1640 : (pT M_368).find? (fun e => e.1 == 1640) = some (1640, .aload_n 0, 0, 0) := (sk_83 1640 rfl).trans rfl
theorem te_368_1641 : (pT M_368).find? (fun e => e.1 == 1641) = some (1641, .iload 4, 0, 0) := (sk_83 1641 rfl).trans rfl
theorem te_368_1643 : (pT M_368).find? (fun e => e.1 == 1643) = some (1643, .iconst 3, 0, 0) := (sk_83 1643 rfl).trans rfl
theorem te_368_1644 : (pT M_368).find? (fun e => e.1 == 1644) = some (1644, .iadd, 0, 0) := (sk_84 1644 rfl).trans rfl
theorem te_368_1645 : (pT M_368).find? (fun e => e.1 == 1645) = some (1645, .iaload, 0, 0) := (sk_84 1645 rfl).trans rfl
theorem te_368_1646 : (pT M_368).find? (fun e => e.1 == 1646) = some (1646, .ifCond .eq 7, 0, 0) := (sk_84 1646 rfl).trans rfl
theorem te_368_1649 : (pT M_368).find? (fun e => e.1 == 1649) = some (1649, .iconst 1, 0, 0) := (sk_84 1649 rfl).trans rfl
theorem te_368_1650 : (pT M_368).find? (fun e => e.1 == 1650) = some (1650, .goto 4, 0, 0) := (sk_84 1650 rfl).trans rfl
theorem te_368_1653 : (pT M_368).find? (fun e => e.1 == 1653) = some (1653, .iconst 0, 0, 0) := (sk_84 1653 rfl).trans rfl
theorem te_368_1654 : (pT M_368).find? (fun e => e.1 == 1654) = some (1654, .invokevirtual 283, 333, 0) := (sk_84 1654 rfl).trans rfl
theorem te_368_1657 : (pT M_368).find? (fun e => e.1 == 1657) = some (1657, .istore 6, 0, 0) := (sk_84 1657 rfl).trans rfl
theorem te_368_1659 : (pT M_368).find? (fun e => e.1 == 1659) = some (1659, .goto 692, 0, 0) := (sk_84 1659 rfl).trans rfl
theorem te_368_1662 : (pT M_368).find? (fun e => e.1 == 1662) = some (1662, .aload_n 1, 0, 0) := (sk_84 1662 rfl).trans rfl
theorem te_368_1663 : (pT M_368).find? (fun e => e.1 == 1663) = some (1663, .aload_n 0, 0, 0) := (sk_84 1663 rfl).trans rfl
theorem te_368_1664 : (pT M_368).find? (fun e => e.1 == 1664) = some (1664, .iload 4, 0, 0) := (sk_84 1664 rfl).trans rfl
theorem te_368_1666 : (pT M_368).find? (fun e => e.1 == 1666) = some (1666, .iconst 1, 0, 0) := (sk_85 1666 rfl).trans rfl
theorem te_368_1667 : (pT M_368).find? (fun e => e.1 == 1667) = some (1667, .iadd, 0, 0) := (sk_85 1667 rfl).trans rfl
theorem te_368_1668 : (pT M_368).find? (fun e => e.1 == 1668) = some (1668, .iaload, 0, 0) := (sk_85 1668 rfl).trans rfl
theorem te_368_1669 : (pT M_368).find? (fun e => e.1 == 1669) = some (1669, .aload_n 3, 0, 0) := (sk_85 1669 rfl).trans rfl
theorem te_368_1670 : (pT M_368).find? (fun e => e.1 == 1670) = some (1670, .invokestatic 284, 177, 8) := (sk_85 1670 rfl).trans rfl
theorem te_368_1673 : (pT M_368).find? (fun e => e.1 == 1673) = some (1673, .istore 5, 0, 0) := (sk_85 1673 rfl).trans rfl
theorem te_368_1675 : (pT M_368).find? (fun e => e.1 == 1675) = some (1675, .aload_n 2, 0, 0) := (sk_85 1675 rfl).trans rfl
theorem te_368_1676 : (pT M_368).find? (fun e => e.1 == 1676) = some (1676, .aload_n 0, 0, 0) := (sk_85 1676 rfl).trans rfl
theorem te_368_1677 : (pT M_368).find? (fun e => e.1 == 1677) = some (1677, .iload 4, 0, 0) := (sk_85 1677 rfl).trans rfl
theorem te_368_1679 : (pT M_368).find? (fun e => e.1 == 1679) = some (1679, .iconst 1, 0, 0) := (sk_85 1679 rfl).trans rfl
theorem te_368_1680 : (pT M_368).find? (fun e => e.1 == 1680) = some (1680, .iadd, 0, 0) := (sk_85 1680 rfl).trans rfl
theorem te_368_1681 : (pT M_368).find? (fun e => e.1 == 1681) = some (1681, .iaload, 0, 0) := (sk_85 1681 rfl).trans rfl
theorem te_368_1682 : (pT M_368).find? (fun e => e.1 == 1682) = some (1682, .invokevirtual 286, 337, 0) := (sk_86 1682 rfl).trans rfl
theorem te_368_1685 : (pT M_368).find? (fun e => e.1 == 1685) = some (1685, .istore 6, 0, 0) := (sk_86 1685 rfl).trans rfl
theorem te_368_1687 : (pT M_368).find? (fun e => e.1 == 1687) = some (1687, .goto 664, 0, 0) := (sk_86 1687 rfl).trans rfl
theorem te_368_1690 : (pT M_368).find? (fun e => e.1 == 1690) = some (1690, .aload_n 1, 0, 0) := (sk_86 1690 rfl).trans rfl
theorem te_368_1691 : (pT M_368).find? (fun e => e.1 == 1691) = some (1691, .aload_n 0, 0, 0) := (sk_86 1691 rfl).trans rfl
theorem te_368_1692 : (pT M_368).find? (fun e => e.1 == 1692) = some (1692, .iload 4, 0, 0) := (sk_86 1692 rfl).trans rfl
theorem te_368_1694 : (pT M_368).find? (fun e => e.1 == 1694) = some (1694, .iconst 1, 0, 0) := (sk_86 1694 rfl).trans rfl
theorem te_368_1695 : (pT M_368).find? (fun e => e.1 == 1695) = some (1695, .iadd, 0, 0) := (sk_86 1695 rfl).trans rfl
theorem te_368_1696 : (pT M_368).find? (fun e => e.1 == 1696) = some (1696, .iaload, 0, 0) := (sk_86 1696 rfl).trans rfl
theorem te_368_1697 : (pT M_368).find? (fun e => e.1 == 1697) = some (1697, .aload_n 0, 0, 0) := (sk_86 1697 rfl).trans rfl
theorem te_368_1698 : (pT M_368).find? (fun e => e.1 == 1698) = some (1698, .iload 4, 0, 0) := (sk_86 1698 rfl).trans rfl
theorem te_368_1700 : (pT M_368).find? (fun e => e.1 == 1700) = some (1700, .iconst 2, 0, 0) := (sk_86 1700 rfl).trans rfl
theorem te_368_1701 : (pT M_368).find? (fun e => e.1 == 1701) = some (1701, .iadd, 0, 0) := (sk_87 1701 rfl).trans rfl
theorem te_368_1702 : (pT M_368).find? (fun e => e.1 == 1702) = some (1702, .iaload, 0, 0) := (sk_87 1702 rfl).trans rfl
theorem te_368_1703 : (pT M_368).find? (fun e => e.1 == 1703) = some (1703, .aload_n 0, 0, 0) := (sk_87 1703 rfl).trans rfl
theorem te_368_1704 : (pT M_368).find? (fun e => e.1 == 1704) = some (1704, .iload 4, 0, 0) := (sk_87 1704 rfl).trans rfl
theorem te_368_1706 : (pT M_368).find? (fun e => e.1 == 1706) = some (1706, .iconst 3, 0, 0) := (sk_87 1706 rfl).trans rfl
theorem te_368_1707 : (pT M_368).find? (fun e => e.1 == 1707) = some (1707, .iadd, 0, 0) := (sk_87 1707 rfl).trans rfl
theorem te_368_1708 : (pT M_368).find? (fun e => e.1 == 1708) = some (1708, .iaload, 0, 0) := (sk_87 1708 rfl).trans rfl
theorem te_368_1709 : (pT M_368).find? (fun e => e.1 == 1709) = some (1709, .aload_n 3, 0, 0) := (sk_87 1709 rfl).trans rfl
theorem te_368_1710 : (pT M_368).find? (fun e => e.1 == 1710) = some (1710, .invokestatic 287, 182, 8) := (sk_87 1710 rfl).trans rfl
theorem te_368_1713 : (pT M_368).find? (fun e => e.1 == 1713) = some (1713, .istore 5, 0, 0) := (sk_87 1713 rfl).trans rfl
theorem te_368_1715 : (pT M_368).find? (fun e => e.1 == 1715) = some (1715, .aload_n 2, 0, 0) := (sk_87 1715 rfl).trans rfl
theorem te_368_1716 : (pT M_368).find? (fun e => e.1 == 1716) = some (1716, .aload_n 0, 0, 0) := (sk_87 1716 rfl).trans rfl
theorem te_368_1717 : (pT M_368).find? (fun e => e.1 == 1717) = some (1717, .iload 4, 0, 0) := (sk_88 1717 rfl).trans rfl
theorem te_368_1719 : (pT M_368).find? (fun e => e.1 == 1719) = some (1719, .iconst 1, 0, 0) := (sk_88 1719 rfl).trans rfl
theorem te_368_1720 : (pT M_368).find? (fun e => e.1 == 1720) = some (1720, .iadd, 0, 0) := (sk_88 1720 rfl).trans rfl
theorem te_368_1721 : (pT M_368).find? (fun e => e.1 == 1721) = some (1721, .iaload, 0, 0) := (sk_88 1721 rfl).trans rfl
theorem te_368_1722 : (pT M_368).find? (fun e => e.1 == 1722) = some (1722, .aload_n 0, 0, 0) := (sk_88 1722 rfl).trans rfl
theorem te_368_1723 : (pT M_368).find? (fun e => e.1 == 1723) = some (1723, .iload 4, 0, 0) := (sk_88 1723 rfl).trans rfl
theorem te_368_1725 : (pT M_368).find? (fun e => e.1 == 1725) = some (1725, .iconst 2, 0, 0) := (sk_88 1725 rfl).trans rfl
theorem te_368_1726 : (pT M_368).find? (fun e => e.1 == 1726) = some (1726, .iadd, 0, 0) := (sk_88 1726 rfl).trans rfl
theorem te_368_1727 : (pT M_368).find? (fun e => e.1 == 1727) = some (1727, .iaload, 0, 0) := (sk_88 1727 rfl).trans rfl
theorem te_368_1728 : (pT M_368).find? (fun e => e.1 == 1728) = some (1728, .aload_n 0, 0, 0) := (sk_88 1728 rfl).trans rfl
theorem te_368_1729 : (pT M_368).find? (fun e => e.1 == 1729) = some (1729, .iload 4, 0, 0) := (sk_88 1729 rfl).trans rfl
theorem te_368_1731 : (pT M_368).find? (fun e => e.1 == 1731) = some (1731, .iconst 3, 0, 0) := (sk_88 1731 rfl).trans rfl
theorem te_368_1732 : (pT M_368).find? (fun e => e.1 == 1732) = some (1732, .iadd, 0, 0) := (sk_89 1732 rfl).trans rfl
theorem te_368_1733 : (pT M_368).find? (fun e => e.1 == 1733) = some (1733, .iaload, 0, 0) := (sk_89 1733 rfl).trans rfl
theorem te_368_1734 : (pT M_368).find? (fun e => e.1 == 1734) = some (1734, .invokevirtual 289, 342, 0) := (sk_89 1734 rfl).trans rfl
theorem te_368_1737 : (pT M_368).find? (fun e => e.1 == 1737) = some (1737, .istore 6, 0, 0) := (sk_89 1737 rfl).trans rfl
theorem te_368_1739 : (pT M_368).find? (fun e => e.1 == 1739) = some (1739, .goto 612, 0, 0) := (sk_89 1739 rfl).trans rfl
theorem te_368_1742 : (pT M_368).find? (fun e => e.1 == 1742) = some (1742, .aload_n 1, 0, 0) := (sk_89 1742 rfl).trans rfl
theorem te_368_1743 : (pT M_368).find? (fun e => e.1 == 1743) = some (1743, .aload_n 0, 0, 0) := (sk_89 1743 rfl).trans rfl
theorem te_368_1744 : (pT M_368).find? (fun e => e.1 == 1744) = some (1744, .iload 4, 0, 0) := (sk_89 1744 rfl).trans rfl
theorem te_368_1746 : (pT M_368).find? (fun e => e.1 == 1746) = some (1746, .iconst 1, 0, 0) := (sk_89 1746 rfl).trans rfl
theorem te_368_1747 : (pT M_368).find? (fun e => e.1 == 1747) = some (1747, .iadd, 0, 0) := (sk_89 1747 rfl).trans rfl
theorem te_368_1748 : (pT M_368).find? (fun e => e.1 == 1748) = some (1748, .iaload, 0, 0) := (sk_89 1748 rfl).trans rfl
theorem te_368_1749 : (pT M_368).find? (fun e => e.1 == 1749) = some (1749, .aload_n 0, 0, 0) := (sk_89 1749 rfl).trans rfl
theorem te_368_1750 : (pT M_368).find? (fun e => e.1 == 1750) = some (1750, .iload 4, 0, 0) := (sk_90 1750 rfl).trans rfl
theorem te_368_1752 : (pT M_368).find? (fun e => e.1 == 1752) = some (1752, .iconst 2, 0, 0) := (sk_90 1752 rfl).trans rfl
theorem te_368_1753 : (pT M_368).find? (fun e => e.1 == 1753) = some (1753, .iadd, 0, 0) := (sk_90 1753 rfl).trans rfl
theorem te_368_1754 : (pT M_368).find? (fun e => e.1 == 1754) = some (1754, .iaload, 0, 0) := (sk_90 1754 rfl).trans rfl
theorem te_368_1755 : (pT M_368).find? (fun e => e.1 == 1755) = some (1755, .aload_n 0, 0, 0) := (sk_90 1755 rfl).trans rfl
theorem te_368_1756 : (pT M_368).find? (fun e => e.1 == 1756) = some (1756, .iload 4, 0, 0) := (sk_90 1756 rfl).trans rfl
theorem te_368_1758 : (pT M_368).find? (fun e => e.1 == 1758) = some (1758, .iconst 3, 0, 0) := (sk_90 1758 rfl).trans rfl
theorem te_368_1759 : (pT M_368).find? (fun e => e.1 == 1759) = some (1759, .iadd, 0, 0) := (sk_90 1759 rfl).trans rfl
theorem te_368_1760 : (pT M_368).find? (fun e => e.1 == 1760) = some (1760, .iaload, 0, 0) := (sk_90 1760 rfl).trans rfl
theorem te_368_1761 : (pT M_368).find? (fun e => e.1 == 1761) = some (1761, .aload_n 0, 0, 0) := (sk_90 1761 rfl).trans rfl
theorem te_368_1762 : (pT M_368).find? (fun e => e.1 == 1762) = some (1762, .iload 4, 0, 0) := (sk_90 1762 rfl).trans rfl
theorem te_368_1764 : (pT M_368).find? (fun e => e.1 == 1764) = some (1764, .iconst 4, 0, 0) := (sk_90 1764 rfl).trans rfl
theorem te_368_1765 : (pT M_368).find? (fun e => e.1 == 1765) = some (1765, .iadd, 0, 0) := (sk_91 1765 rfl).trans rfl
theorem te_368_1766 : (pT M_368).find? (fun e => e.1 == 1766) = some (1766, .iaload, 0, 0) := (sk_91 1766 rfl).trans rfl
theorem te_368_1767 : (pT M_368).find? (fun e => e.1 == 1767) = some (1767, .aload_n 0, 0, 0) := (sk_91 1767 rfl).trans rfl
theorem te_368_1768 : (pT M_368).find? (fun e => e.1 == 1768) = some (1768, .iload 4, 0, 0) := (sk_91 1768 rfl).trans rfl
theorem te_368_1770 : (pT M_368).find? (fun e => e.1 == 1770) = some (1770, .iconst 5, 0, 0) := (sk_91 1770 rfl).trans rfl
theorem te_368_1771 : (pT M_368).find? (fun e => e.1 == 1771) = some (1771, .iadd, 0, 0) := (sk_91 1771 rfl).trans rfl
theorem te_368_1772 : (pT M_368).find? (fun e => e.1 == 1772) = some (1772, .iaload, 0, 0) := (sk_91 1772 rfl).trans rfl
theorem te_368_1773 : (pT M_368).find? (fun e => e.1 == 1773) = some (1773, .aload_n 3, 0, 0) := (sk_91 1773 rfl).trans rfl
theorem te_368_1774 : (pT M_368).find? (fun e => e.1 == 1774) = some (1774, .invokestatic 290, 184, 8) := (sk_91 1774 rfl).trans rfl
theorem te_368_1777 : (pT M_368).find? (fun e => e.1 == 1777) = some (1777, .istore 5, 0, 0) := (sk_91 1777 rfl).trans rfl
theorem te_368_1779 : (pT M_368).find? (fun e => e.1 == 1779) = some (1779, .aload_n 2, 0, 0) := (sk_91 1779 rfl).trans rfl
theorem te_368_1780 : (pT M_368).find? (fun e => e.1 == 1780) = some (1780, .aload_n 0, 0, 0) := (sk_91 1780 rfl).trans rfl
theorem te_368_1781 : (pT M_368).find? (fun e => e.1 == 1781) = some (1781, .iload 4, 0, 0) := (sk_92 1781 rfl).trans rfl
theorem te_368_1783 : (pT M_368).find? (fun e => e.1 == 1783) = some (1783, .iconst 1, 0, 0) := (sk_92 1783 rfl).trans rfl
theorem te_368_1784 : (pT M_368).find? (fun e => e.1 == 1784) = some (1784, .iadd, 0, 0) := (sk_92 1784 rfl).trans rfl
theorem te_368_1785 : (pT M_368).find? (fun e => e.1 == 1785) = some (1785, .iaload, 0, 0) := (sk_92 1785 rfl).trans rfl
theorem te_368_1786 : (pT M_368).find? (fun e => e.1 == 1786) = some (1786, .aload_n 0, 0, 0) := (sk_92 1786 rfl).trans rfl
theorem te_368_1787 : (pT M_368).find? (fun e => e.1 == 1787) = some (1787, .iload 4, 0, 0) := (sk_92 1787 rfl).trans rfl
theorem te_368_1789 : (pT M_368).find? (fun e => e.1 == 1789) = some (1789, .iconst 2, 0, 0) := (sk_92 1789 rfl).trans rfl
theorem te_368_1790 : (pT M_368).find? (fun e => e.1 == 1790) = some (1790, .iadd, 0, 0) := (sk_92 1790 rfl).trans rfl
theorem te_368_1791 : (pT M_368).find? (fun e => e.1 == 1791) = some (1791, .iaload, 0, 0) := (sk_92 1791 rfl).trans rfl
theorem te_368_1792 : (pT M_368).find? (fun e => e.1 == 1792) = some (1792, .aload_n 0, 0, 0) := (sk_92 1792 rfl).trans rfl
theorem te_368_1793 : (pT M_368).find? (fun e => e.1 == 1793) = some (1793, .iload 4, 0, 0) := (sk_92 1793 rfl).trans rfl
theorem te_368_1795 : (pT M_368).find? (fun e => e.1 == 1795) = some (1795, .iconst 3, 0, 0) := (sk_92 1795 rfl).trans rfl
theorem te_368_1796 : (pT M_368).find? (fun e => e.1 == 1796) = some (1796, .iadd, 0, 0) := (sk_93 1796 rfl).trans rfl
theorem te_368_1797 : (pT M_368).find? (fun e => e.1 == 1797) = some (1797, .iaload, 0, 0) := (sk_93 1797 rfl).trans rfl
theorem te_368_1798 : (pT M_368).find? (fun e => e.1 == 1798) = some (1798, .aload_n 0, 0, 0) := (sk_93 1798 rfl).trans rfl
theorem te_368_1799 : (pT M_368).find? (fun e => e.1 == 1799) = some (1799, .iload 4, 0, 0) := (sk_93 1799 rfl).trans rfl
theorem te_368_1801 : (pT M_368).find? (fun e => e.1 == 1801) = some (1801, .iconst 4, 0, 0) := (sk_93 1801 rfl).trans rfl
theorem te_368_1802 : (pT M_368).find? (fun e => e.1 == 1802) = some (1802, .iadd, 0, 0) := (sk_93 1802 rfl).trans rfl
theorem te_368_1803 : (pT M_368).find? (fun e => e.1 == 1803) = some (1803, .iaload, 0, 0) := (sk_93 1803 rfl).trans rfl
theorem te_368_1804 : (pT M_368).find? (fun e => e.1 == 1804) = some (1804, .aload_n 0, 0, 0) := (sk_93 1804 rfl).trans rfl
theorem te_368_1805 : (pT M_368).find? (fun e => e.1 == 1805) = some (1805, .iload 4, 0, 0) := (sk_93 1805 rfl).trans rfl
theorem te_368_1807 : (pT M_368).find? (fun e => e.1 == 1807) = some (1807, .iconst 5, 0, 0) := (sk_93 1807 rfl).trans rfl
theorem te_368_1808 : (pT M_368).find? (fun e => e.1 == 1808) = some (1808, .iadd, 0, 0) := (sk_93 1808 rfl).trans rfl
theorem te_368_1809 : (pT M_368).find? (fun e => e.1 == 1809) = some (1809, .iaload, 0, 0) := (sk_93 1809 rfl).trans rfl
theorem te_368_1810 : (pT M_368).find? (fun e => e.1 == 1810) = some (1810, .invokevirtual 292, 326, 0) := (sk_94 1810 rfl).trans rfl
theorem te_368_1813 : (pT M_368).find? (fun e => e.1 == 1813) = some (1813, .istore 6, 0, 0) := (sk_94 1813 rfl).trans rfl
theorem te_368_1815 : (pT M_368).find? (fun e => e.1 == 1815) = some (1815, .goto 536, 0, 0) := (sk_94 1815 rfl).trans rfl
theorem lc_21 {S : Nat × (Nat → Int32)} {lv : LV} {h : PH} {c s : Nat} {i : Int32} (hS : S.1 ≤ 3072) (hl : LwS lv i) (hi : 0 ≤ i.toInt ∧ i.toInt + 5 < S.1) (hL : LR h) (hc : c + 8 ≤ 601024) (hs : s + 48 ≤ 7293033) (Nx : ∀ lv' h' c' s', LwS lv' i → LR h' → c' ≤ c + 8 → s' ≤ s + 48 → Vx (Ex S 24) S M_368 [] Q1 2351 lv' [] h' c' s') : Vx (Ex S 24) S M_368 [] Q1 1098 lv [] h c s := by
  have hC := Ex.mono S 24
  refine Vx.go hC te_368_1098 ?_
  refine ⟨_, hl.2.1, ⟨0, Or.inl rfl⟩, ?_⟩
  refine sc_load hC (k := 1) hl te_368_1099 te_368_1100 te_368_1102 te_368_1103 te_368_1104 (sc_in hS hi (by decide)) ?_
  refine sc_load hC (k := 2) hl te_368_1105 te_368_1106 te_368_1108 te_368_1109 te_368_1110 (sc_in hS hi (by decide)) ?_
  refine sc_load hC (k := 3) hl te_368_1111 te_368_1112 te_368_1114 te_368_1115 te_368_1116 (sc_in hS hi (by decide)) ?_
  refine Vx.go hC te_368_1117 ?_
  refine ⟨_, hl.2.2.2.1, ⟨173, Or.inl rfl⟩, ?_⟩
  refine Vx.go hC te_368_1118 ?_
  refine Or.inr ⟨by decide, ?_⟩
  refine p_call_mk (av := [.ref 0, .int (S.2 (i + Int32.ofInt 1).toNatClampNeg), .int (S.2 (i + Int32.ofInt 2).toNatClampNeg), .int (S.2 (i + Int32.ofInt 3).toNatClampNeg), .ref 173]) (rest := []) mt_144 rfl (by decide) (show c + 5 ≤ 601024 by omega) (show s + 30 ≤ 7293033 by omega) (fun q => by cases q) ?_
  refine g_144 (n := 6) hL (fun r3 h1 hL2 => ?_)
  show Vx (Ex S 24) S M_368 [] Q1 1121 lv [.int r3] h1 (c + 5) (s + 30)
  refine Vx.go hC te_368_1121 ?_
  refine ⟨by decide, ?_⟩
  have hl4 := LwS.st (j := 5) (v := .int r3) (by omega) hl
  show Vx (Ex S 24) S M_368 [] Q1 1123 (px_s1 lv 5 (.int r3)) [] h1 (c + 5) (s + 30)
  refine Vx.go hC te_368_1123 ?_
  refine ⟨_, hl4.2.2.1, ⟨143, Or.inl rfl⟩, ?_⟩
  refine sc_load hC (k := 1) hl4 te_368_1124 te_368_1125 te_368_1127 te_368_1128 te_368_1129 (sc_in hS hi (by decide)) ?_
  refine sc_load hC (k := 2) hl4 te_368_1130 te_368_1131 te_368_1133 te_368_1134 te_368_1135 (sc_in hS hi (by decide)) ?_
  refine sc_load hC (k := 3) hl4 te_368_1136 te_368_1137 te_368_1139 te_368_1140 te_368_1141 (sc_in hS hi (by decide)) ?_
  refine Vx.go hC te_368_1142 ?_
  obtain ⟨gs8, gs8g⟩ := hL2.obj (A := 143) rfl
  have hcall9 := ref_call (S := S) (n := 24) (μ := 305) (args := [.inr 143, .inl ((S.2 (i + Int32.ofInt 1).toNatClampNeg) : Int32).toInt, .inl ((S.2 (i + Int32.ofInt 2).toNatClampNeg) : Int32).toInt, .inl ((S.2 (i + Int32.ofInt 3).toNatClampNeg) : Int32).toInt]) (h := h1) (fun v hv => by simp only [List.mem_cons, List.not_mem_nil, or_false] at hv; rcases hv with rfl | rfl | rfl | rfl <;> first | trivial | exact wiI _) hL2 (fun mem hr => f_305 hr (fun r m' a b => ⟨a, b⟩))
  simp only [List.map_cons, List.map_nil, wv, Int32.ofInt_toInt] at hcall9
  refine p_call_mk (av := [.ref 143, .int (S.2 (i + Int32.ofInt 1).toNatClampNeg), .int (S.2 (i + Int32.ofInt 2).toNatClampNeg), .int (S.2 (i + Int32.ofInt 3).toNatClampNeg)]) (rest := []) mt_305 rfl (by decide) (show (c + 5) + 0 ≤ 601024 by omega) (show (s + 30) + 0 ≤ 7293033 by omega) (fun _ => ⟨143, gs8, rfl, gs8g⟩) ?_
  refine hC _ _ _ _ _ ?_ hcall9
  rintro _ h5 ⟨hL6, r7, rfl⟩
  show Vx (Ex S 24) S M_368 [] Q1 1145 (px_s1 lv 5 (.int r3)) [.int r7] h5 (c + 5) (s + 30)
  refine Vx.go hC te_368_1145 ?_
  refine ⟨by decide, ?_⟩
  have hl10 := LwS.st (j := 6) (v := .int r7) (by omega) hl4
  show Vx (Ex S 24) S M_368 [] Q1 1147 (px_s1 (px_s1 lv 5 (.int r3)) 6 (.int r7)) [] h5 (c + 5) (s + 30)
  refine Vx.go hC te_368_1147 ?_
  refine ⟨by decide, ?_⟩
  exact Nx _ _ _ _ hl10 hL6 (by omega) (by omega)
theorem lc_22 {S : Nat × (Nat → Int32)} {lv : LV} {h : PH} {c s : Nat} {i : Int32} (hS : S.1 ≤ 3072) (hl : LwS lv i) (hi : 0 ≤ i.toInt ∧ i.toInt + 5 < S.1) (hL : LR h) (hc : c + 8 ≤ 601024) (hs : s + 48 ≤ 7293033) (Nx : ∀ lv' h' c' s', LwS lv' i → LR h' → c' ≤ c + 8 → s' ≤ s + 48 → Vx (Ex S 24) S M_368 [] Q1 2351 lv' [] h' c' s') : Vx (Ex S 24) S M_368 [] Q1 1150 lv [] h c s := by
  have hC := Ex.mono S 24
  refine Vx.go hC te_368_1150 ?_
  refine ⟨_, hl.2.1, ⟨0, Or.inl rfl⟩, ?_⟩
  refine sc_load hC (k := 1) hl te_368_1151 te_368_1152 te_368_1154 te_368_1155 te_368_1156 (sc_in hS hi (by decide)) ?_
  refine sc_load hC (k := 2) hl te_368_1157 te_368_1158 te_368_1160 te_368_1161 te_368_1162 (sc_in hS hi (by decide)) ?_
  refine Vx.go hC te_368_1163 ?_
  refine ⟨_, hl.2.2.2.1, ⟨173, Or.inl rfl⟩, ?_⟩
  refine Vx.go hC te_368_1164 ?_
  refine Or.inr ⟨by decide, ?_⟩
  refine p_call_mk (av := [.ref 0, .int (S.2 (i + Int32.ofInt 1).toNatClampNeg), .int (S.2 (i + Int32.ofInt 2).toNatClampNeg), .ref 173]) (rest := []) mt_147 rfl (by decide) (show c + 5 ≤ 601024 by omega) (show s + 30 ≤ 7293033 by omega) (fun q => by cases q) ?_
  refine g_147 (n := 6) hL (fun r3 h1 hL2 => ?_)
  show Vx (Ex S 24) S M_368 [] Q1 1167 lv [.int r3] h1 (c + 5) (s + 30)
  refine Vx.go hC te_368_1167 ?_
  refine ⟨by decide, ?_⟩
  have hl4 := LwS.st (j := 5) (v := .int r3) (by omega) hl
  show Vx (Ex S 24) S M_368 [] Q1 1169 (px_s1 lv 5 (.int r3)) [] h1 (c + 5) (s + 30)
  refine Vx.go hC te_368_1169 ?_
  refine ⟨_, hl4.2.2.1, ⟨143, Or.inl rfl⟩, ?_⟩
  refine sc_load hC (k := 1) hl4 te_368_1170 te_368_1171 te_368_1173 te_368_1174 te_368_1175 (sc_in hS hi (by decide)) ?_
  refine sc_load hC (k := 2) hl4 te_368_1176 te_368_1177 te_368_1179 te_368_1180 te_368_1181 (sc_in hS hi (by decide)) ?_
  refine Vx.go hC te_368_1182 ?_
  obtain ⟨gs8, gs8g⟩ := hL2.obj (A := 143) rfl
  have hcall9 := ref_call (S := S) (n := 24) (μ := 307) (args := [.inr 143, .inl ((S.2 (i + Int32.ofInt 1).toNatClampNeg) : Int32).toInt, .inl ((S.2 (i + Int32.ofInt 2).toNatClampNeg) : Int32).toInt]) (h := h1) (fun v hv => by simp only [List.mem_cons, List.not_mem_nil, or_false] at hv; rcases hv with rfl | rfl | rfl <;> first | trivial | exact wiI _) hL2 (fun mem hr => f_307 hr (fun r m' a b => ⟨a, b⟩))
  simp only [List.map_cons, List.map_nil, wv, Int32.ofInt_toInt] at hcall9
  refine p_call_mk (av := [.ref 143, .int (S.2 (i + Int32.ofInt 1).toNatClampNeg), .int (S.2 (i + Int32.ofInt 2).toNatClampNeg)]) (rest := []) mt_307 rfl (by decide) (show (c + 5) + 0 ≤ 601024 by omega) (show (s + 30) + 0 ≤ 7293033 by omega) (fun _ => ⟨143, gs8, rfl, gs8g⟩) ?_
  refine hC _ _ _ _ _ ?_ hcall9
  rintro _ h5 ⟨hL6, r7, rfl⟩
  show Vx (Ex S 24) S M_368 [] Q1 1185 (px_s1 lv 5 (.int r3)) [.int r7] h5 (c + 5) (s + 30)
  refine Vx.go hC te_368_1185 ?_
  refine ⟨by decide, ?_⟩
  have hl10 := LwS.st (j := 6) (v := .int r7) (by omega) hl4
  show Vx (Ex S 24) S M_368 [] Q1 1187 (px_s1 (px_s1 lv 5 (.int r3)) 6 (.int r7)) [] h5 (c + 5) (s + 30)
  refine Vx.go hC te_368_1187 ?_
  refine ⟨by decide, ?_⟩
  exact Nx _ _ _ _ hl10 hL6 (by omega) (by omega)
theorem lc_23 {S : Nat × (Nat → Int32)} {lv : LV} {h : PH} {c s : Nat} {i : Int32} (hS : S.1 ≤ 3072) (hl : LwS lv i) (hi : 0 ≤ i.toInt ∧ i.toInt + 5 < S.1) (hL : LR h) (hc : c + 8 ≤ 601024) (hs : s + 48 ≤ 7293033) (Nx : ∀ lv' h' c' s', LwS lv' i → LR h' → c' ≤ c + 8 → s' ≤ s + 48 → Vx (Ex S 24) S M_368 [] Q1 2351 lv' [] h' c' s') : Vx (Ex S 24) S M_368 [] Q1 1190 lv [] h c s := by
  have hC := Ex.mono S 24
  refine Vx.go hC te_368_1190 ?_
  refine ⟨_, hl.2.1, ⟨0, Or.inl rfl⟩, ?_⟩
  refine sc_load hC (k := 1) hl te_368_1191 te_368_1192 te_368_1194 te_368_1195 te_368_1196 (sc_in hS hi (by decide)) ?_
  refine sc_load hC (k := 2) hl te_368_1197 te_368_1198 te_368_1200 te_368_1201 te_368_1202 (sc_in hS hi (by decide)) ?_
  refine sc_load hC (k := 3) hl te_368_1203 te_368_1204 te_368_1206 te_368_1207 te_368_1208 (sc_in hS hi (by decide)) ?_
  refine sc_load hC (k := 4) hl te_368_1209 te_368_1210 te_368_1212 te_368_1213 te_368_1214 (sc_in hS hi (by decide)) ?_
  refine Vx.go hC te_368_1215 ?_
  refine ⟨_, hl.2.2.2.1, ⟨173, Or.inl rfl⟩, ?_⟩
  refine Vx.go hC te_368_1216 ?_
  refine Or.inr ⟨by decide, ?_⟩
  refine p_call_mk (av := [.ref 0, .int (S.2 (i + Int32.ofInt 1).toNatClampNeg), .int (S.2 (i + Int32.ofInt 2).toNatClampNeg), .int (S.2 (i + Int32.ofInt 3).toNatClampNeg), .int (S.2 (i + Int32.ofInt 4).toNatClampNeg), .ref 173]) (rest := []) mt_149 rfl (by decide) (show c + 7 ≤ 601024 by omega) (show s + 42 ≤ 7293033 by omega) (fun q => by cases q) ?_
  refine g_149 (n := 6) hL (fun r3 h1 hL2 => ?_)
  show Vx (Ex S 24) S M_368 [] Q1 1219 lv [.int r3] h1 (c + 7) (s + 42)
  refine Vx.go hC te_368_1219 ?_
  refine ⟨by decide, ?_⟩
  have hl4 := LwS.st (j := 5) (v := .int r3) (by omega) hl
  show Vx (Ex S 24) S M_368 [] Q1 1221 (px_s1 lv 5 (.int r3)) [] h1 (c + 7) (s + 42)
  refine Vx.go hC te_368_1221 ?_
  refine ⟨_, hl4.2.2.1, ⟨143, Or.inl rfl⟩, ?_⟩
  refine sc_load hC (k := 1) hl4 te_368_1222 te_368_1223 te_368_1225 te_368_1226 te_368_1227 (sc_in hS hi (by decide)) ?_
  refine sc_load hC (k := 2) hl4 te_368_1228 te_368_1229 te_368_1231 te_368_1232 te_368_1233 (sc_in hS hi (by decide)) ?_
  refine sc_load hC (k := 3) hl4 te_368_1234 te_368_1235 te_368_1237 te_368_1238 te_368_1239 (sc_in hS hi (by decide)) ?_
  refine sc_load hC (k := 4) hl4 te_368_1240 te_368_1241 te_368_1243 te_368_1244 te_368_1245 (sc_in hS hi (by decide)) ?_
  refine Vx.go hC te_368_1246 ?_
  obtain ⟨gs8, gs8g⟩ := hL2.obj (A := 143) rfl
  have hcall9 := ref_call (S := S) (n := 24) (μ := 308) (args := [.inr 143, .inl ((S.2 (i + Int32.ofInt 1).toNatClampNeg) : Int32).toInt, .inl ((S.2 (i + Int32.ofInt 2).toNatClampNeg) : Int32).toInt, .inl ((S.2 (i + Int32.ofInt 3).toNatClampNeg) : Int32).toInt, .inl ((S.2 (i + Int32.ofInt 4).toNatClampNeg) : Int32).toInt]) (h := h1) (fun v hv => by simp only [List.mem_cons, List.not_mem_nil, or_false] at hv; rcases hv with rfl | rfl | rfl | rfl | rfl <;> first | trivial | exact wiI _) hL2 (fun mem hr => f_308 (wiI _) hr (fun r m' a b => ⟨a, b⟩))
  simp only [List.map_cons, List.map_nil, wv, Int32.ofInt_toInt] at hcall9
  refine p_call_mk (av := [.ref 143, .int (S.2 (i + Int32.ofInt 1).toNatClampNeg), .int (S.2 (i + Int32.ofInt 2).toNatClampNeg), .int (S.2 (i + Int32.ofInt 3).toNatClampNeg), .int (S.2 (i + Int32.ofInt 4).toNatClampNeg)]) (rest := []) mt_308 rfl (by decide) (show (c + 7) + 0 ≤ 601024 by omega) (show (s + 42) + 0 ≤ 7293033 by omega) (fun _ => ⟨143, gs8, rfl, gs8g⟩) ?_
  refine hC _ _ _ _ _ ?_ hcall9
  rintro _ h5 ⟨hL6, r7, rfl⟩
  show Vx (Ex S 24) S M_368 [] Q1 1249 (px_s1 lv 5 (.int r3)) [.int r7] h5 (c + 7) (s + 42)
  refine Vx.go hC te_368_1249 ?_
  refine ⟨by decide, ?_⟩
  have hl10 := LwS.st (j := 6) (v := .int r7) (by omega) hl4
  show Vx (Ex S 24) S M_368 [] Q1 1251 (px_s1 (px_s1 lv 5 (.int r3)) 6 (.int r7)) [] h5 (c + 7) (s + 42)
  refine Vx.go hC te_368_1251 ?_
  refine ⟨by decide, ?_⟩
  exact Nx _ _ _ _ hl10 hL6 (by omega) (by omega)
theorem lc_24 {S : Nat × (Nat → Int32)} {lv : LV} {h : PH} {c s : Nat} {i : Int32} (hS : S.1 ≤ 3072) (hl : LwS lv i) (hi : 0 ≤ i.toInt ∧ i.toInt + 5 < S.1) (hL : LR h) (hc : c + 8 ≤ 601024) (hs : s + 48 ≤ 7293033) (Nx : ∀ lv' h' c' s', LwS lv' i → LR h' → c' ≤ c + 8 → s' ≤ s + 48 → Vx (Ex S 24) S M_368 [] Q1 2351 lv' [] h' c' s') : Vx (Ex S 24) S M_368 [] Q1 1254 lv [] h c s := by
  have hC := Ex.mono S 24
  refine Vx.go hC te_368_1254 ?_
  refine ⟨_, hl.2.1, ⟨0, Or.inl rfl⟩, ?_⟩
  refine sc_load hC (k := 1) hl te_368_1255 te_368_1256 te_368_1258 te_368_1259 te_368_1260 (sc_in hS hi (by decide)) ?_
  refine sc_load hC (k := 2) hl te_368_1261 te_368_1262 te_368_1264 te_368_1265 te_368_1266 (sc_in hS hi (by decide)) ?_
  refine sc_load hC (k := 3) hl te_368_1267 te_368_1268 te_368_1270 te_368_1271 te_368_1272 (sc_in hS hi (by decide)) ?_
  refine Vx.go hC te_368_1273 ?_
  refine ⟨_, hl.2.2.2.1, ⟨173, Or.inl rfl⟩, ?_⟩
  refine Vx.go hC te_368_1274 ?_
  refine Or.inr ⟨by decide, ?_⟩
  refine p_call_mk (av := [.ref 0, .int (S.2 (i + Int32.ofInt 1).toNatClampNeg), .int (S.2 (i + Int32.ofInt 2).toNatClampNeg), .int (S.2 (i + Int32.ofInt 3).toNatClampNeg), .ref 173]) (rest := []) mt_153 rfl (by decide) (show c + 6 ≤ 601024 by omega) (show s + 36 ≤ 7293033 by omega) (fun q => by cases q) ?_
  refine g_153 (n := 6) hL (fun r3 h1 hL2 => ?_)
  show Vx (Ex S 24) S M_368 [] Q1 1277 lv [.int r3] h1 (c + 6) (s + 36)
  refine Vx.go hC te_368_1277 ?_
  refine ⟨by decide, ?_⟩
  have hl4 := LwS.st (j := 5) (v := .int r3) (by omega) hl
  show Vx (Ex S 24) S M_368 [] Q1 1279 (px_s1 lv 5 (.int r3)) [] h1 (c + 6) (s + 36)
  refine Vx.go hC te_368_1279 ?_
  refine ⟨_, hl4.2.2.1, ⟨143, Or.inl rfl⟩, ?_⟩
  refine sc_load hC (k := 1) hl4 te_368_1280 te_368_1281 te_368_1283 te_368_1284 te_368_1285 (sc_in hS hi (by decide)) ?_
  refine sc_load hC (k := 2) hl4 te_368_1286 te_368_1287 te_368_1289 te_368_1290 te_368_1291 (sc_in hS hi (by decide)) ?_
  refine sc_load hC (k := 3) hl4 te_368_1292 te_368_1293 te_368_1295 te_368_1296 te_368_1297 (sc_in hS hi (by decide)) ?_
  refine Vx.go hC te_368_1298 ?_
  obtain ⟨gs8, gs8g⟩ := hL2.obj (A := 143) rfl
  have hcall9 := ref_call (S := S) (n := 24) (μ := 310) (args := [.inr 143, .inl ((S.2 (i + Int32.ofInt 1).toNatClampNeg) : Int32).toInt, .inl ((S.2 (i + Int32.ofInt 2).toNatClampNeg) : Int32).toInt, .inl ((S.2 (i + Int32.ofInt 3).toNatClampNeg) : Int32).toInt]) (h := h1) (fun v hv => by simp only [List.mem_cons, List.not_mem_nil, or_false] at hv; rcases hv with rfl | rfl | rfl | rfl <;> first | trivial | exact wiI _) hL2 (fun mem hr => f_310 hr (fun r m' a b => ⟨a, b⟩))
  simp only [List.map_cons, List.map_nil, wv, Int32.ofInt_toInt] at hcall9
  refine p_call_mk (av := [.ref 143, .int (S.2 (i + Int32.ofInt 1).toNatClampNeg), .int (S.2 (i + Int32.ofInt 2).toNatClampNeg), .int (S.2 (i + Int32.ofInt 3).toNatClampNeg)]) (rest := []) mt_310 rfl (by decide) (show (c + 6) + 0 ≤ 601024 by omega) (show (s + 36) + 0 ≤ 7293033 by omega) (fun _ => ⟨143, gs8, rfl, gs8g⟩) ?_
  refine hC _ _ _ _ _ ?_ hcall9
  rintro _ h5 ⟨hL6, r7, rfl⟩
  show Vx (Ex S 24) S M_368 [] Q1 1301 (px_s1 lv 5 (.int r3)) [.int r7] h5 (c + 6) (s + 36)
  refine Vx.go hC te_368_1301 ?_
  refine ⟨by decide, ?_⟩
  have hl10 := LwS.st (j := 6) (v := .int r7) (by omega) hl4
  show Vx (Ex S 24) S M_368 [] Q1 1303 (px_s1 (px_s1 lv 5 (.int r3)) 6 (.int r7)) [] h5 (c + 6) (s + 36)
  refine Vx.go hC te_368_1303 ?_
  refine ⟨by decide, ?_⟩
  exact Nx _ _ _ _ hl10 hL6 (by omega) (by omega)
theorem lc_25 {S : Nat × (Nat → Int32)} {lv : LV} {h : PH} {c s : Nat} {i : Int32} (hS : S.1 ≤ 3072) (hl : LwS lv i) (hi : 0 ≤ i.toInt ∧ i.toInt + 5 < S.1) (hL : LR h) (hc : c + 8 ≤ 601024) (hs : s + 48 ≤ 7293033) (Nx : ∀ lv' h' c' s', LwS lv' i → LR h' → c' ≤ c + 8 → s' ≤ s + 48 → Vx (Ex S 24) S M_368 [] Q1 2351 lv' [] h' c' s') : Vx (Ex S 24) S M_368 [] Q1 1306 lv [] h c s := by
  have hC := Ex.mono S 24
  refine Vx.go hC te_368_1306 ?_
  refine ⟨_, hl.2.1, ⟨0, Or.inl rfl⟩, ?_⟩
  refine sc_load hC (k := 1) hl te_368_1307 te_368_1308 te_368_1310 te_368_1311 te_368_1312 (sc_in hS hi (by decide)) ?_
  refine sc_load hC (k := 2) hl te_368_1313 te_368_1314 te_368_1316 te_368_1317 te_368_1318 (sc_in hS hi (by decide)) ?_
  refine sc_load hC (k := 3) hl te_368_1319 te_368_1320 te_368_1322 te_368_1323 te_368_1324 (sc_in hS hi (by decide)) ?_
  refine sc_load hC (k := 4) hl te_368_1325 te_368_1326 te_368_1328 te_368_1329 te_368_1330 (sc_in hS hi (by decide)) ?_
  refine Vx.go hC te_368_1331 ?_
  refine ⟨_, hl.2.2.2.1, ⟨173, Or.inl rfl⟩, ?_⟩
  refine Vx.go hC te_368_1332 ?_
  refine Or.inr ⟨by decide, ?_⟩
  refine p_call_mk (av := [.ref 0, .int (S.2 (i + Int32.ofInt 1).toNatClampNeg), .int (S.2 (i + Int32.ofInt 2).toNatClampNeg), .int (S.2 (i + Int32.ofInt 3).toNatClampNeg), .int (S.2 (i + Int32.ofInt 4).toNatClampNeg), .ref 173]) (rest := []) mt_158 rfl (by decide) (show c + 6 ≤ 601024 by omega) (show s + 36 ≤ 7293033 by omega) (fun q => by cases q) ?_
  refine g_158 (n := 6) hL (fun r3 h1 hL2 => ?_)
  show Vx (Ex S 24) S M_368 [] Q1 1335 lv [.int r3] h1 (c + 6) (s + 36)
  refine Vx.go hC te_368_1335 ?_
  refine ⟨by decide, ?_⟩
  have hl4 := LwS.st (j := 5) (v := .int r3) (by omega) hl
  show Vx (Ex S 24) S M_368 [] Q1 1337 (px_s1 lv 5 (.int r3)) [] h1 (c + 6) (s + 36)
  refine Vx.go hC te_368_1337 ?_
  refine ⟨_, hl4.2.2.1, ⟨143, Or.inl rfl⟩, ?_⟩
  refine sc_load hC (k := 1) hl4 te_368_1338 te_368_1339 te_368_1341 te_368_1342 te_368_1343 (sc_in hS hi (by decide)) ?_
  refine sc_load hC (k := 2) hl4 te_368_1344 te_368_1345 te_368_1347 te_368_1348 te_368_1349 (sc_in hS hi (by decide)) ?_
  refine sc_load hC (k := 3) hl4 te_368_1350 te_368_1351 te_368_1353 te_368_1354 te_368_1355 (sc_in hS hi (by decide)) ?_
  refine sc_load hC (k := 4) hl4 te_368_1356 te_368_1357 te_368_1359 te_368_1360 te_368_1361 (sc_in hS hi (by decide)) ?_
  refine Vx.go hC te_368_1362 ?_
  obtain ⟨gs8, gs8g⟩ := hL2.obj (A := 143) rfl
  have hcall9 := ref_call (S := S) (n := 24) (μ := 315) (args := [.inr 143, .inl ((S.2 (i + Int32.ofInt 1).toNatClampNeg) : Int32).toInt, .inl ((S.2 (i + Int32.ofInt 2).toNatClampNeg) : Int32).toInt, .inl ((S.2 (i + Int32.ofInt 3).toNatClampNeg) : Int32).toInt, .inl ((S.2 (i + Int32.ofInt 4).toNatClampNeg) : Int32).toInt]) (h := h1) (fun v hv => by simp only [List.mem_cons, List.not_mem_nil, or_false] at hv; rcases hv with rfl | rfl | rfl | rfl | rfl <;> first | trivial | exact wiI _) hL2 (fun mem hr => f_315 hr (fun r m' a b => ⟨a, b⟩))
  simp only [List.map_cons, List.map_nil, wv, Int32.ofInt_toInt] at hcall9
  refine p_call_mk (av := [.ref 143, .int (S.2 (i + Int32.ofInt 1).toNatClampNeg), .int (S.2 (i + Int32.ofInt 2).toNatClampNeg), .int (S.2 (i + Int32.ofInt 3).toNatClampNeg), .int (S.2 (i + Int32.ofInt 4).toNatClampNeg)]) (rest := []) mt_315 rfl (by decide) (show (c + 6) + 0 ≤ 601024 by omega) (show (s + 36) + 0 ≤ 7293033 by omega) (fun _ => ⟨143, gs8, rfl, gs8g⟩) ?_
  refine hC _ _ _ _ _ ?_ hcall9
  rintro _ h5 ⟨hL6, r7, rfl⟩
  show Vx (Ex S 24) S M_368 [] Q1 1365 (px_s1 lv 5 (.int r3)) [.int r7] h5 (c + 6) (s + 36)
  refine Vx.go hC te_368_1365 ?_
  refine ⟨by decide, ?_⟩
  have hl10 := LwS.st (j := 6) (v := .int r7) (by omega) hl4
  show Vx (Ex S 24) S M_368 [] Q1 1367 (px_s1 (px_s1 lv 5 (.int r3)) 6 (.int r7)) [] h5 (c + 6) (s + 36)
  refine Vx.go hC te_368_1367 ?_
  refine ⟨by decide, ?_⟩
  exact Nx _ _ _ _ hl10 hL6 (by omega) (by omega)
theorem lc_26 {S : Nat × (Nat → Int32)} {lv : LV} {h : PH} {c s : Nat} {i : Int32} (hS : S.1 ≤ 3072) (hl : LwS lv i) (hi : 0 ≤ i.toInt ∧ i.toInt + 5 < S.1) (hL : LR h) (hc : c + 8 ≤ 601024) (hs : s + 48 ≤ 7293033) (Nx : ∀ lv' h' c' s', LwS lv' i → LR h' → c' ≤ c + 8 → s' ≤ s + 48 → Vx (Ex S 24) S M_368 [] Q1 2351 lv' [] h' c' s') : Vx (Ex S 24) S M_368 [] Q1 1370 lv [] h c s := by
  have hC := Ex.mono S 24
  refine Vx.go hC te_368_1370 ?_
  refine ⟨_, hl.2.1, ⟨0, Or.inl rfl⟩, ?_⟩
  refine sc_load hC (k := 1) hl te_368_1371 te_368_1372 te_368_1374 te_368_1375 te_368_1376 (sc_in hS hi (by decide)) ?_
  refine sc_load hC (k := 2) hl te_368_1377 te_368_1378 te_368_1380 te_368_1381 te_368_1382 (sc_in hS hi (by decide)) ?_
  refine sc_load hC (k := 3) hl te_368_1383 te_368_1384 te_368_1386 te_368_1387 te_368_1388 (sc_in hS hi (by decide)) ?_
  refine Vx.go hC te_368_1389 ?_
  refine ⟨_, hl.2.2.2.1, ⟨173, Or.inl rfl⟩, ?_⟩
  refine Vx.go hC te_368_1390 ?_
  refine Or.inr ⟨by decide, ?_⟩
  refine p_call_mk (av := [.ref 0, .int (S.2 (i + Int32.ofInt 1).toNatClampNeg), .int (S.2 (i + Int32.ofInt 2).toNatClampNeg), .int (S.2 (i + Int32.ofInt 3).toNatClampNeg), .ref 173]) (rest := []) mt_165 rfl (by decide) (show c + 7 ≤ 601024 by omega) (show s + 42 ≤ 7293033 by omega) (fun q => by cases q) ?_
  refine g_165 (n := 6) hL (fun r3 h1 hL2 => ?_)
  show Vx (Ex S 24) S M_368 [] Q1 1393 lv [.int r3] h1 (c + 7) (s + 42)
  refine Vx.go hC te_368_1393 ?_
  refine ⟨by decide, ?_⟩
  have hl4 := LwS.st (j := 5) (v := .int r3) (by omega) hl
  show Vx (Ex S 24) S M_368 [] Q1 1395 (px_s1 lv 5 (.int r3)) [] h1 (c + 7) (s + 42)
  refine Vx.go hC te_368_1395 ?_
  refine ⟨_, hl4.2.2.1, ⟨143, Or.inl rfl⟩, ?_⟩
  refine sc_load hC (k := 1) hl4 te_368_1396 te_368_1397 te_368_1399 te_368_1400 te_368_1401 (sc_in hS hi (by decide)) ?_
  refine sc_load hC (k := 2) hl4 te_368_1402 te_368_1403 te_368_1405 te_368_1406 te_368_1407 (sc_in hS hi (by decide)) ?_
  refine sc_load hC (k := 3) hl4 te_368_1408 te_368_1409 te_368_1411 te_368_1412 te_368_1413 (sc_in hS hi (by decide)) ?_
  refine Vx.go hC te_368_1414 ?_
  obtain ⟨gs8, gs8g⟩ := hL2.obj (A := 143) rfl
  have hcall9 := ref_call (S := S) (n := 24) (μ := 325) (args := [.inr 143, .inl ((S.2 (i + Int32.ofInt 1).toNatClampNeg) : Int32).toInt, .inl ((S.2 (i + Int32.ofInt 2).toNatClampNeg) : Int32).toInt, .inl ((S.2 (i + Int32.ofInt 3).toNatClampNeg) : Int32).toInt]) (h := h1) (fun v hv => by simp only [List.mem_cons, List.not_mem_nil, or_false] at hv; rcases hv with rfl | rfl | rfl | rfl <;> first | trivial | exact wiI _) hL2 (fun mem hr => f_325 hr (fun r m' a b => ⟨a, b⟩))
  simp only [List.map_cons, List.map_nil, wv, Int32.ofInt_toInt] at hcall9
  refine p_call_mk (av := [.ref 143, .int (S.2 (i + Int32.ofInt 1).toNatClampNeg), .int (S.2 (i + Int32.ofInt 2).toNatClampNeg), .int (S.2 (i + Int32.ofInt 3).toNatClampNeg)]) (rest := []) mt_325 rfl (by decide) (show (c + 7) + 0 ≤ 601024 by omega) (show (s + 42) + 0 ≤ 7293033 by omega) (fun _ => ⟨143, gs8, rfl, gs8g⟩) ?_
  refine hC _ _ _ _ _ ?_ hcall9
  rintro _ h5 ⟨hL6, r7, rfl⟩
  show Vx (Ex S 24) S M_368 [] Q1 1417 (px_s1 lv 5 (.int r3)) [.int r7] h5 (c + 7) (s + 42)
  refine Vx.go hC te_368_1417 ?_
  refine ⟨by decide, ?_⟩
  have hl10 := LwS.st (j := 6) (v := .int r7) (by omega) hl4
  show Vx (Ex S 24) S M_368 [] Q1 1419 (px_s1 (px_s1 lv 5 (.int r3)) 6 (.int r7)) [] h5 (c + 7) (s + 42)
  refine Vx.go hC te_368_1419 ?_
  refine ⟨by decide, ?_⟩
  exact Nx _ _ _ _ hl10 hL6 (by omega) (by omega)
theorem lc_27 {S : Nat × (Nat → Int32)} {lv : LV} {h : PH} {c s : Nat} {i : Int32} (hS : S.1 ≤ 3072) (hl : LwS lv i) (hi : 0 ≤ i.toInt ∧ i.toInt + 5 < S.1) (hL : LR h) (hc : c + 8 ≤ 601024) (hs : s + 48 ≤ 7293033) (Nx : ∀ lv' h' c' s', LwS lv' i → LR h' → c' ≤ c + 8 → s' ≤ s + 48 → Vx (Ex S 24) S M_368 [] Q1 2351 lv' [] h' c' s') : Vx (Ex S 24) S M_368 [] Q1 1422 lv [] h c s := by
  have hC := Ex.mono S 24
  refine Vx.go hC te_368_1422 ?_
  refine ⟨_, hl.2.1, ⟨0, Or.inl rfl⟩, ?_⟩
  refine sc_load hC (k := 1) hl te_368_1423 te_368_1424 te_368_1426 te_368_1427 te_368_1428 (sc_in hS hi (by decide)) ?_
  refine sc_load hC (k := 2) hl te_368_1429 te_368_1430 te_368_1432 te_368_1433 te_368_1434 (sc_in hS hi (by decide)) ?_
  refine sc_load hC (k := 3) hl te_368_1435 te_368_1436 te_368_1438 te_368_1439 te_368_1440 (sc_in hS hi (by decide)) ?_
  refine Vx.go hC te_368_1441 ?_
  refine ⟨_, hl.2.2.2.1, ⟨173, Or.inl rfl⟩, ?_⟩
  refine Vx.go hC te_368_1442 ?_
  refine Or.inr ⟨by decide, ?_⟩
  refine p_call_mk (av := [.ref 0, .int (S.2 (i + Int32.ofInt 1).toNatClampNeg), .int (S.2 (i + Int32.ofInt 2).toNatClampNeg), .int (S.2 (i + Int32.ofInt 3).toNatClampNeg), .ref 173]) (rest := []) mt_168 rfl (by decide) (show c + 3 ≤ 601024 by omega) (show s + 18 ≤ 7293033 by omega) (fun q => by cases q) ?_
  refine g_168 (n := 6) hL (fun r3 h1 hL2 => ?_)
  show Vx (Ex S 24) S M_368 [] Q1 1445 lv [.int r3] h1 (c + 3) (s + 18)
  refine Vx.go hC te_368_1445 ?_
  refine ⟨by decide, ?_⟩
  have hl4 := LwS.st (j := 5) (v := .int r3) (by omega) hl
  show Vx (Ex S 24) S M_368 [] Q1 1447 (px_s1 lv 5 (.int r3)) [] h1 (c + 3) (s + 18)
  refine Vx.go hC te_368_1447 ?_
  refine ⟨_, hl4.2.2.1, ⟨143, Or.inl rfl⟩, ?_⟩
  refine sc_load hC (k := 1) hl4 te_368_1448 te_368_1449 te_368_1451 te_368_1452 te_368_1453 (sc_in hS hi (by decide)) ?_
  refine sc_load hC (k := 2) hl4 te_368_1454 te_368_1455 te_368_1457 te_368_1458 te_368_1459 (sc_in hS hi (by decide)) ?_
  refine sc_load hC (k := 3) hl4 te_368_1460 te_368_1461 te_368_1463 te_368_1464 te_368_1465 (sc_in hS hi (by decide)) ?_
  refine Vx.go hC te_368_1466 ?_
  obtain ⟨gs8, gs8g⟩ := hL2.obj (A := 143) rfl
  have hcall9 := ref_call (S := S) (n := 24) (μ := 327) (args := [.inr 143, .inl ((S.2 (i + Int32.ofInt 1).toNatClampNeg) : Int32).toInt, .inl ((S.2 (i + Int32.ofInt 2).toNatClampNeg) : Int32).toInt, .inl ((S.2 (i + Int32.ofInt 3).toNatClampNeg) : Int32).toInt]) (h := h1) (fun v hv => by simp only [List.mem_cons, List.not_mem_nil, or_false] at hv; rcases hv with rfl | rfl | rfl | rfl <;> first | trivial | exact wiI _) hL2 (fun mem hr => f_327 hr (fun r m' a b => ⟨a, b⟩))
  simp only [List.map_cons, List.map_nil, wv, Int32.ofInt_toInt] at hcall9
  refine p_call_mk (av := [.ref 143, .int (S.2 (i + Int32.ofInt 1).toNatClampNeg), .int (S.2 (i + Int32.ofInt 2).toNatClampNeg), .int (S.2 (i + Int32.ofInt 3).toNatClampNeg)]) (rest := []) mt_327 rfl (by decide) (show (c + 3) + 0 ≤ 601024 by omega) (show (s + 18) + 0 ≤ 7293033 by omega) (fun _ => ⟨143, gs8, rfl, gs8g⟩) ?_
  refine hC _ _ _ _ _ ?_ hcall9
  rintro _ h5 ⟨hL6, r7, rfl⟩
  show Vx (Ex S 24) S M_368 [] Q1 1469 (px_s1 lv 5 (.int r3)) [.int r7] h5 (c + 3) (s + 18)
  refine Vx.go hC te_368_1469 ?_
  refine ⟨by decide, ?_⟩
  have hl10 := LwS.st (j := 6) (v := .int r7) (by omega) hl4
  show Vx (Ex S 24) S M_368 [] Q1 1471 (px_s1 (px_s1 lv 5 (.int r3)) 6 (.int r7)) [] h5 (c + 3) (s + 18)
  refine Vx.go hC te_368_1471 ?_
  refine ⟨by decide, ?_⟩
  exact Nx _ _ _ _ hl10 hL6 (by omega) (by omega)
theorem lc_28 {S : Nat × (Nat → Int32)} {lv : LV} {h : PH} {c s : Nat} {i : Int32} (hS : S.1 ≤ 3072) (hl : LwS lv i) (hi : 0 ≤ i.toInt ∧ i.toInt + 5 < S.1) (hL : LR h) (hc : c + 8 ≤ 601024) (hs : s + 48 ≤ 7293033) (Nx : ∀ lv' h' c' s', LwS lv' i → LR h' → c' ≤ c + 8 → s' ≤ s + 48 → Vx (Ex S 24) S M_368 [] Q1 2351 lv' [] h' c' s') : Vx (Ex S 24) S M_368 [] Q1 1474 lv [] h c s := by
  have hC := Ex.mono S 24
  refine Vx.go hC te_368_1474 ?_
  refine ⟨_, hl.2.1, ⟨0, Or.inl rfl⟩, ?_⟩
  refine sc_load hC (k := 1) hl te_368_1475 te_368_1476 te_368_1478 te_368_1479 te_368_1480 (sc_in hS hi (by decide)) ?_
  refine sc_load hC (k := 2) hl te_368_1481 te_368_1482 te_368_1484 te_368_1485 te_368_1486 (sc_in hS hi (by decide)) ?_
  refine sc_load hC (k := 3) hl te_368_1487 te_368_1488 te_368_1490 te_368_1491 te_368_1492 (sc_in hS hi (by decide)) ?_
  refine sc_load hC (k := 4) hl te_368_1493 te_368_1494 te_368_1496 te_368_1497 te_368_1498 (sc_in hS hi (by decide)) ?_
  refine Vx.go hC te_368_1499 ?_
  refine ⟨_, hl.2.2.2.1, ⟨173, Or.inl rfl⟩, ?_⟩
  refine Vx.go hC te_368_1500 ?_
  refine Or.inr ⟨by decide, ?_⟩
  refine p_call_mk (av := [.ref 0, .int (S.2 (i + Int32.ofInt 1).toNatClampNeg), .int (S.2 (i + Int32.ofInt 2).toNatClampNeg), .int (S.2 (i + Int32.ofInt 3).toNatClampNeg), .int (S.2 (i + Int32.ofInt 4).toNatClampNeg), .ref 173]) (rest := []) mt_170 rfl (by decide) (show c + 7 ≤ 601024 by omega) (show s + 42 ≤ 7293033 by omega) (fun q => by cases q) ?_
  refine g_170 (n := 6) hL (fun r3 h1 hL2 => ?_)
  show Vx (Ex S 24) S M_368 [] Q1 1503 lv [.int r3] h1 (c + 7) (s + 42)
  refine Vx.go hC te_368_1503 ?_
  refine ⟨by decide, ?_⟩
  have hl4 := LwS.st (j := 5) (v := .int r3) (by omega) hl
  show Vx (Ex S 24) S M_368 [] Q1 1505 (px_s1 lv 5 (.int r3)) [] h1 (c + 7) (s + 42)
  refine Vx.go hC te_368_1505 ?_
  refine ⟨_, hl4.2.2.1, ⟨143, Or.inl rfl⟩, ?_⟩
  refine sc_load hC (k := 1) hl4 te_368_1506 te_368_1507 te_368_1509 te_368_1510 te_368_1511 (sc_in hS hi (by decide)) ?_
  refine sc_load hC (k := 2) hl4 te_368_1512 te_368_1513 te_368_1515 te_368_1516 te_368_1517 (sc_in hS hi (by decide)) ?_
  refine sc_load hC (k := 3) hl4 te_368_1518 te_368_1519 te_368_1521 te_368_1522 te_368_1523 (sc_in hS hi (by decide)) ?_
  refine sc_load hC (k := 4) hl4 te_368_1524 te_368_1525 te_368_1527 te_368_1528 te_368_1529 (sc_in hS hi (by decide)) ?_
  refine Vx.go hC te_368_1530 ?_
  obtain ⟨gs8, gs8g⟩ := hL2.obj (A := 143) rfl
  have hcall9 := ref_call (S := S) (n := 24) (μ := 331) (args := [.inr 143, .inl ((S.2 (i + Int32.ofInt 1).toNatClampNeg) : Int32).toInt, .inl ((S.2 (i + Int32.ofInt 2).toNatClampNeg) : Int32).toInt, .inl ((S.2 (i + Int32.ofInt 3).toNatClampNeg) : Int32).toInt, .inl ((S.2 (i + Int32.ofInt 4).toNatClampNeg) : Int32).toInt]) (h := h1) (fun v hv => by simp only [List.mem_cons, List.not_mem_nil, or_false] at hv; rcases hv with rfl | rfl | rfl | rfl | rfl <;> first | trivial | exact wiI _) hL2 (fun mem hr => f_331 (wiI _) hr (fun r m' a b => ⟨a, b⟩))
  simp only [List.map_cons, List.map_nil, wv, Int32.ofInt_toInt] at hcall9
  refine p_call_mk (av := [.ref 143, .int (S.2 (i + Int32.ofInt 1).toNatClampNeg), .int (S.2 (i + Int32.ofInt 2).toNatClampNeg), .int (S.2 (i + Int32.ofInt 3).toNatClampNeg), .int (S.2 (i + Int32.ofInt 4).toNatClampNeg)]) (rest := []) mt_331 rfl (by decide) (show (c + 7) + 0 ≤ 601024 by omega) (show (s + 42) + 0 ≤ 7293033 by omega) (fun _ => ⟨143, gs8, rfl, gs8g⟩) ?_
  refine hC _ _ _ _ _ ?_ hcall9
  rintro _ h5 ⟨hL6, r7, rfl⟩
  show Vx (Ex S 24) S M_368 [] Q1 1533 (px_s1 lv 5 (.int r3)) [.int r7] h5 (c + 7) (s + 42)
  refine Vx.go hC te_368_1533 ?_
  refine ⟨by decide, ?_⟩
  have hl10 := LwS.st (j := 6) (v := .int r7) (by omega) hl4
  show Vx (Ex S 24) S M_368 [] Q1 1535 (px_s1 (px_s1 lv 5 (.int r3)) 6 (.int r7)) [] h5 (c + 7) (s + 42)
  refine Vx.go hC te_368_1535 ?_
  refine ⟨by decide, ?_⟩
  exact Nx _ _ _ _ hl10 hL6 (by omega) (by omega)
theorem lc_29 {S : Nat × (Nat → Int32)} {lv : LV} {h : PH} {c s : Nat} {i : Int32} (hS : S.1 ≤ 3072) (hl : LwS lv i) (hi : 0 ≤ i.toInt ∧ i.toInt + 5 < S.1) (hL : LR h) (hc : c + 8 ≤ 601024) (hs : s + 48 ≤ 7293033) (Nx : ∀ lv' h' c' s', LwS lv' i → LR h' → c' ≤ c + 8 → s' ≤ s + 48 → Vx (Ex S 24) S M_368 [] Q1 2351 lv' [] h' c' s') : Vx (Ex S 24) S M_368 [] Q1 1538 lv [] h c s := by
  have hC := Ex.mono S 24
  refine Vx.go hC te_368_1538 ?_
  refine ⟨_, hl.2.1, ⟨0, Or.inl rfl⟩, ?_⟩
  refine sc_load hC (k := 1) hl te_368_1539 te_368_1540 te_368_1542 te_368_1543 te_368_1544 (sc_in hS hi (by decide)) ?_
  refine sc_load hC (k := 2) hl te_368_1545 te_368_1546 te_368_1548 te_368_1549 te_368_1550 (sc_in hS hi (by decide)) ?_
  refine Vx.go hC te_368_1551 ?_
  refine ⟨by decide, fun q => ?_, fun q => ?_⟩
  · show Vx (Ex S 24) S M_368 [] Q1 1558 lv [.int (S.2 (i + Int32.ofInt 1).toNatClampNeg), .ref 0] h c s
    refine Vx.go hC te_368_1558 ?_
    refine Vx.go hC te_368_1559 ?_
    refine ⟨_, hl.2.2.2.1, ⟨173, Or.inl rfl⟩, ?_⟩
    refine Vx.go hC te_368_1560 ?_
    refine Or.inr ⟨by decide, ?_⟩
    refine p_call_mk (av := [.ref 0, .int (S.2 (i + Int32.ofInt 1).toNatClampNeg), .int (Int32.ofInt 0), .ref 173]) (rest := []) mt_172 rfl (by decide) (show c + 3 ≤ 601024 by omega) (show s + 18 ≤ 7293033 by omega) (fun q => by cases q) ?_
    refine g_172 (n := 6) hL (fun r3 h1 hL2 => ?_)
    show Vx (Ex S 24) S M_368 [] Q1 1563 lv [.int r3] h1 (c + 3) (s + 18)
    refine Vx.go hC te_368_1563 ?_
    refine ⟨by decide, ?_⟩
    have hl4 := LwS.st (j := 5) (v := .int r3) (by omega) hl
    show Vx (Ex S 24) S M_368 [] Q1 1565 (px_s1 lv 5 (.int r3)) [] h1 (c + 3) (s + 18)
    refine Vx.go hC te_368_1565 ?_
    refine ⟨_, hl4.2.2.1, ⟨143, Or.inl rfl⟩, ?_⟩
    refine sc_load hC (k := 1) hl4 te_368_1566 te_368_1567 te_368_1569 te_368_1570 te_368_1571 (sc_in hS hi (by decide)) ?_
    refine sc_load hC (k := 2) hl4 te_368_1572 te_368_1573 te_368_1575 te_368_1576 te_368_1577 (sc_in hS hi (by decide)) ?_
    refine Vx.go hC te_368_1578 ?_
    refine ⟨by decide, fun q => ?_, fun q => ?_⟩
    · show Vx (Ex S 24) S M_368 [] Q1 1585 (px_s1 lv 5 (.int r3)) [.int (S.2 (i + Int32.ofInt 1).toNatClampNeg), .ref 143] h1 (c + 3) (s + 18)
      refine Vx.go hC te_368_1585 ?_
      refine Vx.go hC te_368_1586 ?_
      obtain ⟨gs8, gs8g⟩ := hL2.obj (A := 143) rfl
      have hcall9 := ref_call (S := S) (n := 24) (μ := 332) (args := [.inr 143, .inl ((S.2 (i + Int32.ofInt 1).toNatClampNeg) : Int32).toInt, .inl ((Int32.ofInt 0) : Int32).toInt]) (h := h1) (fun v hv => by simp only [List.mem_cons, List.not_mem_nil, or_false] at hv; rcases hv with rfl | rfl | rfl <;> first | trivial | exact wiI _) hL2 (fun mem hr => f_332 hr (fun r m' a b => ⟨a, b⟩))
      simp only [List.map_cons, List.map_nil, wv, Int32.ofInt_toInt] at hcall9
      refine p_call_mk (av := [.ref 143, .int (S.2 (i + Int32.ofInt 1).toNatClampNeg), .int (Int32.ofInt 0)]) (rest := []) mt_332 rfl (by decide) (show (c + 3) + 0 ≤ 601024 by omega) (show (s + 18) + 0 ≤ 7293033 by omega) (fun _ => ⟨143, gs8, rfl, gs8g⟩) ?_
      refine hC _ _ _ _ _ ?_ hcall9
      rintro _ h5 ⟨hL6, r7, rfl⟩
      show Vx (Ex S 24) S M_368 [] Q1 1589 (px_s1 lv 5 (.int r3)) [.int r7] h5 (c + 3) (s + 18)
      refine Vx.go hC te_368_1589 ?_
      refine ⟨by decide, ?_⟩
      have hl10 := LwS.st (j := 6) (v := .int r7) (by omega) hl4
      show Vx (Ex S 24) S M_368 [] Q1 1591 (px_s1 (px_s1 lv 5 (.int r3)) 6 (.int r7)) [] h5 (c + 3) (s + 18)
      refine Vx.go hC te_368_1591 ?_
      refine ⟨by decide, ?_⟩
      exact Nx _ _ _ _ hl10 hL6 (by omega) (by omega)
    · show Vx (Ex S 24) S M_368 [] Q1 1581 (px_s1 lv 5 (.int r3)) [.int (S.2 (i + Int32.ofInt 1).toNatClampNeg), .ref 143] h1 (c + 3) (s + 18)
      refine Vx.go hC te_368_1581 ?_
      refine Vx.go hC te_368_1582 ?_
      refine ⟨by decide, ?_⟩
      show Vx (Ex S 24) S M_368 [] Q1 1586 (px_s1 lv 5 (.int r3)) [.int (Int32.ofInt 1), .int (S.2 (i + Int32.ofInt 1).toNatClampNeg), .ref 143] h1 (c + 3) (s + 18)
      refine Vx.go hC te_368_1586 ?_
      obtain ⟨gs14, gs14g⟩ := hL2.obj (A := 143) rfl
      have hcall15 := ref_call (S := S) (n := 24) (μ := 332) (args := [.inr 143, .inl ((S.2 (i + Int32.ofInt 1).toNatClampNeg) : Int32).toInt, .inl ((Int32.ofInt 1) : Int32).toInt]) (h := h1) (fun v hv => by simp only [List.mem_cons, List.not_mem_nil, or_false] at hv; rcases hv with rfl | rfl | rfl <;> first | trivial | exact wiI _) hL2 (fun mem hr => f_332 hr (fun r m' a b => ⟨a, b⟩))
      simp only [List.map_cons, List.map_nil, wv, Int32.ofInt_toInt] at hcall15
      refine p_call_mk (av := [.ref 143, .int (S.2 (i + Int32.ofInt 1).toNatClampNeg), .int (Int32.ofInt 1)]) (rest := []) mt_332 rfl (by decide) (show (c + 3) + 0 ≤ 601024 by omega) (show (s + 18) + 0 ≤ 7293033 by omega) (fun _ => ⟨143, gs14, rfl, gs14g⟩) ?_
      refine hC _ _ _ _ _ ?_ hcall15
      rintro _ h11 ⟨hL12, r13, rfl⟩
      show Vx (Ex S 24) S M_368 [] Q1 1589 (px_s1 lv 5 (.int r3)) [.int r13] h11 (c + 3) (s + 18)
      refine Vx.go hC te_368_1589 ?_
      refine ⟨by decide, ?_⟩
      have hl16 := LwS.st (j := 6) (v := .int r13) (by omega) hl4
      show Vx (Ex S 24) S M_368 [] Q1 1591 (px_s1 (px_s1 lv 5 (.int r3)) 6 (.int r13)) [] h11 (c + 3) (s + 18)
      refine Vx.go hC te_368_1591 ?_
      refine ⟨by decide, ?_⟩
      exact Nx _ _ _ _ hl16 hL12 (by omega) (by omega)
  · show Vx (Ex S 24) S M_368 [] Q1 1554 lv [.int (S.2 (i + Int32.ofInt 1).toNatClampNeg), .ref 0] h c s
    refine Vx.go hC te_368_1554 ?_
    refine Vx.go hC te_368_1555 ?_
    refine ⟨by decide, ?_⟩
    show Vx (Ex S 24) S M_368 [] Q1 1559 lv [.int (Int32.ofInt 1), .int (S.2 (i + Int32.ofInt 1).toNatClampNeg), .ref 0] h c s
    refine Vx.go hC te_368_1559 ?_
    refine ⟨_, hl.2.2.2.1, ⟨173, Or.inl rfl⟩, ?_⟩
    refine Vx.go hC te_368_1560 ?_
    refine Or.inr ⟨by decide, ?_⟩
    refine p_call_mk (av := [.ref 0, .int (S.2 (i + Int32.ofInt 1).toNatClampNeg), .int (Int32.ofInt 1), .ref 173]) (rest := []) mt_172 rfl (by decide) (show c + 3 ≤ 601024 by omega) (show s + 18 ≤ 7293033 by omega) (fun q => by cases q) ?_
    refine g_172 (n := 6) hL (fun r19 h17 hL18 => ?_)
    show Vx (Ex S 24) S M_368 [] Q1 1563 lv [.int r19] h17 (c + 3) (s + 18)
    refine Vx.go hC te_368_1563 ?_
    refine ⟨by decide, ?_⟩
    have hl20 := LwS.st (j := 5) (v := .int r19) (by omega) hl
    show Vx (Ex S 24) S M_368 [] Q1 1565 (px_s1 lv 5 (.int r19)) [] h17 (c + 3) (s + 18)
    refine Vx.go hC te_368_1565 ?_
    refine ⟨_, hl20.2.2.1, ⟨143, Or.inl rfl⟩, ?_⟩
    refine sc_load hC (k := 1) hl20 te_368_1566 te_368_1567 te_368_1569 te_368_1570 te_368_1571 (sc_in hS hi (by decide)) ?_
    refine sc_load hC (k := 2) hl20 te_368_1572 te_368_1573 te_368_1575 te_368_1576 te_368_1577 (sc_in hS hi (by decide)) ?_
    refine Vx.go hC te_368_1578 ?_
    refine ⟨by decide, fun q => ?_, fun q => ?_⟩
    · show Vx (Ex S 24) S M_368 [] Q1 1585 (px_s1 lv 5 (.int r19)) [.int (S.2 (i + Int32.ofInt 1).toNatClampNeg), .ref 143] h17 (c + 3) (s + 18)
      refine Vx.go hC te_368_1585 ?_
      refine Vx.go hC te_368_1586 ?_
      obtain ⟨gs24, gs24g⟩ := hL18.obj (A := 143) rfl
      have hcall25 := ref_call (S := S) (n := 24) (μ := 332) (args := [.inr 143, .inl ((S.2 (i + Int32.ofInt 1).toNatClampNeg) : Int32).toInt, .inl ((Int32.ofInt 0) : Int32).toInt]) (h := h17) (fun v hv => by simp only [List.mem_cons, List.not_mem_nil, or_false] at hv; rcases hv with rfl | rfl | rfl <;> first | trivial | exact wiI _) hL18 (fun mem hr => f_332 hr (fun r m' a b => ⟨a, b⟩))
      simp only [List.map_cons, List.map_nil, wv, Int32.ofInt_toInt] at hcall25
      refine p_call_mk (av := [.ref 143, .int (S.2 (i + Int32.ofInt 1).toNatClampNeg), .int (Int32.ofInt 0)]) (rest := []) mt_332 rfl (by decide) (show (c + 3) + 0 ≤ 601024 by omega) (show (s + 18) + 0 ≤ 7293033 by omega) (fun _ => ⟨143, gs24, rfl, gs24g⟩) ?_
      refine hC _ _ _ _ _ ?_ hcall25
      rintro _ h21 ⟨hL22, r23, rfl⟩
      show Vx (Ex S 24) S M_368 [] Q1 1589 (px_s1 lv 5 (.int r19)) [.int r23] h21 (c + 3) (s + 18)
      refine Vx.go hC te_368_1589 ?_
      refine ⟨by decide, ?_⟩
      have hl26 := LwS.st (j := 6) (v := .int r23) (by omega) hl20
      show Vx (Ex S 24) S M_368 [] Q1 1591 (px_s1 (px_s1 lv 5 (.int r19)) 6 (.int r23)) [] h21 (c + 3) (s + 18)
      refine Vx.go hC te_368_1591 ?_
      refine ⟨by decide, ?_⟩
      exact Nx _ _ _ _ hl26 hL22 (by omega) (by omega)
    · show Vx (Ex S 24) S M_368 [] Q1 1581 (px_s1 lv 5 (.int r19)) [.int (S.2 (i + Int32.ofInt 1).toNatClampNeg), .ref 143] h17 (c + 3) (s + 18)
      refine Vx.go hC te_368_1581 ?_
      refine Vx.go hC te_368_1582 ?_
      refine ⟨by decide, ?_⟩
      show Vx (Ex S 24) S M_368 [] Q1 1586 (px_s1 lv 5 (.int r19)) [.int (Int32.ofInt 1), .int (S.2 (i + Int32.ofInt 1).toNatClampNeg), .ref 143] h17 (c + 3) (s + 18)
      refine Vx.go hC te_368_1586 ?_
      obtain ⟨gs30, gs30g⟩ := hL18.obj (A := 143) rfl
      have hcall31 := ref_call (S := S) (n := 24) (μ := 332) (args := [.inr 143, .inl ((S.2 (i + Int32.ofInt 1).toNatClampNeg) : Int32).toInt, .inl ((Int32.ofInt 1) : Int32).toInt]) (h := h17) (fun v hv => by simp only [List.mem_cons, List.not_mem_nil, or_false] at hv; rcases hv with rfl | rfl | rfl <;> first | trivial | exact wiI _) hL18 (fun mem hr => f_332 hr (fun r m' a b => ⟨a, b⟩))
      simp only [List.map_cons, List.map_nil, wv, Int32.ofInt_toInt] at hcall31
      refine p_call_mk (av := [.ref 143, .int (S.2 (i + Int32.ofInt 1).toNatClampNeg), .int (Int32.ofInt 1)]) (rest := []) mt_332 rfl (by decide) (show (c + 3) + 0 ≤ 601024 by omega) (show (s + 18) + 0 ≤ 7293033 by omega) (fun _ => ⟨143, gs30, rfl, gs30g⟩) ?_
      refine hC _ _ _ _ _ ?_ hcall31
      rintro _ h27 ⟨hL28, r29, rfl⟩
      show Vx (Ex S 24) S M_368 [] Q1 1589 (px_s1 lv 5 (.int r19)) [.int r29] h27 (c + 3) (s + 18)
      refine Vx.go hC te_368_1589 ?_
      refine ⟨by decide, ?_⟩
      have hl32 := LwS.st (j := 6) (v := .int r29) (by omega) hl20
      show Vx (Ex S 24) S M_368 [] Q1 1591 (px_s1 (px_s1 lv 5 (.int r19)) 6 (.int r29)) [] h27 (c + 3) (s + 18)
      refine Vx.go hC te_368_1591 ?_
      refine ⟨by decide, ?_⟩
      exact Nx _ _ _ _ hl32 hL28 (by omega) (by omega)
theorem lc_30 {S : Nat × (Nat → Int32)} {lv : LV} {h : PH} {c s : Nat} {i : Int32} (hS : S.1 ≤ 3072) (hl : LwS lv i) (hi : 0 ≤ i.toInt ∧ i.toInt + 5 < S.1) (hL : LR h) (hc : c + 8 ≤ 601024) (hs : s + 48 ≤ 7293033) (Nx : ∀ lv' h' c' s', LwS lv' i → LR h' → c' ≤ c + 8 → s' ≤ s + 48 → Vx (Ex S 24) S M_368 [] Q1 2351 lv' [] h' c' s') : Vx (Ex S 24) S M_368 [] Q1 1594 lv [] h c s := by
  have hC := Ex.mono S 24
  refine Vx.go hC te_368_1594 ?_
  refine ⟨_, hl.2.1, ⟨0, Or.inl rfl⟩, ?_⟩
  refine sc_load hC (k := 1) hl te_368_1595 te_368_1596 te_368_1598 te_368_1599 te_368_1600 (sc_in hS hi (by decide)) ?_
  refine sc_load hC (k := 2) hl te_368_1601 te_368_1602 te_368_1604 te_368_1605 te_368_1606 (sc_in hS hi (by decide)) ?_
  refine sc_load hC (k := 3) hl te_368_1607 te_368_1608 te_368_1610 te_368_1611 te_368_1612 (sc_in hS hi (by decide)) ?_
  refine Vx.go hC te_368_1613 ?_
  refine ⟨by decide, fun q => ?_, fun q => ?_⟩
  · show Vx (Ex S 24) S M_368 [] Q1 1620 lv [.int (S.2 (i + Int32.ofInt 2).toNatClampNeg), .int (S.2 (i + Int32.ofInt 1).toNatClampNeg), .ref 0] h c s
    refine Vx.go hC te_368_1620 ?_
    refine Vx.go hC te_368_1621 ?_
    refine ⟨_, hl.2.2.2.1, ⟨173, Or.inl rfl⟩, ?_⟩
    refine Vx.go hC te_368_1622 ?_
    refine Or.inr ⟨by decide, ?_⟩
    refine p_call_mk (av := [.ref 0, .int (S.2 (i + Int32.ofInt 1).toNatClampNeg), .int (S.2 (i + Int32.ofInt 2).toNatClampNeg), .int (Int32.ofInt 0), .ref 173]) (rest := []) mt_174 rfl (by decide) (show c + 5 ≤ 601024 by omega) (show s + 30 ≤ 7293033 by omega) (fun q => by cases q) ?_
    refine g_174 (n := 6) hL (fun r3 h1 hL2 => ?_)
    show Vx (Ex S 24) S M_368 [] Q1 1625 lv [.int r3] h1 (c + 5) (s + 30)
    refine Vx.go hC te_368_1625 ?_
    refine ⟨by decide, ?_⟩
    have hl4 := LwS.st (j := 5) (v := .int r3) (by omega) hl
    show Vx (Ex S 24) S M_368 [] Q1 1627 (px_s1 lv 5 (.int r3)) [] h1 (c + 5) (s + 30)
    refine Vx.go hC te_368_1627 ?_
    refine ⟨_, hl4.2.2.1, ⟨143, Or.inl rfl⟩, ?_⟩
    refine sc_load hC (k := 1) hl4 te_368_1628 te_368_1629 te_368_1631 te_368_1632 te_368_1633 (sc_in hS hi (by decide)) ?_
    refine sc_load hC (k := 2) hl4 te_368_1634 te_368_1635 te_368_1637 te_368_1638 te_368_1639 (sc_in hS hi (by decide)) ?_
    refine sc_load hC (k := 3) hl4 te_368_1640 te_368_1641 te_368_1643 te_368_1644 te_368_1645 (sc_in hS hi (by decide)) ?_
    refine Vx.go hC te_368_1646 ?_
    refine ⟨by decide, fun q => ?_, fun q => ?_⟩
    · show Vx (Ex S 24) S M_368 [] Q1 1653 (px_s1 lv 5 (.int r3)) [.int (S.2 (i + Int32.ofInt 2).toNatClampNeg), .int (S.2 (i + Int32.ofInt 1).toNatClampNeg), .ref 143] h1 (c + 5) (s + 30)
      refine Vx.go hC te_368_1653 ?_
      refine Vx.go hC te_368_1654 ?_
      obtain ⟨gs8, gs8g⟩ := hL2.obj (A := 143) rfl
      have hcall9 := ref_call (S := S) (n := 24) (μ := 333) (args := [.inr 143, .inl ((S.2 (i + Int32.ofInt 1).toNatClampNeg) : Int32).toInt, .inl ((S.2 (i + Int32.ofInt 2).toNatClampNeg) : Int32).toInt, .inl ((Int32.ofInt 0) : Int32).toInt]) (h := h1) (fun v hv => by simp only [List.mem_cons, List.not_mem_nil, or_false] at hv; rcases hv with rfl | rfl | rfl | rfl <;> first | trivial | exact wiI _) hL2 (fun mem hr => f_333 hr (fun r m' a b => ⟨a, b⟩))
      simp only [List.map_cons, List.map_nil, wv, Int32.ofInt_toInt] at hcall9
      refine p_call_mk (av := [.ref 143, .int (S.2 (i + Int32.ofInt 1).toNatClampNeg), .int (S.2 (i + Int32.ofInt 2).toNatClampNeg), .int (Int32.ofInt 0)]) (rest := []) mt_333 rfl (by decide) (show (c + 5) + 0 ≤ 601024 by omega) (show (s + 30) + 0 ≤ 7293033 by omega) (fun _ => ⟨143, gs8, rfl, gs8g⟩) ?_
      refine hC _ _ _ _ _ ?_ hcall9
      rintro _ h5 ⟨hL6, r7, rfl⟩
      show Vx (Ex S 24) S M_368 [] Q1 1657 (px_s1 lv 5 (.int r3)) [.int r7] h5 (c + 5) (s + 30)
      refine Vx.go hC te_368_1657 ?_
      refine ⟨by decide, ?_⟩
      have hl10 := LwS.st (j := 6) (v := .int r7) (by omega) hl4
      show Vx (Ex S 24) S M_368 [] Q1 1659 (px_s1 (px_s1 lv 5 (.int r3)) 6 (.int r7)) [] h5 (c + 5) (s + 30)
      refine Vx.go hC te_368_1659 ?_
      refine ⟨by decide, ?_⟩
      exact Nx _ _ _ _ hl10 hL6 (by omega) (by omega)
    · show Vx (Ex S 24) S M_368 [] Q1 1649 (px_s1 lv 5 (.int r3)) [.int (S.2 (i + Int32.ofInt 2).toNatClampNeg), .int (S.2 (i + Int32.ofInt 1).toNatClampNeg), .ref 143] h1 (c + 5) (s + 30)
      refine Vx.go hC te_368_1649 ?_
      refine Vx.go hC te_368_1650 ?_
      refine ⟨by decide, ?_⟩
      show Vx (Ex S 24) S M_368 [] Q1 1654 (px_s1 lv 5 (.int r3)) [.int (Int32.ofInt 1), .int (S.2 (i + Int32.ofInt 2).toNatClampNeg), .int (S.2 (i + Int32.ofInt 1).toNatClampNeg), .ref 143] h1 (c + 5) (s + 30)
      refine Vx.go hC te_368_1654 ?_
      obtain ⟨gs14, gs14g⟩ := hL2.obj (A := 143) rfl
      have hcall15 := ref_call (S := S) (n := 24) (μ := 333) (args := [.inr 143, .inl ((S.2 (i + Int32.ofInt 1).toNatClampNeg) : Int32).toInt, .inl ((S.2 (i + Int32.ofInt 2).toNatClampNeg) : Int32).toInt, .inl ((Int32.ofInt 1) : Int32).toInt]) (h := h1) (fun v hv => by simp only [List.mem_cons, List.not_mem_nil, or_false] at hv; rcases hv with rfl | rfl | rfl | rfl <;> first | trivial | exact wiI _) hL2 (fun mem hr => f_333 hr (fun r m' a b => ⟨a, b⟩))
      simp only [List.map_cons, List.map_nil, wv, Int32.ofInt_toInt] at hcall15
      refine p_call_mk (av := [.ref 143, .int (S.2 (i + Int32.ofInt 1).toNatClampNeg), .int (S.2 (i + Int32.ofInt 2).toNatClampNeg), .int (Int32.ofInt 1)]) (rest := []) mt_333 rfl (by decide) (show (c + 5) + 0 ≤ 601024 by omega) (show (s + 30) + 0 ≤ 7293033 by omega) (fun _ => ⟨143, gs14, rfl, gs14g⟩) ?_
      refine hC _ _ _ _ _ ?_ hcall15
      rintro _ h11 ⟨hL12, r13, rfl⟩
      show Vx (Ex S 24) S M_368 [] Q1 1657 (px_s1 lv 5 (.int r3)) [.int r13] h11 (c + 5) (s + 30)
      refine Vx.go hC te_368_1657 ?_
      refine ⟨by decide, ?_⟩
      have hl16 := LwS.st (j := 6) (v := .int r13) (by omega) hl4
      show Vx (Ex S 24) S M_368 [] Q1 1659 (px_s1 (px_s1 lv 5 (.int r3)) 6 (.int r13)) [] h11 (c + 5) (s + 30)
      refine Vx.go hC te_368_1659 ?_
      refine ⟨by decide, ?_⟩
      exact Nx _ _ _ _ hl16 hL12 (by omega) (by omega)
  · show Vx (Ex S 24) S M_368 [] Q1 1616 lv [.int (S.2 (i + Int32.ofInt 2).toNatClampNeg), .int (S.2 (i + Int32.ofInt 1).toNatClampNeg), .ref 0] h c s
    refine Vx.go hC te_368_1616 ?_
    refine Vx.go hC te_368_1617 ?_
    refine ⟨by decide, ?_⟩
    show Vx (Ex S 24) S M_368 [] Q1 1621 lv [.int (Int32.ofInt 1), .int (S.2 (i + Int32.ofInt 2).toNatClampNeg), .int (S.2 (i + Int32.ofInt 1).toNatClampNeg), .ref 0] h c s
    refine Vx.go hC te_368_1621 ?_
    refine ⟨_, hl.2.2.2.1, ⟨173, Or.inl rfl⟩, ?_⟩
    refine Vx.go hC te_368_1622 ?_
    refine Or.inr ⟨by decide, ?_⟩
    refine p_call_mk (av := [.ref 0, .int (S.2 (i + Int32.ofInt 1).toNatClampNeg), .int (S.2 (i + Int32.ofInt 2).toNatClampNeg), .int (Int32.ofInt 1), .ref 173]) (rest := []) mt_174 rfl (by decide) (show c + 5 ≤ 601024 by omega) (show s + 30 ≤ 7293033 by omega) (fun q => by cases q) ?_
    refine g_174 (n := 6) hL (fun r19 h17 hL18 => ?_)
    show Vx (Ex S 24) S M_368 [] Q1 1625 lv [.int r19] h17 (c + 5) (s + 30)
    refine Vx.go hC te_368_1625 ?_
    refine ⟨by decide, ?_⟩
    have hl20 := LwS.st (j := 5) (v := .int r19) (by omega) hl
    show Vx (Ex S 24) S M_368 [] Q1 1627 (px_s1 lv 5 (.int r19)) [] h17 (c + 5) (s + 30)
    refine Vx.go hC te_368_1627 ?_
    refine ⟨_, hl20.2.2.1, ⟨143, Or.inl rfl⟩, ?_⟩
    refine sc_load hC (k := 1) hl20 te_368_1628 te_368_1629 te_368_1631 te_368_1632 te_368_1633 (sc_in hS hi (by decide)) ?_
    refine sc_load hC (k := 2) hl20 te_368_1634 te_368_1635 te_368_1637 te_368_1638 te_368_1639 (sc_in hS hi (by decide)) ?_
    refine sc_load hC (k := 3) hl20 te_368_1640 te_368_1641 te_368_1643 te_368_1644 te_368_1645 (sc_in hS hi (by decide)) ?_
    refine Vx.go hC te_368_1646 ?_
    refine ⟨by decide, fun q => ?_, fun q => ?_⟩
    · show Vx (Ex S 24) S M_368 [] Q1 1653 (px_s1 lv 5 (.int r19)) [.int (S.2 (i + Int32.ofInt 2).toNatClampNeg), .int (S.2 (i + Int32.ofInt 1).toNatClampNeg), .ref 143] h17 (c + 5) (s + 30)
      refine Vx.go hC te_368_1653 ?_
      refine Vx.go hC te_368_1654 ?_
      obtain ⟨gs24, gs24g⟩ := hL18.obj (A := 143) rfl
      have hcall25 := ref_call (S := S) (n := 24) (μ := 333) (args := [.inr 143, .inl ((S.2 (i + Int32.ofInt 1).toNatClampNeg) : Int32).toInt, .inl ((S.2 (i + Int32.ofInt 2).toNatClampNeg) : Int32).toInt, .inl ((Int32.ofInt 0) : Int32).toInt]) (h := h17) (fun v hv => by simp only [List.mem_cons, List.not_mem_nil, or_false] at hv; rcases hv with rfl | rfl | rfl | rfl <;> first | trivial | exact wiI _) hL18 (fun mem hr => f_333 hr (fun r m' a b => ⟨a, b⟩))
      simp only [List.map_cons, List.map_nil, wv, Int32.ofInt_toInt] at hcall25
      refine p_call_mk (av := [.ref 143, .int (S.2 (i + Int32.ofInt 1).toNatClampNeg), .int (S.2 (i + Int32.ofInt 2).toNatClampNeg), .int (Int32.ofInt 0)]) (rest := []) mt_333 rfl (by decide) (show (c + 5) + 0 ≤ 601024 by omega) (show (s + 30) + 0 ≤ 7293033 by omega) (fun _ => ⟨143, gs24, rfl, gs24g⟩) ?_
      refine hC _ _ _ _ _ ?_ hcall25
      rintro _ h21 ⟨hL22, r23, rfl⟩
      show Vx (Ex S 24) S M_368 [] Q1 1657 (px_s1 lv 5 (.int r19)) [.int r23] h21 (c + 5) (s + 30)
      refine Vx.go hC te_368_1657 ?_
      refine ⟨by decide, ?_⟩
      have hl26 := LwS.st (j := 6) (v := .int r23) (by omega) hl20
      show Vx (Ex S 24) S M_368 [] Q1 1659 (px_s1 (px_s1 lv 5 (.int r19)) 6 (.int r23)) [] h21 (c + 5) (s + 30)
      refine Vx.go hC te_368_1659 ?_
      refine ⟨by decide, ?_⟩
      exact Nx _ _ _ _ hl26 hL22 (by omega) (by omega)
    · show Vx (Ex S 24) S M_368 [] Q1 1649 (px_s1 lv 5 (.int r19)) [.int (S.2 (i + Int32.ofInt 2).toNatClampNeg), .int (S.2 (i + Int32.ofInt 1).toNatClampNeg), .ref 143] h17 (c + 5) (s + 30)
      refine Vx.go hC te_368_1649 ?_
      refine Vx.go hC te_368_1650 ?_
      refine ⟨by decide, ?_⟩
      show Vx (Ex S 24) S M_368 [] Q1 1654 (px_s1 lv 5 (.int r19)) [.int (Int32.ofInt 1), .int (S.2 (i + Int32.ofInt 2).toNatClampNeg), .int (S.2 (i + Int32.ofInt 1).toNatClampNeg), .ref 143] h17 (c + 5) (s + 30)
      refine Vx.go hC te_368_1654 ?_
      obtain ⟨gs30, gs30g⟩ := hL18.obj (A := 143) rfl
      have hcall31 := ref_call (S := S) (n := 24) (μ := 333) (args := [.inr 143, .inl ((S.2 (i + Int32.ofInt 1).toNatClampNeg) : Int32).toInt, .inl ((S.2 (i + Int32.ofInt 2).toNatClampNeg) : Int32).toInt, .inl ((Int32.ofInt 1) : Int32).toInt]) (h := h17) (fun v hv => by simp only [List.mem_cons, List.not_mem_nil, or_false] at hv; rcases hv with rfl | rfl | rfl | rfl <;> first | trivial | exact wiI _) hL18 (fun mem hr => f_333 hr (fun r m' a b => ⟨a, b⟩))
      simp only [List.map_cons, List.map_nil, wv, Int32.ofInt_toInt] at hcall31
      refine p_call_mk (av := [.ref 143, .int (S.2 (i + Int32.ofInt 1).toNatClampNeg), .int (S.2 (i + Int32.ofInt 2).toNatClampNeg), .int (Int32.ofInt 1)]) (rest := []) mt_333 rfl (by decide) (show (c + 5) + 0 ≤ 601024 by omega) (show (s + 30) + 0 ≤ 7293033 by omega) (fun _ => ⟨143, gs30, rfl, gs30g⟩) ?_
      refine hC _ _ _ _ _ ?_ hcall31
      rintro _ h27 ⟨hL28, r29, rfl⟩
      show Vx (Ex S 24) S M_368 [] Q1 1657 (px_s1 lv 5 (.int r19)) [.int r29] h27 (c + 5) (s + 30)
      refine Vx.go hC te_368_1657 ?_
      refine ⟨by decide, ?_⟩
      have hl32 := LwS.st (j := 6) (v := .int r29) (by omega) hl20
      show Vx (Ex S 24) S M_368 [] Q1 1659 (px_s1 (px_s1 lv 5 (.int r19)) 6 (.int r29)) [] h27 (c + 5) (s + 30)
      refine Vx.go hC te_368_1659 ?_
      refine ⟨by decide, ?_⟩
      exact Nx _ _ _ _ hl32 hL28 (by omega) (by omega)
theorem lc_31 {S : Nat × (Nat → Int32)} {lv : LV} {h : PH} {c s : Nat} {i : Int32} (hS : S.1 ≤ 3072) (hl : LwS lv i) (hi : 0 ≤ i.toInt ∧ i.toInt + 5 < S.1) (hL : LR h) (hc : c + 8 ≤ 601024) (hs : s + 48 ≤ 7293033) (Nx : ∀ lv' h' c' s', LwS lv' i → LR h' → c' ≤ c + 8 → s' ≤ s + 48 → Vx (Ex S 24) S M_368 [] Q1 2351 lv' [] h' c' s') : Vx (Ex S 24) S M_368 [] Q1 1662 lv [] h c s := by
  have hC := Ex.mono S 24
  refine Vx.go hC te_368_1662 ?_
  refine ⟨_, hl.2.1, ⟨0, Or.inl rfl⟩, ?_⟩
  refine sc_load hC (k := 1) hl te_368_1663 te_368_1664 te_368_1666 te_368_1667 te_368_1668 (sc_in hS hi (by decide)) ?_
  refine Vx.go hC te_368_1669 ?_
  refine ⟨_, hl.2.2.2.1, ⟨173, Or.inl rfl⟩, ?_⟩
  refine Vx.go hC te_368_1670 ?_
  refine Or.inr ⟨by decide, ?_⟩
  refine p_call_mk (av := [.ref 0, .int (S.2 (i + Int32.ofInt 1).toNatClampNeg), .ref 173]) (rest := []) mt_177 rfl (by decide) (show c + 3 ≤ 601024 by omega) (show s + 18 ≤ 7293033 by omega) (fun q => by cases q) ?_
  refine g_177 (n := 6) hL (fun r3 h1 hL2 => ?_)
  show Vx (Ex S 24) S M_368 [] Q1 1673 lv [.int r3] h1 (c + 3) (s + 18)
  refine Vx.go hC te_368_1673 ?_
  refine ⟨by decide, ?_⟩
  have hl4 := LwS.st (j := 5) (v := .int r3) (by omega) hl
  show Vx (Ex S 24) S M_368 [] Q1 1675 (px_s1 lv 5 (.int r3)) [] h1 (c + 3) (s + 18)
  refine Vx.go hC te_368_1675 ?_
  refine ⟨_, hl4.2.2.1, ⟨143, Or.inl rfl⟩, ?_⟩
  refine sc_load hC (k := 1) hl4 te_368_1676 te_368_1677 te_368_1679 te_368_1680 te_368_1681 (sc_in hS hi (by decide)) ?_
  refine Vx.go hC te_368_1682 ?_
  obtain ⟨gs8, gs8g⟩ := hL2.obj (A := 143) rfl
  have hcall9 := ref_call (S := S) (n := 24) (μ := 337) (args := [.inr 143, .inl ((S.2 (i + Int32.ofInt 1).toNatClampNeg) : Int32).toInt]) (h := h1) (fun v hv => by simp only [List.mem_cons, List.not_mem_nil, or_false] at hv; rcases hv with rfl | rfl <;> first | trivial | exact wiI _) hL2 (fun mem hr => f_337 hr (fun r m' a b => ⟨a, b⟩))
  simp only [List.map_cons, List.map_nil, wv, Int32.ofInt_toInt] at hcall9
  refine p_call_mk (av := [.ref 143, .int (S.2 (i + Int32.ofInt 1).toNatClampNeg)]) (rest := []) mt_337 rfl (by decide) (show (c + 3) + 0 ≤ 601024 by omega) (show (s + 18) + 0 ≤ 7293033 by omega) (fun _ => ⟨143, gs8, rfl, gs8g⟩) ?_
  refine hC _ _ _ _ _ ?_ hcall9
  rintro _ h5 ⟨hL6, r7, rfl⟩
  show Vx (Ex S 24) S M_368 [] Q1 1685 (px_s1 lv 5 (.int r3)) [.int r7] h5 (c + 3) (s + 18)
  refine Vx.go hC te_368_1685 ?_
  refine ⟨by decide, ?_⟩
  have hl10 := LwS.st (j := 6) (v := .int r7) (by omega) hl4
  show Vx (Ex S 24) S M_368 [] Q1 1687 (px_s1 (px_s1 lv 5 (.int r3)) 6 (.int r7)) [] h5 (c + 3) (s + 18)
  refine Vx.go hC te_368_1687 ?_
  refine ⟨by decide, ?_⟩
  exact Nx _ _ _ _ hl10 hL6 (by omega) (by omega)
theorem lc_32 {S : Nat × (Nat → Int32)} {lv : LV} {h : PH} {c s : Nat} {i : Int32} (hS : S.1 ≤ 3072) (hl : LwS lv i) (hi : 0 ≤ i.toInt ∧ i.toInt + 5 < S.1) (hL : LR h) (hc : c + 8 ≤ 601024) (hs : s + 48 ≤ 7293033) (Nx : ∀ lv' h' c' s', LwS lv' i → LR h' → c' ≤ c + 8 → s' ≤ s + 48 → Vx (Ex S 24) S M_368 [] Q1 2351 lv' [] h' c' s') : Vx (Ex S 24) S M_368 [] Q1 1690 lv [] h c s := by
  have hC := Ex.mono S 24
  refine Vx.go hC te_368_1690 ?_
  refine ⟨_, hl.2.1, ⟨0, Or.inl rfl⟩, ?_⟩
  refine sc_load hC (k := 1) hl te_368_1691 te_368_1692 te_368_1694 te_368_1695 te_368_1696 (sc_in hS hi (by decide)) ?_
  refine sc_load hC (k := 2) hl te_368_1697 te_368_1698 te_368_1700 te_368_1701 te_368_1702 (sc_in hS hi (by decide)) ?_
  refine sc_load hC (k := 3) hl te_368_1703 te_368_1704 te_368_1706 te_368_1707 te_368_1708 (sc_in hS hi (by decide)) ?_
  refine Vx.go hC te_368_1709 ?_
  refine ⟨_, hl.2.2.2.1, ⟨173, Or.inl rfl⟩, ?_⟩
  refine Vx.go hC te_368_1710 ?_
  refine Or.inr ⟨by decide, ?_⟩
  refine p_call_mk (av := [.ref 0, .int (S.2 (i + Int32.ofInt 1).toNatClampNeg), .int (S.2 (i + Int32.ofInt 2).toNatClampNeg), .int (S.2 (i + Int32.ofInt 3).toNatClampNeg), .ref 173]) (rest := []) mt_182 rfl (by decide) (show c + 6 ≤ 601024 by omega) (show s + 36 ≤ 7293033 by omega) (fun q => by cases q) ?_
  refine g_182 (n := 6) hL (fun r3 h1 hL2 => ?_)
  show Vx (Ex S 24) S M_368 [] Q1 1713 lv [.int r3] h1 (c + 6) (s + 36)
  refine Vx.go hC te_368_1713 ?_
  refine ⟨by decide, ?_⟩
  have hl4 := LwS.st (j := 5) (v := .int r3) (by omega) hl
  show Vx (Ex S 24) S M_368 [] Q1 1715 (px_s1 lv 5 (.int r3)) [] h1 (c + 6) (s + 36)
  refine Vx.go hC te_368_1715 ?_
  refine ⟨_, hl4.2.2.1, ⟨143, Or.inl rfl⟩, ?_⟩
  refine sc_load hC (k := 1) hl4 te_368_1716 te_368_1717 te_368_1719 te_368_1720 te_368_1721 (sc_in hS hi (by decide)) ?_
  refine sc_load hC (k := 2) hl4 te_368_1722 te_368_1723 te_368_1725 te_368_1726 te_368_1727 (sc_in hS hi (by decide)) ?_
  refine sc_load hC (k := 3) hl4 te_368_1728 te_368_1729 te_368_1731 te_368_1732 te_368_1733 (sc_in hS hi (by decide)) ?_
  refine Vx.go hC te_368_1734 ?_
  obtain ⟨gs8, gs8g⟩ := hL2.obj (A := 143) rfl
  have hcall9 := ref_call (S := S) (n := 24) (μ := 342) (args := [.inr 143, .inl ((S.2 (i + Int32.ofInt 1).toNatClampNeg) : Int32).toInt, .inl ((S.2 (i + Int32.ofInt 2).toNatClampNeg) : Int32).toInt, .inl ((S.2 (i + Int32.ofInt 3).toNatClampNeg) : Int32).toInt]) (h := h1) (fun v hv => by simp only [List.mem_cons, List.not_mem_nil, or_false] at hv; rcases hv with rfl | rfl | rfl | rfl <;> first | trivial | exact wiI _) hL2 (fun mem hr => f_342 hr (fun r m' a b => ⟨a, b⟩))
  simp only [List.map_cons, List.map_nil, wv, Int32.ofInt_toInt] at hcall9
  refine p_call_mk (av := [.ref 143, .int (S.2 (i + Int32.ofInt 1).toNatClampNeg), .int (S.2 (i + Int32.ofInt 2).toNatClampNeg), .int (S.2 (i + Int32.ofInt 3).toNatClampNeg)]) (rest := []) mt_342 rfl (by decide) (show (c + 6) + 0 ≤ 601024 by omega) (show (s + 36) + 0 ≤ 7293033 by omega) (fun _ => ⟨143, gs8, rfl, gs8g⟩) ?_
  refine hC _ _ _ _ _ ?_ hcall9
  rintro _ h5 ⟨hL6, r7, rfl⟩
  show Vx (Ex S 24) S M_368 [] Q1 1737 (px_s1 lv 5 (.int r3)) [.int r7] h5 (c + 6) (s + 36)
  refine Vx.go hC te_368_1737 ?_
  refine ⟨by decide, ?_⟩
  have hl10 := LwS.st (j := 6) (v := .int r7) (by omega) hl4
  show Vx (Ex S 24) S M_368 [] Q1 1739 (px_s1 (px_s1 lv 5 (.int r3)) 6 (.int r7)) [] h5 (c + 6) (s + 36)
  refine Vx.go hC te_368_1739 ?_
  refine ⟨by decide, ?_⟩
  exact Nx _ _ _ _ hl10 hL6 (by omega) (by omega)
theorem lc_33 {S : Nat × (Nat → Int32)} {lv : LV} {h : PH} {c s : Nat} {i : Int32} (hS : S.1 ≤ 3072) (hl : LwS lv i) (hi : 0 ≤ i.toInt ∧ i.toInt + 5 < S.1) (hL : LR h) (hc : c + 8 ≤ 601024) (hs : s + 48 ≤ 7293033) (Nx : ∀ lv' h' c' s', LwS lv' i → LR h' → c' ≤ c + 8 → s' ≤ s + 48 → Vx (Ex S 24) S M_368 [] Q1 2351 lv' [] h' c' s') : Vx (Ex S 24) S M_368 [] Q1 1742 lv [] h c s := by
  have hC := Ex.mono S 24
  refine Vx.go hC te_368_1742 ?_
  refine ⟨_, hl.2.1, ⟨0, Or.inl rfl⟩, ?_⟩
  refine sc_load hC (k := 1) hl te_368_1743 te_368_1744 te_368_1746 te_368_1747 te_368_1748 (sc_in hS hi (by decide)) ?_
  refine sc_load hC (k := 2) hl te_368_1749 te_368_1750 te_368_1752 te_368_1753 te_368_1754 (sc_in hS hi (by decide)) ?_
  refine sc_load hC (k := 3) hl te_368_1755 te_368_1756 te_368_1758 te_368_1759 te_368_1760 (sc_in hS hi (by decide)) ?_
  refine sc_load hC (k := 4) hl te_368_1761 te_368_1762 te_368_1764 te_368_1765 te_368_1766 (sc_in hS hi (by decide)) ?_
  refine sc_load hC (k := 5) hl te_368_1767 te_368_1768 te_368_1770 te_368_1771 te_368_1772 (sc_in hS hi (by decide)) ?_
  refine Vx.go hC te_368_1773 ?_
  refine ⟨_, hl.2.2.2.1, ⟨173, Or.inl rfl⟩, ?_⟩
  refine Vx.go hC te_368_1774 ?_
  refine Or.inr ⟨by decide, ?_⟩
  refine p_call_mk (av := [.ref 0, .int (S.2 (i + Int32.ofInt 1).toNatClampNeg), .int (S.2 (i + Int32.ofInt 2).toNatClampNeg), .int (S.2 (i + Int32.ofInt 3).toNatClampNeg), .int (S.2 (i + Int32.ofInt 4).toNatClampNeg), .int (S.2 (i + Int32.ofInt 5).toNatClampNeg), .ref 173]) (rest := []) mt_184 rfl (by decide) (show c + 8 ≤ 601024 by omega) (show s + 48 ≤ 7293033 by omega) (fun q => by cases q) ?_
  refine g_184 (n := 6) hL (fun r3 h1 hL2 => ?_)
  show Vx (Ex S 24) S M_368 [] Q1 1777 lv [.int r3] h1 (c + 8) (s + 48)
  refine Vx.go hC te_368_1777 ?_
  refine ⟨by decide, ?_⟩
  have hl4 := LwS.st (j := 5) (v := .int r3) (by omega) hl
  show Vx (Ex S 24) S M_368 [] Q1 1779 (px_s1 lv 5 (.int r3)) [] h1 (c + 8) (s + 48)
  refine Vx.go hC te_368_1779 ?_
  refine ⟨_, hl4.2.2.1, ⟨143, Or.inl rfl⟩, ?_⟩
  refine sc_load hC (k := 1) hl4 te_368_1780 te_368_1781 te_368_1783 te_368_1784 te_368_1785 (sc_in hS hi (by decide)) ?_
  refine sc_load hC (k := 2) hl4 te_368_1786 te_368_1787 te_368_1789 te_368_1790 te_368_1791 (sc_in hS hi (by decide)) ?_
  refine sc_load hC (k := 3) hl4 te_368_1792 te_368_1793 te_368_1795 te_368_1796 te_368_1797 (sc_in hS hi (by decide)) ?_
  refine sc_load hC (k := 4) hl4 te_368_1798 te_368_1799 te_368_1801 te_368_1802 te_368_1803 (sc_in hS hi (by decide)) ?_
  refine sc_load hC (k := 5) hl4 te_368_1804 te_368_1805 te_368_1807 te_368_1808 te_368_1809 (sc_in hS hi (by decide)) ?_
  refine Vx.go hC te_368_1810 ?_
  obtain ⟨gs8, gs8g⟩ := hL2.obj (A := 143) rfl
  have hcall9 := ref_call (S := S) (n := 24) (μ := 326) (args := [.inr 143, .inl ((S.2 (i + Int32.ofInt 1).toNatClampNeg) : Int32).toInt, .inl ((S.2 (i + Int32.ofInt 2).toNatClampNeg) : Int32).toInt, .inl ((S.2 (i + Int32.ofInt 3).toNatClampNeg) : Int32).toInt, .inl ((S.2 (i + Int32.ofInt 4).toNatClampNeg) : Int32).toInt, .inl ((S.2 (i + Int32.ofInt 5).toNatClampNeg) : Int32).toInt]) (h := h1) (fun v hv => by simp only [List.mem_cons, List.not_mem_nil, or_false] at hv; rcases hv with rfl | rfl | rfl | rfl | rfl | rfl <;> first | trivial | exact wiI _) hL2 (fun mem hr => f_326 hr (fun r m' a b => ⟨a, b⟩))
  simp only [List.map_cons, List.map_nil, wv, Int32.ofInt_toInt] at hcall9
  refine p_call_mk (av := [.ref 143, .int (S.2 (i + Int32.ofInt 1).toNatClampNeg), .int (S.2 (i + Int32.ofInt 2).toNatClampNeg), .int (S.2 (i + Int32.ofInt 3).toNatClampNeg), .int (S.2 (i + Int32.ofInt 4).toNatClampNeg), .int (S.2 (i + Int32.ofInt 5).toNatClampNeg)]) (rest := []) mt_326 rfl (by decide) (show (c + 8) + 0 ≤ 601024 by omega) (show (s + 48) + 0 ≤ 7293033 by omega) (fun _ => ⟨143, gs8, rfl, gs8g⟩) ?_
  refine hC _ _ _ _ _ ?_ hcall9
  rintro _ h5 ⟨hL6, r7, rfl⟩
  show Vx (Ex S 24) S M_368 [] Q1 1813 (px_s1 lv 5 (.int r3)) [.int r7] h5 (c + 8) (s + 48)
  refine Vx.go hC te_368_1813 ?_
  refine ⟨by decide, ?_⟩
  have hl10 := LwS.st (j := 6) (v := .int r7) (by omega) hl4
  show Vx (Ex S 24) S M_368 [] Q1 1815 (px_s1 (px_s1 lv 5 (.int r3)) 6 (.int r7)) [] h5 (c + 8) (s + 48)
  refine Vx.go hC te_368_1815 ?_
  refine ⟨by decide, ?_⟩
  exact Nx _ _ _ _ hl10 hL6 (by omega) (by omega)
