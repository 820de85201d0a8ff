/-! laid by wip/hand/lw.py: cases of the law -/
theorem te_368_1023 : (pT M_368).find? (fun e => e.1 == 1023) = some (1023, .aload_n 1, 0, 0) := (sk_46 1023 rfl).trans rfl
theorem te_368_1024 : (pT M_368).find? (fun e => e.1 == 1024) = some (1024, .aload_n 0, 0, 0) := (sk_47 1024 rfl).trans rfl
theorem te_368_1025 : (pT M_368).find? (fun e => e.1 == 1025) = some (1025, .iload 4, 0, 0) := (sk_47 1025 rfl).trans rfl
theorem te_368_1027 : (pT M_368).find? (fun e => e.1 == 1027) = some (1027, .iconst 1, 0, 0) := (sk_47 1027 rfl).trans rfl
theorem te_368_1028 : (pT M_368).find? (fun e => e.1 == 1028) = some (1028, .iadd, 0, 0) := (sk_47 1028 rfl).trans rfl
theorem te_368_1029 : (pT M_368).find? (fun e => e.1 == 1029) = some (1029, .iaload, 0, 0) := (sk_47 1029 rfl).trans rfl
theorem te_368_1030 : (pT M_368).find? (fun e => e.1 == 1030) = some (1030, .aload_n 0, 0, 0) := (sk_47 1030 rfl).trans rfl
theorem te_368_1031 : (pT M_368).find? (fun e => e.1 == 1031) = some (1031, .iload 4, 0, 0) := (sk_47 1031 rfl).trans rfl
theorem te_368_1033 : (pT M_368).find? (fun e => e.1 == 1033) = some (1033, .iconst 2, 0, 0) := (sk_47 1033 rfl).trans rfl
theorem te_368_1034 : (pT M_368).find? (fun e => e.1 == 1034) = some (1034, .iadd, 0, 0) := (sk_47 1034 rfl).trans rfl
theorem te_368_1035 : (pT M_368).find? (fun e => e.1 == 1035) = some (1035, .iaload, 0, 0) := (sk_47 1035 rfl).trans rfl
theorem te_368_1036 : (pT M_368).find? (fun e => e.1 == 1036) = some (1036, .aload_n 3, 0, 0) := (sk_47 1036 rfl).trans rfl
theorem te_368_1037 : (pT M_368).find? (fun e => e.1 == 1037) = some (1037, .invokestatic 246, 139, 8) := (sk_47 1037 rfl).trans rfl
theorem te_368_1040 : (pT M_368).find? (fun e => e.1 == 1040) = some (1040, .istore 5, 0, 0) := (sk_48 1040 rfl).trans rfl
theorem te_368_1042 : (pT M_368).find? (fun e => e.1 == 1042) = some (1042, .aload_n 2, 0, 0) := (sk_48 1042 rfl).trans rfl
theorem te_368_1043 : (pT M_368).find? (fun e => e.1 == 1043) = some (1043, .aload_n 0, 0, 0) := (sk_48 1043 rfl).trans rfl
theorem te_368_1044 : (pT M_368).find? (fun e => e.1 == 1044) = some (1044, .iload 4, 0, 0) := (sk_48 1044 rfl).trans rfl
theorem te_368_1046 : (pT M_368).find? (fun e => e.1 == 1046) = some (1046, .iconst 1, 0, 0) := (sk_48 1046 rfl).trans rfl
theorem te_368_1047 : (pT M_368).find? (fun e => e.1 == 1047) = some (1047, .iadd, 0, 0) := (sk_48 1047 rfl).trans rfl
theorem te_368_1048 : (pT M_368).find? (fun e => e.1 == 1048) = some (1048, .iaload, 0, 0) := (sk_48 1048 rfl).trans rfl
theorem te_368_1049 : (pT M_368).find? (fun e => e.1 == 1049) = some (1049, .aload_n 0, 0, 0) := (sk_48 1049 rfl).trans rfl
theorem te_368_1050 : (pT M_368).find? (fun e => e.1 == 1050) = some (1050, .iload 4, 0, 0) := (sk_48 1050 rfl).trans rfl
theorem te_368_1052 : (pT M_368).find? (fun e => e.1 == 1052) = some (1052, .iconst 2, 0, 0) := (sk_48 1052 rfl).trans rfl
theorem te_368_1053 : (pT M_368).find? (fun e => e.1 == 1053) = some (1053, .iadd, 0, 0) := (sk_48 1053 rfl).trans rfl
theorem te_368_1054 : (pT M_368).find? (fun e => e.1 == 1054) = some (1054, .iaload, 0, 0) := (sk_48 1054 rfl).trans rfl
theorem te_368_1055 : (pT M_368).find? (fun e => e.1 == 1055) = some (1055, .invokevirtual 248, 294, 0) := (sk_49 1055 rfl).trans rfl
theorem te_368_1058 : (pT M_368).find? (fun e => e.1 == 1058) = some (1058, .istore 6, 0, 0) := (sk_49 1058 rfl).trans rfl
theorem te_368_1060 : (pT M_368).find? (fun e => e.1 == 1060) = some (1060, .goto 1284, 0, 0) := (sk_49 1060 rfl).trans rfl
theorem te_368_1063 : (pT M_368).find? (fun e => e.1 == 1063) = some (1063, .aload_n 1, 0, 0) := (sk_49 1063 rfl).trans rfl
theorem te_368_1064 : (pT M_368).find? (fun e => e.1 == 1064) = some (1064, .aload_n 0, 0, 0) := (sk_49 1064 rfl).trans rfl
theorem te_368_1065 : (pT M_368).find? (fun e => e.1 == 1065) = some (1065, .iload 4, 0, 0) := (sk_49 1065 rfl).trans rfl
theorem te_368_1067 : (pT M_368).find? (fun e => e.1 == 1067) = some (1067, .iconst 1, 0, 0) := (sk_49 1067 rfl).trans rfl
theorem te_368_1068 : (pT M_368).find? (fun e => e.1 == 1068) = some (1068, .iadd, 0, 0) := (sk_49 1068 rfl).trans rfl
theorem te_368_1069 : (pT M_368).find? (fun e => e.1 == 1069) = some (1069, .iaload, 0, 0) := (sk_49 1069 rfl).trans rfl
theorem te_368_1070 : (pT M_368).find? (fun e => e.1 == 1070) = some (1070, .aload_n 0, 0, 0) := (sk_49 1070 rfl).trans rfl
theorem te_368_1071 : (pT M_368).find? (fun e => e.1 == 1071) = some (1071, .iload 4, 0, 0) := (sk_49 1071 rfl).trans rfl
theorem te_368_1073 : (pT M_368).find? (fun e => e.1 == 1073) = some (1073, .iconst 2, 0, 0) := (sk_49 1073 rfl).trans rfl
theorem te_368_1074 : (pT M_368).find? (fun e => e.1 == 1074) = some (1074, .iadd, 0, 0) := (sk_50 1074 rfl).trans rfl
theorem te_368_1075 : (pT M_368).find? (fun e => e.1 == 1075) = some (1075, .iaload, 0, 0) := (sk_50 1075 rfl).trans rfl
theorem te_368_1076 : (pT M_368).find? (fun e => e.1 == 1076) = some (1076, .aload_n 0, 0, 0) := (sk_50 1076 rfl).trans rfl
theorem te_368_1077 : (pT M_368).find? (fun e => e.1 == 1077) = some (1077, .iload 4, 0, 0) := (sk_50 1077 rfl).trans rfl
theorem te_368_1079 : (pT M_368).find? (fun e => e.1 == 1079) = some (1079, .iconst 3, 0, 0) := (sk_50 1079 rfl).trans rfl
theorem te_368_1080 : (pT M_368).find? (fun e => e.1 == 1080) = some (1080, .iadd, 0, 0) := (sk_50 1080 rfl).trans rfl
theorem te_368_1081 : (pT M_368).find? (fun e => e.1 == 1081) = some (1081, .iaload, 0, 0) := (sk_50 1081 rfl).trans rfl
theorem te_368_1082 : (pT M_368).find? (fun e => e.1 == 1082) = some (1082, .aload_n 3, 0, 0) := (sk_50 1082 rfl).trans rfl
theorem te_368_1083 : (pT M_368).find? (fun e => e.1 == 1083) = some (1083, .invokestatic 249, 144, 8) := (sk_50 1083 rfl).trans rfl
theorem te_368_1086 : (pT M_368).find? (fun e => e.1 == 1086) = some (1086, .istore 5, 0, 0) := (sk_50 1086 rfl).trans rfl
theorem te_368_1088 : (pT M_368).find? (fun e => e.1 == 1088) = some (1088, .aload_n 2, 0, 0) := (sk_50 1088 rfl).trans rfl
theorem te_368_1089 : (pT M_368).find? (fun e => e.1 == 1089) = some (1089, .aload_n 0, 0, 0) := (sk_50 1089 rfl).trans rfl
theorem te_368_1090 : (pT M_368).find? (fun e => e.1 == 1090) = some (1090, .iload 4, 0, 0) := (sk_51 1090 rfl).trans rfl
theorem te_368_1092 : (pT M_368).find? (fun e => e.1 == 1092) = some (1092, .iconst 1, 0, 0) := (sk_51 1092 rfl).trans rfl
theorem te_368_1093 : (pT M_368).find? (fun e => e.1 == 1093) = some (1093, .iadd, 0, 0) := (sk_51 1093 rfl).trans rfl
theorem te_368_1094 : (pT M_368).find? (fun e => e.1 == 1094) = some (1094, .iaload, 0, 0) := (sk_51 1094 rfl).trans rfl
theorem te_368_1095 : (pT M_368).find? (fun e => e.1 == 1095) = some (1095, .aload_n 0, 0, 0) := (sk_51 1095 rfl).trans rfl
theorem te_368_1096 : (pT M_368).find? (fun e => e.1 == 1096) = some (1096, .iload 4, 0, 0) := (sk_51 1096 rfl).trans rfl
theorem te_368_1098 : (pT M_368).find? (fun e => e.1 == 1098) = some (1098, .iconst 2, 0, 0) := (sk_51 1098 rfl).trans rfl
theorem te_368_1099 : (pT M_368).find? (fun e => e.1 == 1099) = some (1099, .iadd, 0, 0) := (sk_51 1099 rfl).trans rfl
theorem te_368_1100 : (pT M_368).find? (fun e => e.1 == 1100) = some (1100, .iaload, 0, 0) := (sk_51 1100 rfl).trans rfl
theorem te_368_1101 : (pT M_368).find? (fun e => e.1 == 1101) = some (1101, .aload_n 0, 0, 0) := (sk_51 1101 rfl).trans rfl
theorem te_368_1102 : (pT M_368).find? (fun e => e.1 == 1102) = some (1102, .iload 4, 0, 0) := (sk_51 1102 rfl).trans rfl
theorem te_368_1104 : (pT M_368).find? (fun e => e.1 == 1104) = some (1104, .iconst 3, 0, 0) := (sk_51 1104 rfl).trans rfl
theorem te_368_1105 : (pT M_368).find? (fun e => e.1 == 1105) = some (1105, .iadd, 0, 0) := (sk_52 1105 rfl).trans rfl
theorem te_368_1106 : (pT M_368).find? (fun e => e.1 == 1106) = some (1106, .iaload, 0, 0) := (sk_52 1106 rfl).trans rfl
theorem te_368_1107 : (pT M_368).find? (fun e => e.1 == 1107) = some (1107, .invokevirtual 251, 305, 0) := (sk_52 1107 rfl).trans rfl
theorem te_368_1110 : (pT M_368).find? (fun e => e.1 == 1110) = some (1110, .istore 6, 0, 0) := (sk_52 1110 rfl).trans rfl
theorem te_368_1112 : (pT M_368).find? (fun e => e.1 == 1112) = some (1112, .goto 1232, 0, 0) := (sk_52 1112 rfl).trans rfl
theorem te_368_1115 : (pT M_368).find? (fun e => e.1 == 1115) = some (1115, .aload_n 1, 0, 0) := (sk_52 1115 rfl).trans rfl
theorem te_368_1116 : (pT M_368).find? (fun e => e.1 == 1116) = some (1116, .aload_n 0, 0, 0) := (sk_52 1116 rfl).trans rfl
theorem te_368_1117 : (pT M_368).find? (fun e => e.1 == 1117) = some (1117, .iload 4, 0, 0) := (sk_52 1117 rfl).trans rfl
theorem te_368_1119 : (pT M_368).find? (fun e => e.1 == 1119) = some (1119, .iconst 1, 0, 0) := (sk_52 1119 rfl).trans rfl
theorem te_368_1120 : (pT M_368).find? (fun e => e.1 == 1120) = some (1120, .iadd, 0, 0) := (sk_52 1120 rfl).trans rfl
theorem te_368_1121 : (pT M_368).find? (fun e => e.1 == 1121) = some (1121, .iaload, 0, 0) := (sk_52 1121 rfl).trans rfl
theorem te_368_1122 : (pT M_368).find? (fun e => e.1 == 1122) = some (1122, .aload_n 0, 0, 0) := (sk_52 1122 rfl).trans rfl
theorem te_368_1123 : (pT M_368).find? (fun e => e.1 == 1123) = some (1123, .iload 4, 0, 0) := (sk_53 1123 rfl).trans rfl
theorem te_368_1125 : (pT M_368).find? (fun e => e.1 == 1125) = some (1125, .iconst 2, 0, 0) := (sk_53 1125 rfl).trans rfl
theorem te_368_1126 : (pT M_368).find? (fun e => e.1 == 1126) = some (1126, .iadd, 0, 0) := (sk_53 1126 rfl).trans rfl
theorem te_368_1127 : (pT M_368).find? (fun e => e.1 == 1127) = some (1127, .iaload, 0, 0) := (sk_53 1127 rfl).trans rfl
theorem te_368_1128 : (pT M_368).find? (fun e => e.1 == 1128) = some (1128, .aload_n 3, 0, 0) := (sk_53 1128 rfl).trans rfl
theorem te_368_1129 : (pT M_368).find? (fun e => e.1 == 1129) = some (1129, .invokestatic 252, 147, 8) := (sk_53 1129 rfl).trans rfl
theorem te_368_1132 : (pT M_368).find? (fun e => e.1 == 1132) = some (1132, .istore 5, 0, 0) := (sk_53 1132 rfl).trans rfl
theorem te_368_1134 : (pT M_368).find? (fun e => e.1 == 1134) = some (1134, .aload_n 2, 0, 0) := (sk_53 1134 rfl).trans rfl
theorem te_368_1135 : (pT M_368).find? (fun e => e.1 == 1135) = some (1135, .aload_n 0, 0, 0) := (sk_53 1135 rfl).trans rfl
theorem te_368_1136 : (pT M_368).find? (fun e => e.1 == 1136) = some (1136, .iload 4, 0, 0) := (sk_53 1136 rfl).trans rfl
theorem te_368_1138 : (pT M_368).find? (fun e => e.1 == 1138) = some (1138, .iconst 1, 0, 0) := (sk_53 1138 rfl).trans rfl
theorem te_368_1139 : (pT M_368).find? (fun e => e.1 == 1139) = some (1139, .iadd, 0, 0) := (sk_53 1139 rfl).trans rfl
theorem te_368_1140 : (pT M_368).find? (fun e => e.1 == 1140) = some (1140, .iaload, 0, 0) := (sk_54 1140 rfl).trans rfl
theorem te_368_1141 : (pT M_368).find? (fun e => e.1 == 1141) = some (1141, .aload_n 0, 0, 0) := (sk_54 1141 rfl).trans rfl
theorem te_368_1142 : (pT M_368).find? (fun e => e.1 == 1142) = some (1142, .iload 4, 0, 0) := (sk_54 1142 rfl).trans rfl
theorem te_368_1144 : (pT M_368).find? (fun e => e.1 == 1144) = some (1144, .iconst 2, 0, 0) := (sk_54 1144 rfl).trans rfl
theorem te_368_1145 : (pT M_368).find? (fun e => e.1 == 1145) = some (1145, .iadd, 0, 0) := (sk_54 1145 rfl).trans rfl
theorem te_368_1146 : (pT M_368).find? (fun e => e.1 == 1146) = some (1146, .iaload, 0, 0) := (sk_54 1146 rfl).trans rfl
theorem te_368_1147 : (pT M_368).find? (fun e => e.1 == 1147) = some (1147, .invokevirtual 254, 307, 0) := (sk_54 1147 rfl).trans rfl
theorem te_368_1150 : (pT M_368).find? (fun e => e.1 == 1150) = some (1150, .istore 6, 0, 0) := (sk_54 1150 rfl).trans rfl
theorem te_368_1152 : (pT M_368).find? (fun e => e.1 == 1152) = some (1152, .goto 1192, 0, 0) := (sk_54 1152 rfl).trans rfl
theorem te_368_1155 : (pT M_368).find? (fun e => e.1 == 1155) = some (1155, .aload_n 1, 0, 0) := (sk_54 1155 rfl).trans rfl
theorem te_368_1156 : (pT M_368).find? (fun e => e.1 == 1156) = some (1156, .aload_n 0, 0, 0) := (sk_54 1156 rfl).trans rfl
theorem te_368_1157 : (pT M_368).find? (fun e => e.1 == 1157) = some (1157, .iload 4, 0, 0) := (sk_54 1157 rfl).trans rfl
theorem te_368_1159 : (pT M_368).find? (fun e => e.1 == 1159) = some (1159, .iconst 1, 0, 0) := (sk_55 1159 rfl).trans rfl
theorem te_368_1160 : (pT M_368).find? (fun e => e.1 == 1160) = some (1160, .iadd, 0, 0) := (sk_55 1160 rfl).trans rfl
theorem te_368_1161 : (pT M_368).find? (fun e => e.1 == 1161) = some (1161, .iaload, 0, 0) := (sk_55 1161 rfl).trans rfl
theorem te_368_1162 : (pT M_368).find? (fun e => e.1 == 1162) = some (1162, .aload_n 0, 0, 0) := (sk_55 1162 rfl).trans rfl
theorem te_368_1163 : (pT M_368).find? (fun e => e.1 == 1163) = some (1163, .iload 4, 0, 0) := (sk_55 1163 rfl).trans rfl
theorem te_368_1165 : (pT M_368).find? (fun e => e.1 == 1165) = some (1165, .iconst 2, 0, 0) := (sk_55 1165 rfl).trans rfl
theorem te_368_1166 : (pT M_368).find? (fun e => e.1 == 1166) = some (1166, .iadd, 0, 0) := (sk_55 1166 rfl).trans rfl
theorem te_368_1167 : (pT M_368).find? (fun e => e.1 == 1167) = some (1167, .iaload, 0, 0) := (sk_55 1167 rfl).trans rfl
theorem te_368_1168 : (pT M_368).find? (fun e => e.1 == 1168) = some (1168, .aload_n 0, 0, 0) := (sk_55 1168 rfl).trans rfl
theorem te_368_1169 : (pT M_368).find? (fun e => e.1 == 1169) = some (1169, .iload 4, 0, 0) := (sk_55 1169 rfl).trans rfl
theorem te_368_1171 : (pT M_368).find? (fun e => e.1 == 1171) = some (1171, .iconst 3, 0, 0) := (sk_55 1171 rfl).trans rfl
theorem te_368_1172 : (pT M_368).find? (fun e => e.1 == 1172) = some (1172, .iadd, 0, 0) := (sk_55 1172 rfl).trans rfl
theorem te_368_1173 : (pT M_368).find? (fun e => e.1 == 1173) = some (1173, .iaload, 0, 0) := (sk_56 1173 rfl).trans rfl
theorem te_368_1174 : (pT M_368).find? (fun e => e.1 == 1174) = some (1174, .aload_n 0, 0, 0) := (sk_56 1174 rfl).trans rfl
theorem te_368_1175 : (pT M_368).find? (fun e => e.1 == 1175) = some (1175, .iload 4, 0, 0) := (sk_56 1175 rfl).trans rfl
theorem te_368_1177 : (pT M_368).find? (fun e => e.1 == 1177) = some (1177, .iconst 4, 0, 0) := (sk_56 1177 rfl).trans rfl
theorem te_368_1178 : (pT M_368).find? (fun e => e.1 == 1178) = some (1178, .iadd, 0, 0) := (sk_56 1178 rfl).trans rfl
theorem te_368_1179 : (pT M_368).find? (fun e => e.1 == 1179) = some (1179, .iaload, 0, 0) := (sk_56 1179 rfl).trans rfl
theorem te_368_1180 : (pT M_368).find? (fun e => e.1 == 1180) = some (1180, .aload_n 3, 0, 0) := (sk_56 1180 rfl).trans rfl
theorem te_368_1181 : (pT M_368).find? (fun e => e.1 == 1181) = some (1181, .invokestatic 255, 149, 8) := (sk_56 1181 rfl).trans rfl
theorem te_368_1184 : (pT M_368).find? (fun e => e.1 == 1184) = some (1184, .istore 5, 0, 0) := (sk_56 1184 rfl).trans rfl
theorem te_368_1186 : (pT M_368).find? (fun e => e.1 == 1186) = some (1186, .aload_n 2, 0, 0) := (sk_56 1186 rfl).trans rfl
theorem te_368_1187 : (pT M_368).find? (fun e => e.1 == 1187) = some (1187, .aload_n 0, 0, 0) := (sk_56 1187 rfl).trans rfl
theorem te_368_1188 : (pT M_368).find? (fun e => e.1 == 1188) = some (1188, .iload 4, 0, 0) := (sk_56 1188 rfl).trans rfl
theorem te_368_1190 : (pT M_368).find? (fun e => e.1 == 1190) = some (1190, .iconst 1, 0, 0) := (sk_57 1190 rfl).trans rfl
theorem te_368_1191 : (pT M_368).find? (fun e => e.1 == 1191) = some (1191, .iadd, 0, 0) := (sk_57 1191 rfl).trans rfl
theorem te_368_1192 : (pT M_368).find? (fun e => e.1 == 1192) = some (1192, .iaload, 0, 0) := (sk_57 1192 rfl).trans rfl
theorem te_368_1193 : (pT M_368).find? (fun e => e.1 == 1193) = some (1193, .aload_n 0, 0, 0) := (sk_57 1193 rfl).trans rfl
theorem te_368_1194 : (pT M_368).find? (fun e => e.1 == 1194) = some (1194, .iload 4, 0, 0) := (sk_57 1194 rfl).trans rfl
theorem te_368_1196 : (pT M_368).find? (fun e => e.1 == 1196) = some (1196, .iconst 2, 0, 0) := (sk_57 1196 rfl).trans rfl
theorem te_368_1197 : (pT M_368).find? (fun e => e.1 == 1197) = some (1197, .iadd, 0, 0) := (sk_57 1197 rfl).trans rfl
theorem te_368_1198 : (pT M_368).find? (fun e => e.1 == 1198) = some (1198, .iaload, 0, 0) := (sk_57 1198 rfl).trans rfl
theorem te_368_1199 : (pT M_368).find? (fun e => e.1 == 1199) = some (1199, .aload_n 0, 0, 0) := (sk_57 1199 rfl).trans rfl
theorem te_368_1200 : (pT M_368).find? (fun e => e.1 == 1200) = some (1200, .iload 4, 0, 0) := (sk_57 1200 rfl).trans rfl
theorem te_368_1202 : (pT M_368).find? (fun e => e.1 == 1202) = some (1202, .iconst 3, 0, 0) := (sk_57 1202 rfl).trans rfl
theorem te_368_1203 : (pT M_368).find? (fun e => e.1 == 1203) = some (1203, .iadd, 0, 0) := (sk_57 1203 rfl).trans rfl
theorem te_368_1204 : (pT M_368).find? (fun e => e.1 == 1204) = some (1204, .iaload, 0, 0) := (sk_58 1204 rfl).trans rfl
theorem te_368_1205 : (pT M_368).find? (fun e => e.1 == 1205) = some (1205, .aload_n 0, 0, 0) := (sk_58 1205 rfl).trans rfl
theorem te_368_1206 : (pT M_368).find? (fun e => e.1 == 1206) = some (1206, .iload 4, 0, 0) := (sk_58 1206 rfl).trans rfl
theorem te_368_1208 : (pT M_368).find? (fun e => e.1 == 1208) = some (1208, .iconst 4, 0, 0) := (sk_58 1208 rfl).trans rfl
theorem te_368_1209 : (pT M_368).find? (fun e => e.1 == 1209) = some (1209, .iadd, 0, 0) := (sk_58 1209 rfl).trans rfl
theorem te_368_1210 : (pT M_368).find? (fun e => e.1 == 1210) = some (1210, .iaload, 0, 0) := (sk_58 1210 rfl).trans rfl
theorem te_368_1211 : (pT M_368).find? (fun e => e.1 == 1211) = some (1211, .invokevirtual 257, 308, 0) := (sk_58 1211 rfl).trans rfl
theorem te_368_1214 : (pT M_368).find? (fun e => e.1 == 1214) = some (1214, .istore 6, 0, 0) := (sk_58 1214 rfl).trans rfl
theorem te_368_1216 : (pT M_368).find? (fun e => e.1 == 1216) = some (1216, .goto 1128, 0, 0) := (sk_58 1216 rfl).trans rfl
theorem te_368_1219 : (pT M_368).find? (fun e => e.1 == 1219) = some (1219, .aload_n 1, 0, 0) := (sk_58 1219 rfl).trans rfl
theorem te_368_1220 : (pT M_368).find? (fun e => e.1 == 1220) = some (1220, .aload_n 0, 0, 0) := (sk_58 1220 rfl).trans rfl
theorem te_368_1221 : (pT M_368).find? (fun e => e.1 == 1221) = some (1221, .iload 4, 0, 0) := (sk_58 1221 rfl).trans rfl
theorem te_368_1223 : (pT M_368).find? (fun e => e.1 == 1223) = some (1223, .iconst 1, 0, 0) := (sk_59 1223 rfl).trans rfl
theorem te_368_1224 : (pT M_368).find? (fun e => e.1 == 1224) = some (1224, .iadd, 0, 0) := (sk_59 1224 rfl).trans rfl
theorem te_368_1225 : (pT M_368).find? (fun e => e.1 == 1225) = some (1225, .iaload, 0, 0) := (sk_59 1225 rfl).trans rfl
theorem te_368_1226 : (pT M_368).find? (fun e => e.1 == 1226) = some (1226, .aload_n 0, 0, 0) := (sk_59 1226 rfl).trans rfl
theorem te_368_1227 : (pT M_368).find? (fun e => e.1 == 1227) = some (1227, .iload 4, 0, 0) := (sk_59 1227 rfl).trans rfl
theorem te_368_1229 : (pT M_368).find? (fun e => e.1 == 1229) = some (1229, .iconst 2, 0, 0) := (sk_59 1229 rfl).trans rfl
theorem te_368_1230 : (pT M_368).find? (fun e => e.1 == 1230) = some (1230, .iadd, 0, 0) := (sk_59 1230 rfl).trans rfl
theorem te_368_1231 : (pT M_368).find? (fun e => e.1 == 1231) = some (1231, .iaload, 0, 0) := (sk_59 1231 rfl).trans rfl
theorem te_368_1232 : (pT M_368).find? (fun e => e.1 == 1232) = some (1232, .aload_n 0, 0, 0) := (sk_59 1232 rfl).trans rfl
theorem te_368_1233 : (pT M_368).find? (fun e => e.1 == 1233) = some (1233, .iload 4, 0, 0) := (sk_59 1233 rfl).trans rfl
theorem te_368_1235 : (pT M_368).find? (fun e => e.1 == 1235) = some (1235, .iconst 3, 0, 0) := (sk_59 1235 rfl).trans rfl
theorem te_368_1236 : (pT M_368).find? (fun e => e.1 == 1236) = some (1236, .iadd, 0, 0) := (sk_59 1236 rfl).trans rfl
theorem te_368_1237 : (pT M_368).find? (fun e => e.1 == 1237) = some (1237, .iaload, 0, 0) := (sk_60 1237 rfl).trans rfl
theorem te_368_1238 : (pT M_368).find? (fun e => e.1 == 1238) = some (1238, .aload_n 3, 0, 0) := (sk_60 1238 rfl).trans rfl
theorem te_368_1239 : (pT M_368).find? (fun e => e.1 == 1239) = some (1239, .invokestatic 258, 153, 8) := (sk_60 1239 rfl).trans rfl
theorem te_368_1242 : (pT M_368).find? (fun e => e.1 == 1242) = some (1242, .istore 5, 0, 0) := (sk_60 1242 rfl).trans rfl
theorem te_368_1244 : (pT M_368).find? (fun e => e.1 == 1244) = some (1244, .aload_n 2, 0, 0) := (sk_60 1244 rfl).trans rfl
theorem te_368_1245 : (pT M_368).find? (fun e => e.1 == 1245) = some (1245, .aload_n 0, 0, 0) := (sk_60 1245 rfl).trans rfl
theorem te_368_1246 : (pT M_368).find? (fun e => e.1 == 1246) = some (1246, .iload 4, 0, 0) := (sk_60 1246 rfl).trans rfl
theorem te_368_1248 : (pT M_368).find? (fun e => e.1 == 1248) = some (1248, .iconst 1, 0, 0) := (sk_60 1248 rfl).trans rfl
theorem te_368_1249 : (pT M_368).find? (fun e => e.1 == 1249) = some (1249, .iadd, 0, 0) := (sk_60 1249 rfl).trans rfl
theorem te_368_1250 : (pT M_368).find? (fun e => e.1 == 1250) = some (1250, .iaload, 0, 0) := (sk_60 1250 rfl).trans rfl
theorem te_368_1251 : (pT M_368).find? (fun e => e.1 == 1251) = some (1251, .aload_n 0, 0, 0) := (sk_60 1251 rfl).trans rfl
theorem te_368_1252 : (pT M_368).find? (fun e => e.1 == 1252) = some (1252, .iload 4, 0, 0) := (sk_60 1252 rfl).trans rfl
theorem te_368_1254 : (pT M_368).find? (fun e => e.1 == 1254) = some (1254, .iconst 2, 0, 0) := (sk_61 1254 rfl).trans rfl
theorem te_368_1255 : (pT M_368).find? (fun e => e.1 == 1255) = some (1255, .iadd, 0, 0) := (sk_61 1255 rfl).trans rfl
theorem te_368_1256 : (pT M_368).find? (fun e => e.1 == 1256) = some (1256, .iaload, 0, 0) := (sk_61 1256 rfl).trans rfl
theorem te_368_1257 : (pT M_368).find? (fun e => e.1 == 1257) = some (1257, .aload_n 0, 0, 0) := (sk_61 1257 rfl).trans rfl
theorem te_368_1258 : (pT M_368).find? (fun e => e.1 == 1258) = some (1258, .iload 4, 0, 0) := (sk_61 1258 rfl).trans rfl
theorem te_368_1260 : (pT M_368).find? (fun e => e.1 == 1260) = some (1260, .iconst 3, 0, 0) := (sk_61 1260 rfl).trans rfl
theorem te_368_1261 : (pT M_368).find? (fun e => e.1 == 1261) = some (1261, .iadd, 0, 0) := (sk_61 1261 rfl).trans rfl
theorem te_368_1262 : (pT M_368).find? (fun e => e.1 == 1262) = some (1262, .iaload, 0, 0) := (sk_61 1262 rfl).trans rfl
theorem te_368_1263 : (pT M_368).find? (fun e => e.1 == 1263) = some (1263, .invokevirtual 260, 310, 0) := (sk_61 1263 rfl).trans rfl
theorem te_368_1266 : (pT M_368).find? (fun e => e.1 == 1266) = some (1266, .istore 6, 0, 0) := (sk_61 1266 rfl).trans rfl
theorem te_368_1268 : (pT M_368).find? (fun e => e.1 == 1268) = some (1268, .goto 1076, 0, 0) := (sk_61 1268 rfl).trans rfl
theorem te_368_1271 : (pT M_368).find? (fun e => e.1 == 1271) = some (1271, .aload_n 1, 0, 0) := (sk_61 1271 rfl).trans rfl
theorem te_368_1272 : (pT M_368).find? (fun e => e.1 == 1272) = some (1272, .aload_n 0, 0, 0) := (sk_62 1272 rfl).trans rfl
theorem te_368_1273 : (pT M_368).find? (fun e => e.1 == 1273) = some (1273, .iload 4, 0, 0) := (sk_62 1273 rfl).trans rfl
theorem te_368_1275 : (pT M_368).find? (fun e => e.1 == 1275) = some (1275, .iconst 1, 0, 0) := (sk_62 1275 rfl).trans rfl
theorem te_368_1276 : (pT M_368).find? (fun e => e.1 == 1276) = some (1276, .iadd, 0, 0) := (sk_62 1276 rfl).trans rfl
theorem te_368_1277 : (pT M_368).find? (fun e => e.1 == 1277) = some (1277, .iaload, 0, 0) := (sk_62 1277 rfl).trans rfl
theorem te_368_1278 : (pT M_368).find? (fun e => e.1 == 1278) = some (1278, .aload_n 0, 0, 0) := (sk_62 1278 rfl).trans rfl
theorem te_368_1279 : (pT M_368).find? (fun e => e.1 == 1279) = some (1279, .iload 4, 0, 0) := (sk_62 1279 rfl).trans rfl
theorem te_368_1281 : (pT M_368).find? (fun e => e.1 == 1281) = some (1281, .iconst 2, 0, 0) := (sk_62 1281 rfl).trans rfl
theorem te_368_1282 : (pT M_368).find? (fun e => e.1 == 1282) = some (1282, .iadd, 0, 0) := (sk_62 1282 rfl).trans rfl
theorem te_368_1283 : (pT M_368).find? (fun e => e.1 == 1283) = some (1283, .iaload, 0, 0) := (sk_62 1283 rfl).trans rfl
theorem te_368_1284 : (pT M_368).find? (fun e => e.1 == 1284) = some (1284, .aload_n 0, 0, 0) := (sk_62 1284 rfl).trans rfl
theorem te_368_1285 : (pT M_368).find? (fun e => e.1 == 1285) = some (1285, .iload 4, 0, 0) := (sk_62 1285 rfl).trans rfl
theorem te_368_1287 : (pT M_368).find? (fun e => e.1 == 1287) = some (1287, .iconst 3, 0, 0) := (sk_63 1287 rfl).trans rfl
theorem te_368_1288 : (pT M_368).find? (fun e => e.1 == 1288) = some (1288, .iadd, 0, 0) := (sk_63 1288 rfl).trans rfl
theorem te_368_1289 : (pT M_368).find? (fun e => e.1 == 1289) = some (1289, .iaload, 0, 0) := (sk_63 1289 rfl).trans rfl
theorem te_368_1290 : (pT M_368).find? (fun e => e.1 == 1290) = some (1290, .aload_n 0, 0, 0) := (sk_63 1290 rfl).trans rfl
theorem te_368_1291 : (pT M_368).find? (fun e => e.1 == 1291) = some (1291, .iload 4, 0, 0) := (sk_63 1291 rfl).trans rfl
theorem te_368_1293 : (pT M_368).find? (fun e => e.1 == 1293) = some (1293, .iconst 4, 0, 0) := (sk_63 1293 rfl).trans rfl
theorem te_368_1294 : (pT M_368).find? (fun e => e.1 == 1294) = some (1294, .iadd, 0, 0) := (sk_63 1294 rfl).trans rfl
theorem te_368_1295 : (pT M_368).find? (fun e => e.1 == 1295) = some (1295, .iaload, 0, 0) := (sk_63 1295 rfl).trans rfl
theorem te_368_1296 : (pT M_368).find? (fun e => e.1 == 1296) = some (1296, .aload_n 3, 0, 0) := (sk_63 1296 rfl).trans rfl
theorem te_368_1297 : (pT M_368).find? (fun e => e.1 == 1297) = some (1297, .invokestatic 261, 158, 8) := (sk_63 1297 rfl).trans rfl
theorem te_368_1300 : (pT M_368).find? (fun e => e.1 == 1300) = some (1300, .istore 5, 0, 0) := (sk_63 1300 rfl).trans rfl
theorem te_368_1302 : (pT M_368).find? (fun e => e.1 == 1302) = some (1302, .aload_n 2, 0, 0) := (sk_63 1302 rfl).trans rfl
theorem te_368_1303 : (pT M_368).find? (fun e => e.1 == 1303) = some (1303, .aload_n 0, 0, 0) := (sk_64 1303 rfl).trans rfl
theorem te_368_1304 : (pT M_368).find? (fun e => e.1 == 1304) = some (1304, .iload 4, 0, 0) := (sk_64 1304 rfl).trans rfl
theorem te_368_1306 : (pT M_368).find? (fun e => e.1 == 1306) = some (1306, .iconst 1, 0, 0) := (sk_64 1306 rfl).trans rfl
theorem te_368_1307 : (pT M_368).find? (fun e => e.1 == 1307) = some (1307, .iadd, 0, 0) := (sk_64 1307 rfl).trans rfl
theorem te_368_1308 : (pT M_368).find? (fun e => e.1 == 1308) = some (1308, .iaload, 0, 0) := (sk_64 1308 rfl).trans rfl
theorem te_368_1309 : (pT M_368).find? (fun e => e.1 == 1309) = some (1309, .aload_n 0, 0, 0) := (sk_64 1309 rfl).trans rfl
theorem te_368_1310 : (pT M_368).find? (fun e => e.1 == 1310) = some (1310, .iload 4, 0, 0) := (sk_64 1310 rfl).trans rfl
theorem te_368_1312 : (pT M_368).find? (fun e => e.1 == 1312) = some (1312, .iconst 2, 0, 0) := (sk_64 1312 rfl).trans rfl
theorem te_368_1313 : (pT M_368).find? (fun e => e.1 == 1313) = some (1313, .iadd, 0, 0) := (sk_64 1313 rfl).trans rfl
theorem te_368_1314 : (pT M_368).find? (fun e => e.1 == 1314) = some (1314, .iaload, 0, 0) := (sk_64 1314 rfl).trans rfl
theorem te_368_1315 : (pT M_368).find? (fun e => e.1 == 1315) = some (1315, .aload_n 0, 0, 0) := (sk_64 1315 rfl).trans rfl
theorem te_368_1316 : (pT M_368).find? (fun e => e.1 == 1316) = some (1316, .iload 4, 0, 0) := (sk_64 1316 rfl).trans rfl
theorem te_368_1318 : (pT M_368).find? (fun e => e.1 == 1318) = some (1318, .iconst 3, 0, 0) := (sk_65 1318 rfl).trans rfl
theorem te_368_1319 : (pT M_368).find? (fun e => e.1 == 1319) = some (1319, .iadd, 0, 0) := (sk_65 1319 rfl).trans rfl
theorem te_368_1320 : (pT M_368).find? (fun e => e.1 == 1320) = some (1320, .iaload, 0, 0) := (sk_65 1320 rfl).trans rfl
theorem te_368_1321 : (pT M_368).find? (fun e => e.1 == 1321) = some (1321, .aload_n 0, 0, 0) := (sk_65 1321 rfl).trans rfl
theorem te_368_1322 : (pT M_368).find? (fun e => e.1 == 1322) = some (1322, .iload 4, 0, 0) := (sk_65 1322 rfl).trans rfl
theorem te_368_1324 : (pT M_368).find? (fun e => e.1 == 1324) = some (1324, .iconst 4, 0, 0) := (sk_65 1324 rfl).trans rfl
theorem te_368_1325 : (pT M_368).find? (fun e => e.1 == 1325) = some (1325, .iadd, 0, 0) := (sk_65 1325 rfl).trans rfl
theorem te_368_1326 : (pT M_368).find? (fun e => e.1 == 1326) = some (1326, .iaload, 0, 0) := (sk_65 1326 rfl).trans rfl
theorem te_368_1327 : (pT M_368).find? (fun e => e.1 == 1327) = some (1327, .invokevirtual 263, 315, 0) := (sk_65 1327 rfl).trans rfl
theorem te_368_1330 : (pT M_368).find? (fun e => e.1 == 1330) = some (1330, .istore 6, 0, 0) := (sk_65 1330 rfl).trans rfl
theorem te_368_1332 : (pT M_368).find? (fun e => e.1 == 1332) = some (1332, .goto 1012, 0, 0) := (sk_65 1332 rfl).trans rfl
theorem te_368_1415 : (pT M_368).find? (fun e => e.1 == 1415) = some (1415, .aload_n 1, 0, 0) := (sk_70 1415 rfl).trans rfl
theorem te_368_1416 : (pT M_368).find? (fun e => e.1 == 1416) = some (1416, .aload_n 0, 0, 0) := (sk_70 1416 rfl).trans rfl
theorem te_368_1417 : (pT M_368).find? (fun e => e.1 == 1417) = some (1417, .iload 4, 0, 0) := (sk_70 1417 rfl).trans rfl
theorem te_368_1419 : (pT M_368).find? (fun e => e.1 == 1419) = some (1419, .iconst 1, 0, 0) := (sk_70 1419 rfl).trans rfl
theorem te_368_1420 : (pT M_368).find? (fun e => e.1 == 1420) = some (1420, .iadd, 0, 0) := (sk_70 1420 rfl).trans rfl
theorem te_368_1421 : (pT M_368).find? (fun e => e.1 == 1421) = some (1421, .iaload, 0, 0) := (sk_70 1421 rfl).trans rfl
theorem te_368_1422 : (pT M_368).find? (fun e => e.1 == 1422) = some (1422, .aload_n 0, 0, 0) := (sk_71 1422 rfl).trans rfl
theorem te_368_1423 : (pT M_368).find? (fun e => e.1 == 1423) = some (1423, .iload 4, 0, 0) := (sk_71 1423 rfl).trans rfl
theorem te_368_1425 : (pT M_368).find? (fun e => e.1 == 1425) = some (1425, .iconst 2, 0, 0) := (sk_71 1425 rfl).trans rfl
theorem te_368_1426 : (pT M_368).find? (fun e => e.1 == 1426) = some (1426, .iadd, 0, 0) := (sk_71 1426 rfl).trans rfl
theorem te_368_1427 : (pT M_368).find? (fun e => e.1 == 1427) = some (1427, .iaload, 0, 0) := (sk_71 1427 rfl).trans rfl
theorem te_368_1428 : (pT M_368).find? (fun e => e.1 == 1428) = some (1428, .aload_n 0, 0, 0) := (sk_71 1428 rfl).trans rfl
theorem te_368_1429 : (pT M_368).find? (fun e => e.1 == 1429) = some (1429, .iload 4, 0, 0) := (sk_71 1429 rfl).trans rfl
theorem te_368_1431 : (pT M_368).find? (fun e => e.1 == 1431) = some (1431, .iconst 3, 0, 0) := (sk_71 1431 rfl).trans rfl
theorem te_368_1432 : (pT M_368).find? (fun e => e.1 == 1432) = some (1432, .iadd, 0, 0) := (sk_71 1432 rfl).trans rfl
theorem te_368_1433 : (pT M_368).find? (fun e => e.1 == 1433) = some (1433, .iaload, 0, 0) := (sk_71 1433 rfl).trans rfl
theorem te_368_1434 : (pT M_368).find? (fun e => e.1 == 1434) = some (1434, .aload_n 3, 0, 0) := (sk_71 1434 rfl).trans rfl
theorem te_368_1435 : (pT M_368).find? (fun e => e.1 == 1435) = some (1435, .invokestatic 270, 168, 8) := (sk_71 1435 rfl).trans rfl
theorem te_368_1438 : (pT M_368).find? (fun e => e.1 == 1438) = some (1438, .istore 5, 0, 0) := (sk_72 1438 rfl).trans rfl
theorem te_368_1440 : (pT M_368).find? (fun e => e.1 == 1440) = some (1440, .aload_n 2, 0, 0) := (sk_72 1440 rfl).trans rfl
theorem te_368_1441 : (pT M_368).find? (fun e => e.1 == 1441) = some (1441, .aload_n 0, 0, 0) := (sk_72 1441 rfl).trans rfl
theorem te_368_1442 : (pT M_368).find? (fun e => e.1 == 1442) = some (1442, .iload 4, 0, 0) := (sk_72 1442 rfl).trans rfl
theorem te_368_1444 : (pT M_368).find? (fun e => e.1 == 1444) = some (1444, .iconst 1, 0, 0) := (sk_72 1444 rfl).trans rfl
theorem te_368_1445 : (pT M_368).find? (fun e => e.1 == 1445) = some (1445, .iadd, 0, 0) := (sk_72 1445 rfl).trans rfl
theorem te_368_1446 : (pT M_368).find? (fun e => e.1 == 1446) = some (1446, .iaload, 0, 0) := (sk_72 1446 rfl).trans rfl
theorem te_368_1447 : (pT M_368).find? (fun e => e.1 == 1447) = some (1447, .aload_n 0, 0, 0) := (sk_72 1447 rfl).trans rfl
theorem te_368_1448 : (pT M_368).find? (fun e => e.1 == 1448) = some (1448, .iload 4, 0, 0) := (sk_72 1448 rfl).trans rfl
theorem te_368_1450 : (pT M_368).find? (fun e => e.1 == 1450) = some (1450, .iconst 2, 0, 0) := (sk_72 1450 rfl).trans rfl
theorem te_368_1451 : (pT M_368).find? (fun e => e.1 == 1451) = some (1451, .iadd, 0, 0) := (sk_72 1451 rfl).trans rfl
theorem te_368_1452 : (pT M_368).find? (fun e => e.1 == 1452) = some (1452, .iaload, 0, 0) := (sk_72 1452 rfl).trans rfl
theorem te_368_1453 : (pT M_368).find? (fun e => e.1 == 1453) = some (1453, .aload_n 0, 0, 0) := (sk_73 1453 rfl).trans rfl
theorem te_368_1454 : (pT M_368).find? (fun e => e.1 == 1454) = some (1454, .iload 4, 0, 0) := (sk_73 1454 rfl).trans rfl
theorem te_368_1456 : (pT M_368).find? (fun e => e.1 == 1456) = some (1456, .iconst 3, 0, 0) := (sk_73 1456 rfl).trans rfl
theorem te_368_1457 : (pT M_368).find? (fun e => e.1 == 1457) = some (1457, .iadd, 0, 0) := (sk_73 1457 rfl).trans rfl
theorem te_368_1458 : (pT M_368).find? (fun e => e.1 == 1458) = some (1458, .iaload, 0, 0) := (sk_73 1458 rfl).trans rfl
theorem te_368_1459 : (pT M_368).find? (fun e => e.1 == 1459) = some (1459, .invokevirtual 272, 327, 0) := (sk_73 1459 rfl).trans rfl
theorem te_368_1462 : (pT M_368).find? (fun e => e.1 == 1462) = some (1462, .istore 6, 0, 0) := (sk_73 1462 rfl).trans rfl
theorem te_368_1464 : (pT M_368).find? (fun e => e.1 == 1464) = some (1464, .goto 880, 0, 0) := (sk_73 1464 rfl).trans rfl
theorem te_368_1467 : (pT M_368).find? (fun e => e.1 == 1467) = some (1467, .aload_n 1, 0, 0) := (sk_73 1467 rfl).trans rfl
theorem te_368_1468 : (pT M_368).find? (fun e => e.1 == 1468) = some (1468, .aload_n 0, 0, 0) := (sk_73 1468 rfl).trans rfl
theorem te_368_1469 : (pT M_368).find? (fun e => e.1 == 1469) = some (1469, .iload 4, 0, 0) := (sk_73 1469 rfl).trans rfl
theorem te_368_1471 : (pT M_368).find? (fun e => e.1 == 1471) = some (1471, .iconst 1, 0, 0) := (sk_73 1471 rfl).trans rfl
theorem te_368_1472 : (pT M_368).find? (fun e => e.1 == 1472) = some (1472, .iadd, 0, 0) := (sk_74 1472 rfl).trans rfl
theorem te_368_1473 : (pT M_368).find? (fun e => e.1 == 1473) = some (1473, .iaload, 0, 0) := (sk_74 1473 rfl).trans rfl
theorem te_368_1474 : (pT M_368).find? (fun e => e.1 == 1474) = some (1474, .aload_n 0, 0, 0) := (sk_74 1474 rfl).trans rfl
theorem te_368_1475 : (pT M_368).find? (fun e => e.1 == 1475) = some (1475, .iload 4, 0, 0) := (sk_74 1475 rfl).trans rfl
theorem te_368_1477 : (pT M_368).find? (fun e => e.1 == 1477) = some (1477, .iconst 2, 0, 0) := (sk_74 1477 rfl).trans rfl
theorem te_368_1478 : (pT M_368).find? (fun e => e.1 == 1478) = some (1478, .iadd, 0, 0) := (sk_74 1478 rfl).trans rfl
theorem te_368_1479 : (pT M_368).find? (fun e => e.1 == 1479) = some (1479, .iaload, 0, 0) := (sk_74 1479 rfl).trans rfl
theorem te_368_1480 : (pT M_368).find? (fun e => e.1 == 1480) = some (1480, .aload_n 0, 0, 0) := (sk_74 1480 rfl).trans rfl
theorem te_368_1481 : (pT M_368).find? (fun e => e.1 == 1481) = some (1481, .iload 4, 0, 0) := (sk_74 1481 rfl).trans rfl
theorem te_368_1483 : (pT M_368).find? (fun e => e.1 == 1483) = some (1483, .iconst 3, 0, 0) := (sk_74 1483 rfl).trans rfl
theorem te_368_1484 : (pT M_368).find? (fun e => e.1 == 1484) = some (1484, .iadd, 0, 0) := (sk_74 1484 rfl).trans rfl
theorem te_368_1485 : (pT M_368).find? (fun e => e.1 == 1485) = some (1485, .iaload, 0, 0) := (sk_74 1485 rfl).trans rfl
theorem te_368_1486 : (pT M_368).find? (fun e => e.1 == 1486) = some (1486, .aload_n 0, 0, 0) := (sk_75 1486 rfl).trans rfl
theorem te_368_1487 : (pT M_368).find? (fun e => e.1 == 1487) = some (1487, .iload 4, 0, 0) := (sk_75 1487 rfl).trans rfl
theorem te_368_1489 : (pT M_368).find? (fun e => e.1 == 1489) = some (1489, .iconst 4, 0, 0) := (sk_75 1489 rfl).trans rfl
theorem te_368_1490 : (pT M_368).find? (fun e => e.1 == 1490) = some (1490, .iadd, 0, 0) := (sk_75 1490 rfl).trans rfl
theorem te_368_1491 : (pT M_368).find? (fun e => e.1 == 1491) = some (1491, .iaload, 0, 0) := (sk_75 1491 rfl).trans rfl
theorem te_368_1492 : (pT M_368).find? (fun e => e.1 == 1492) = some (1492, .aload_n 3, 0, 0) := (sk_75 1492 rfl).trans rfl
theorem te_368_1493 : (pT M_368).find? (fun e => e.1 == 1493) = some (1493, .invokestatic 273, 170, 8) := (sk_75 1493 rfl).trans rfl
theorem te_368_1496 : (pT M_368).find? (fun e => e.1 == 1496) = some (1496, .istore 5, 0, 0) := (sk_75 1496 rfl).trans rfl
theorem te_368_1498 : (pT M_368).find? (fun e => e.1 == 1498) = some (1498, .aload_n 2, 0, 0) := (sk_75 1498 rfl).trans rfl
theorem te_368_1499 : (pT M_368).find? (fun e => e.1 == 1499) = some (1499, .aload_n 0, 0, 0) := (sk_75 1499 rfl).trans rfl
theorem te_368_1500 : (pT M_368).find? (fun e => e.1 == 1500) = some (1500, .iload 4, 0, 0) := (sk_75 1500 rfl).trans rfl
theorem te_368_1502 : (pT M_368).find? (fun e => e.1 == 1502) = some (1502, .iconst 1, 0, 0) := (sk_75 1502 rfl).trans rfl
theorem te_368_1503 : (pT M_368).find? (fun e => e.1 == 1503) = some (1503, .iadd, 0, 0) := (sk_76 1503 rfl).trans rfl
theorem te_368_1504 : (pT M_368).find? (fun e => e.1 == 1504) = some (1504, .iaload, 0, 0) := (sk_76 1504 rfl).trans rfl
theorem te_368_1505 : (pT M_368).find? (fun e => e.1 == 1505) = some (1505, .aload_n 0, 0, 0) := (sk_76 1505 rfl).trans rfl
theorem te_368_1506 : (pT M_368).find? (fun e => e.1 == 1506) = some (1506, .iload 4, 0, 0) := (sk_76 1506 rfl).trans rfl
theorem te_368_1508 : (pT M_368).find? (fun e => e.1 == 1508) = some (1508, .iconst 2, 0, 0) := (sk_76 1508 rfl).trans rfl
theorem te_368_1509 : (pT M_368).find? (fun e => e.1 == 1509) = some (1509, .iadd, 0, 0) := (sk_76 1509 rfl).trans rfl
theorem te_368_1510 : (pT M_368).find? (fun e => e.1 == 1510) = some (1510, .iaload, 0, 0) := (sk_76 1510 rfl).trans rfl
theorem te_368_1511 : (pT M_368).find? (fun e => e.1 == 1511) = some (1511, .aload_n 0, 0, 0) := (sk_76 1511 rfl).trans rfl
theorem te_368_1512 : (pT M_368).find? (fun e => e.1 == 1512) = some (1512, .iload 4, 0, 0) := (sk_76 1512 rfl).trans rfl
theorem te_368_1514 : (pT M_368).find? (fun e => e.1 == 1514) = some (1514, .iconst 3, 0, 0) := (sk_76 1514 rfl).trans rfl
theorem te_368_1515 : (pT M_368).find? (fun e => e.1 == 1515) = some (1515, .iadd, 0, 0) := (sk_76 1515 rfl).trans rfl
theorem te_368_1516 : (pT M_368).find? (fun e => e.1 == 1516) = some (1516, .iaload, 0, 0) := (sk_76 1516 rfl).trans rfl
theorem te_368_1517 : (pT M_368).find? (fun e => e.1 == 1517) = some (1517, .aload_n 0, 0, 0) := (sk_77 1517 rfl).trans rfl
theorem te_368_1518 : (pT M_368).find? (fun e => e.1 == 1518) = some (1518, .iload 4, 0, 0) := (sk_77 1518 rfl).trans rfl
theorem te_368_1520 : (pT M_368).find? (fun e => e.1 == 1520) = some (1520, .iconst 4, 0, 0) := (sk_77 1520 rfl).trans rfl
theorem te_368_1521 : (pT M_368).find? (fun e => e.1 == 1521) = some (1521, .iadd, 0, 0) := (sk_77 1521 rfl).trans rfl
theorem te_368_1522 : (pT M_368).find? (fun e => e.1 == 1522) = some (1522, .iaload, 0, 0) := (sk_77 1522 rfl).trans rfl
theorem te_368_1523 : (pT M_368).find? (fun e => e.1 == 1523) = some (1523, .invokevirtual 275, 331, 0) := (sk_77 1523 rfl).trans rfl
theorem te_368_1526 : (pT M_368).find? (fun e => e.1 == 1526) = some (1526, .istore 6, 0, 0) := (sk_77 1526 rfl).trans rfl
theorem te_368_1528 : (pT M_368).find? (fun e => e.1 == 1528) = some (1528, .goto 816, 0, 0) := (sk_77 1528 rfl).trans rfl
theorem te_368_1531 : (pT M_368).find? (fun e => e.1 == 1531) = some (1531, .aload_n 1, 0, 0) := (sk_77 1531 rfl).trans rfl
theorem te_368_1532 : (pT M_368).find? (fun e => e.1 == 1532) = some (1532, .aload_n 0, 0, 0) := (sk_77 1532 rfl).trans rfl
theorem te_368_1533 : (pT M_368).find? (fun e => e.1 == 1533) = some (1533, .iload 4, 0, 0) := (sk_77 1533 rfl).trans rfl
theorem te_368_1535 : (pT M_368).find? (fun e => e.1 == 1535) = some (1535, .iconst 1, 0, 0) := (sk_77 1535 rfl).trans rfl
theorem te_368_1536 : (pT M_368).find? (fun e => e.1 == 1536) = some (1536, .iadd, 0, 0) := (sk_78 1536 rfl).trans rfl
theorem te_368_1537 : (pT M_368).find? (fun e => e.1 == 1537) = some (1537, .iaload, 0, 0) := (sk_78 1537 rfl).trans rfl
theorem te_368_1538 : (pT M_368).find? (fun e => e.1 == 1538) = some (1538, .aload_n 0, 0, 0) := (sk_78 1538 rfl).trans rfl
theorem te_368_1539 : (pT M_368).find? (fun e => e.1 == 1539) = some (1539, .iload 4, 0, 0) := (sk_78 1539 rfl).trans rfl
theorem te_368_1541 : (pT M_368).find? (fun e => e.1 == 1541) = some (1541, .iconst 2, 0, 0) := (sk_78 1541 rfl).trans rfl
theorem te_368_1542 : (pT M_368).find? (fun e => e.1 == 1542) = some (1542, .iadd, 0, 0) := (sk_78 1542 rfl).trans rfl
theorem te_368_1543 : (pT M_368).find? (fun e => e.1 == 1543) = some (1543, .iaload, 0, 0) := (sk_78 1543 rfl).trans rfl
theorem te_368_1544 : (pT M_368).find? (fun e => e.1 == 1544) = some (1544, .ifCond .eq 7, 0, 0) := (sk_78 1544 rfl).trans rfl
theorem te_368_1547 : (pT M_368).find? (fun e => e.1 == 1547) = some (1547, .iconst 1, 0, 0) := (sk_78 1547 rfl).trans rfl
theorem te_368_1548 : (pT M_368).find? (fun e => e.1 == 1548) = some (1548, .goto 4, 0, 0) := (sk_78 1548 rfl).trans rfl
theorem te_368_1551 : (pT M_368).find? (fun e => e.1 == 1551) = some (1551, .iconst 0, 0, 0) := (sk_78 1551 rfl).trans rfl
theorem te_368_1552 : (pT M_368).find? (fun e => e.1 == 1552) = some (1552, .aload_n 3, 0, 0) := (sk_78 1552 rfl).trans rfl
theorem te_368_1553 : (pT M_368).find? (fun e => e.1 == 1553) = some (1553, .invokestatic 276, 172, 8) := (sk_79 1553 rfl).trans rfl
theorem te_368_1556 : (pT M_368).find? (fun e => e.1 == 1556) = some (1556, .istore 5, 0, 0) := (sk_79 1556 rfl).trans rfl
theorem te_368_1558 : (pT M_368).find? (fun e => e.1 == 1558) = some (1558, .aload_n 2, 0, 0) := (sk_79 1558 rfl).trans rfl
theorem te_368_1559 : (pT M_368).find? (fun e => e.1 == 1559) = some (1559, .aload_n 0, 0, 0) := (sk_79 1559 rfl).trans rfl
theorem te_368_1560 : (pT M_368).find? (fun e => e.1 == 1560) = some (1560, .iload 4, 0, 0) := (sk_79 1560 rfl).trans rfl
theorem te_368_1562 : (pT M_368).find? (fun e => e.1 == 1562) = some (1562, .iconst 1, 0, 0) := (sk_79 1562 rfl).trans rfl
theorem te_368_1563 : (pT M_368).find? (fun e => e.1 == 1563) = some (1563, .iadd, 0, 0) := (sk_79 1563 rfl).trans rfl
theorem te_368_1564 : (pT M_368).find? (fun e => e.1 == 1564) = some (1564, .iaload, 0, 0) := (sk_79 1564 rfl).trans rfl
theorem te_368_1565 : (pT M_368).find? (fun e => e.1 == 1565) = some (1565, .aload_n 0, 0, 0) := (sk_79 1565 rfl).trans rfl
theorem te_368_1566 : (pT M_368).find? (fun e => e.1 == 1566) = some (1566, .iload 4, 0, 0) := (sk_79 1566 rfl).trans rfl
theorem te_368_1568 : (pT M_368).find? (fun e => e.1 == 1568) = some (1568, .iconst 2, 0, 0) := (sk_79 1568 rfl).trans rfl
theorem te_368_1569 : (pT M_368).find? (fun e => e.1 == 1569) = some (1569, .iadd, 0, 0) := (sk_79 1569 rfl).trans rfl
theorem te_368_1570 : (pT M_368).find? (fun e => e.1 == 1570) = some (1570, .iaload, 0, 0) := (sk_80 1570 rfl).trans rfl
theorem te_368_1571 : (pT M_368).find? (fun e => e.1 == 1571) = some (1571, .ifCond .eq 7, 0, 0) := (sk_80 1571 rfl).trans rfl
theorem te_368_1574 : (pT M_368).find? (fun e => e.1 == 1574) = some (1574, .iconst 1, 0, 0) := (sk_80 1574 rfl).trans rfl
theorem te_368_1575 : (pT M_368).find? (fun e => e.1 == 1575) = some (1575, .goto 4, 0, 0) := (sk_80 1575 rfl).trans rfl
theorem te_368_1578 : (pT M_368).find? (fun e => e.1 == 1578) = some (1578, .iconst 0, 0, 0) := (sk_80 1578 rfl).trans rfl
theorem te_368_1579 : (pT M_368).find? (fun e => e.1 == 1579) = some (1579, .invokevirtual 279, 332, 0) := (sk_80 1579 rfl).trans rfl
theorem te_368_1582 : (pT M_368).find? (fun e => e.1 == 1582) = some (1582, .istore 6, 0, 0) := (sk_80 1582 rfl).trans rfl
theorem te_368_1584 : (pT M_368).find? (fun e => e.1 == 1584) = some (1584, .goto 760, 0, 0) := (sk_80 1584 rfl).trans rfl
theorem te_368_1587 : (pT M_368).find? (fun e => e.1 == 1587) = some (1587, .aload_n 1, 0, 0) := (sk_80 1587 rfl).trans rfl
theorem te_368_1588 : (pT M_368).find? (fun e => e.1 == 1588) = some (1588, .aload_n 0, 0, 0) := (sk_80 1588 rfl).trans rfl
theorem te_368_1589 : (pT M_368).find? (fun e => e.1 == 1589) = some (1589, .iload 4, 0, 0) := (sk_80 1589 rfl).trans rfl
theorem te_368_1591 : (pT M_368).find? (fun e => e.1 == 1591) = some (1591, .iconst 1, 0, 0) := (sk_80 1591 rfl).trans rfl
theorem te_368_1592 : (pT M_368).find? (fun e => e.1 == 1592) = some (1592, .iadd, 0, 0) := (sk_81 1592 rfl).trans rfl
theorem te_368_1593 : (pT M_368).find? (fun e => e.1 == 1593) = some (1593, .iaload, 0, 0) := (sk_81 1593 rfl).trans rfl
theorem te_368_1594 : (pT M_368).find? (fun e => e.1 == 1594) = some (1594, .aload_n 0, 0, 0) := (sk_81 1594 rfl).trans rfl
theorem te_368_1595 : (pT M_368).find? (fun e => e.1 == 1595) = some (1595, .iload 4, 0, 0) := (sk_81 1595 rfl).trans rfl
theorem te_368_1597 : (pT M_368).find? (fun e => e.1 == 1597) = some (1597, .iconst 2, 0, 0) := (sk_81 1597 rfl).trans rfl
theorem te_368_1598 : (pT M_368).find? (fun e => e.1 == 1598) = some (1598, .iadd, 0, 0) := (sk_81 1598 rfl).trans rfl
theorem te_368_1599 : (pT M_368).find? (fun e => e.1 == 1599) = some (1599, .iaload, 0, 0) := (sk_81 1599 rfl).trans rfl
theorem te_368_1600 : (pT M_368).find? (fun e => e.1 == 1600) = some (1600, .aload_n 0, 0, 0) := (sk_81 1600 rfl).trans rfl
theorem te_368_1601 : (pT M_368).find? (fun e => e.1 == 1601) = some (1601, .iload 4, 0, 0) := (sk_81 1601 rfl).trans rfl
theorem te_368_1603 : (pT M_368).find? (fun e => e.1 == 1603) = some (1603, .iconst 3, 0, 0) := (sk_81 1603 rfl).trans rfl
theorem te_368_1604 : (pT M_368).find? (fun e => e.1 == 1604) = some (1604, .iadd, 0, 0) := (sk_81 1604 rfl).trans rfl
theorem te_368_1605 : (pT M_368).find? (fun e => e.1 == 1605) = some (1605, .iaload, 0, 0) := (sk_81 1605 rfl).trans rfl
theorem te_368_1606 : (pT M_368).find? (fun e => e.1 == 1606) = some (1606, .ifCond .eq 7, 0, 0) := (sk_82 1606 rfl).trans rfl
theorem te_368_1609 : (pT M_368).find? (fun e => e.1 == 1609) = some (1609, .iconst 1, 0, 0) := (sk_82 1609 rfl).trans rfl
theorem te_368_1610 : (pT M_368).find? (fun e => e.1 == 1610) = some (1610, .goto 4, 0, 0) := (sk_82 1610 rfl).trans rfl
theorem te_368_1613 : (pT M_368).find? (fun e => e.1 == 1613) = some (1613, .iconst 0, 0, 0) := (sk_82 1613 rfl).trans rfl
theorem te_368_1614 : (pT M_368).find? (fun e => e.1 == 1614) = some (1614, .aload_n 3, 0, 0) := (sk_82 1614 rfl).trans rfl
theorem te_368_1615 : (pT M_368).find? (fun e => e.1 == 1615) = some (1615, .invokestatic 280, 174, 8) := (sk_82 1615 rfl).trans rfl
theorem te_368_1618 : (pT M_368).find? (fun e => e.1 == 1618) = some (1618, .istore 5, 0, 0) := (sk_82 1618 rfl).trans rfl
theorem te_368_1620 : (pT M_368).find? (fun e => e.1 == 1620) = some (1620, .aload_n 2, 0, 0) := (sk_82 1620 rfl).trans rfl
theorem te_368_1621 : (pT M_368).find? (fun e => e.1 == 1621) = some (1621, .aload_n 0, 0, 0) := (sk_82 1621 rfl).trans rfl
theorem te_368_1622 : (pT M_368).find? (fun e => e.1 == 1622) = some (1622, .iload 4, 0, 0) := (sk_82 1622 rfl).trans rfl
theorem te_368_1624 : (pT M_368).find? (fun e => e.1 == 1624) = some (1624, .iconst 1, 0, 0) := (sk_82 1624 rfl).trans rfl
theorem te_368_1625 : (pT M_368).find? (fun e => e.1 == 1625) = some (1625, .iadd, 0, 0) := (sk_82 1625 rfl).trans rfl
theorem te_368_1626 : (pT M_368).find? (fun e => e.1 == 1626) = some (1626, .iaload, 0, 0) := (sk_83 1626 rfl).trans rfl
theorem te_368_1627 : (pT M_368).find? (fun e => e.1 == 1627) = some (1627, .aload_n 0, 0, 0) := (sk_83 1627 rfl).trans rfl
theorem te_368_1628 : (pT M_368).find? (fun e => e.1 == 1628) = some (1628, .iload 4, 0, 0) := (sk_83 1628 rfl).trans rfl
theorem te_368_1630 : (pT M_368).find? (fun e => e.1 == 1630) = some (1630, .iconst 2, 0, 0) := (sk_83 1630 rfl).trans rfl
theorem te_368_1631 : (pT M_368).find? (fun e => e.1 == 1631) = some (1631, .iadd, 0, 0) := (sk_83 1631 rfl).trans rfl
theorem te_368_1632 : (pT M_368).find? (fun e => e.1 == 1632) = some (1632, .iaload, 0, 0) := (sk_83 1632 rfl).trans rfl
theorem te_368_1633 : (pT M_368).find? (fun e => e.1 == 1633) = some (1633, .aload_n 0, 0, 0) := (sk_83 1633 rfl).trans rfl
theorem te_368_1634 : (pT M_368).find? (fun e => e.1 == 1634) = some (1634, .iload 4, 0, 0) := (sk_83 1634 rfl).trans rfl
theorem te_368_1636 : (pT M_368).find? (fun e => e.1 == 1636) = some (1636, .iconst 3, 0, 0) := (sk_83 1636 rfl).trans rfl
theorem te_368_1637 : (pT M_368).find? (fun e => e.1 == 1637) = some (1637, .iadd, 0, 0) := (sk_83 1637 rfl).trans rfl
theorem te_368_1638 : (pT M_368).find? (fun e => e.1 == 1638) = some (1638, .iaload, 0, 0) := (sk_83 1638 rfl).trans rfl
theorem te_368_1639 : (pT M_368).find? (fun e => e.1 == 1639) = some (1639, .ifCond .eq 7, 0, 0) := (sk_83 1639 rfl).trans rfl
theorem te_368_1642 : (pT M_368).find? (fun e => e.1 == 1642) = some (1642, .iconst 1, 0, 0) := (sk_84 1642 rfl).trans rfl
theorem te_368_1643 : (pT M_368).find? (fun e => e.1 == 1643) = some (1643, .goto 4, 0, 0) := (sk_84 1643 rfl).trans rfl
theorem te_368_1646 : (pT M_368).find? (fun e => e.1 == 1646) = some (1646, .iconst 0, 0, 0) := (sk_84 1646 rfl).trans rfl
theorem te_368_1647 : (pT M_368).find? (fun e => e.1 == 1647) = some (1647, .invokevirtual 283, 333, 0) := (sk_84 1647 rfl).trans rfl
theorem te_368_1650 : (pT M_368).find? (fun e => e.1 == 1650) = some (1650, .istore 6, 0, 0) := (sk_84 1650 rfl).trans rfl
theorem te_368_1652 : (pT M_368).find? (fun e => e.1 == 1652) = some (1652, .goto 692, 0, 0) := (sk_84 1652 rfl).trans rfl
theorem te_368_1655 : (pT M_368).find? (fun e => e.1 == 1655) = some (1655, .aload_n 1, 0, 0) := (sk_84 1655 rfl).trans rfl
theorem te_368_1656 : (pT M_368).find? (fun e => e.1 == 1656) = some (1656, .aload_n 0, 0, 0) := (sk_84 1656 rfl).trans rfl
theorem te_368_1657 : (pT M_368).find? (fun e => e.1 == 1657) = some (1657, .iload 4, 0, 0) := (sk_84 1657 rfl).trans rfl
theorem te_368_1659 : (pT M_368).find? (fun e => e.1 == 1659) = some (1659, .iconst 1, 0, 0) := (sk_84 1659 rfl).trans rfl
theorem te_368_1660 : (pT M_368).find? (fun e => e.1 == 1660) = some (1660, .iadd, 0, 0) := (sk_84 1660 rfl).trans rfl
theorem te_368_1661 : (pT M_368).find? (fun e => e.1 == 1661) = some (1661, .iaload, 0, 0) := (sk_84 1661 rfl).trans rfl
theorem te_368_1662 : (pT M_368).find? (fun e => e.1 == 1662) = some (1662, .aload_n 3, 0, 0) := (sk_85 1662 rfl).trans rfl
theorem te_368_1663 : (pT M_368).find? (fun e => e.1 == 1663) = some (1663, .invokestatic 284, 177, 8) := (sk_85 1663 rfl).trans rfl
theorem te_368_1666 : (pT M_368).find? (fun e => e.1 == 1666) = some (1666, .istore 5, 0, 0) := (sk_85 1666 rfl).trans rfl
theorem te_368_1668 : (pT M_368).find? (fun e => e.1 == 1668) = some (1668, .aload_n 2, 0, 0) := (sk_85 1668 rfl).trans rfl
theorem te_368_1669 : (pT M_368).find? (fun e => e.1 == 1669) = some (1669, .aload_n 0, 0, 0) := (sk_85 1669 rfl).trans rfl
theorem te_368_1670 : (pT M_368).find? (fun e => e.1 == 1670) = some (1670, .iload 4, 0, 0) := (sk_85 1670 rfl).trans rfl
theorem te_368_1672 : (pT M_368).find? (fun e => e.1 == 1672) = some (1672, .iconst 1, 0, 0) := (sk_85 1672 rfl).trans rfl
theorem te_368_1673 : (pT M_368).find? (fun e => e.1 == 1673) = some (1673, .iadd, 0, 0) := (sk_85 1673 rfl).trans rfl
theorem te_368_1674 : (pT M_368).find? (fun e => e.1 == 1674) = some (1674, .iaload, 0, 0) := (sk_85 1674 rfl).trans rfl
theorem te_368_1675 : (pT M_368).find? (fun e => e.1 == 1675) = some (1675, .invokevirtual 286, 337, 0) := (sk_85 1675 rfl).trans rfl
theorem te_368_1678 : (pT M_368).find? (fun e => e.1 == 1678) = some (1678, .istore 6, 0, 0) := (sk_85 1678 rfl).trans rfl
theorem te_368_1680 : (pT M_368).find? (fun e => e.1 == 1680) = some (1680, .goto 664, 0, 0) := (sk_85 1680 rfl).trans rfl
theorem te_368_1683 : (pT M_368).find? (fun e => e.1 == 1683) = some (1683, .aload_n 1, 0, 0) := (sk_86 1683 rfl).trans rfl
theorem te_368_1684 : (pT M_368).find? (fun e => e.1 == 1684) = some (1684, .aload_n 0, 0, 0) := (sk_86 1684 rfl).trans rfl
theorem te_368_1685 : (pT M_368).find? (fun e => e.1 == 1685) = some (1685, .iload 4, 0, 0) := (sk_86 1685 rfl).trans rfl
theorem te_368_1687 : (pT M_368).find? (fun e => e.1 == 1687) = some (1687, .iconst 1, 0, 0) := (sk_86 1687 rfl).trans rfl
theorem te_368_1688 : (pT M_368).find? (fun e => e.1 == 1688) = some (1688, .iadd, 0, 0) := (sk_86 1688 rfl).trans rfl
theorem te_368_1689 : (pT M_368).find? (fun e => e.1 == 1689) = some (1689, .iaload, 0, 0) := (sk_86 1689 rfl).trans rfl
theorem te_368_1690 : (pT M_368).find? (fun e => e.1 == 1690) = some (1690, .aload_n 0, 0, 0) := (sk_86 1690 rfl).trans rfl
theorem te_368_1691 : (pT M_368).find? (fun e => e.1 == 1691) = some (1691, .iload 4, 0, 0) := (sk_86 1691 rfl).trans rfl
theorem te_368_1693 : (pT M_368).find? (fun e => e.1 == 1693) = some (1693, .iconst 2, 0, 0) := (sk_86 1693 rfl).trans rfl
theorem te_368_1694 : (pT M_368).find? (fun e => e.1 == 1694) = some (1694, .iadd, 0, 0) := (sk_86 1694 rfl).trans rfl
theorem te_368_1695 : (pT M_368).find? (fun e => e.1 == 1695) = some (1695, .iaload, 0, 0) := (sk_86 1695 rfl).trans rfl
theorem te_368_1696 : (pT M_368).find? (fun e => e.1 == 1696) = some (1696, .aload_n 0, 0, 0) := (sk_86 1696 rfl).trans rfl
theorem te_368_1697 : (pT M_368).find? (fun e => e.1 == 1697) = some (1697, .iload 4, 0, 0) := (sk_87 1697 rfl).trans rfl
theorem te_368_1699 : (pT M_368).find? (fun e => e.1 == 1699) = some (1699, .iconst 3, 0, 0) := (sk_87 1699 rfl).trans rfl
theorem te_368_1700 : (pT M_368).find? (fun e => e.1 == 1700) = some (1700, .iadd, 0, 0) := (sk_87 1700 rfl).trans rfl
theorem te_368_1701 : (pT M_368).find? (fun e => e.1 == 1701) = some (1701, .iaload, 0, 0) := (sk_87 1701 rfl).trans rfl
theorem te_368_1702 : (pT M_368).find? (fun e => e.1 == 1702) = some (1702, .aload_n 3, 0, 0) := (sk_87 1702 rfl).trans rfl
theorem te_368_1703 : (pT M_368).find? (fun e => e.1 == 1703) = some (1703, .invokestatic 287, 182, 8) := (sk_87 1703 rfl).trans rfl
theorem te_368_1706 : (pT M_368).find? (fun e => e.1 == 1706) = some (1706, .istore 5, 0, 0) := (sk_87 1706 rfl).trans rfl
theorem te_368_1708 : (pT M_368).find? (fun e => e.1 == 1708) = some (1708, .aload_n 2, 0, 0) := (sk_87 1708 rfl).trans rfl
theorem te_368_1709 : (pT M_368).find? (fun e => e.1 == 1709) = some (1709, .aload_n 0, 0, 0) := (sk_87 1709 rfl).trans rfl
theorem te_368_1710 : (pT M_368).find? (fun e => e.1 == 1710) = some (1710, .iload 4, 0, 0) := (sk_87 1710 rfl).trans rfl
theorem te_368_1712 : (pT M_368).find? (fun e => e.1 == 1712) = some (1712, .iconst 1, 0, 0) := (sk_87 1712 rfl).trans rfl
theorem te_368_1713 : (pT M_368).find? (fun e => e.1 == 1713) = some (1713, .iadd, 0, 0) := (sk_87 1713 rfl).trans rfl
theorem te_368_1714 : (pT M_368).find? (fun e => e.1 == 1714) = some (1714, .iaload, 0, 0) := (sk_88 1714 rfl).trans rfl
theorem te_368_1715 : (pT M_368).find? (fun e => e.1 == 1715) = some (1715, .aload_n 0, 0, 0) := (sk_88 1715 rfl).trans rfl
theorem te_368_1716 : (pT M_368).find? (fun e => e.1 == 1716) = some (1716, .iload 4, 0, 0) := (sk_88 1716 rfl).trans rfl
theorem te_368_1718 : (pT M_368).find? (fun e => e.1 == 1718) = some (1718, .iconst 2, 0, 0) := (sk_88 1718 rfl).trans rfl
theorem te_368_1719 : (pT M_368).find? (fun e => e.1 == 1719) = some (1719, .iadd, 0, 0) := (sk_88 1719 rfl).trans rfl
theorem te_368_1720 : (pT M_368).find? (fun e => e.1 == 1720) = some (1720, .iaload, 0, 0) := (sk_88 1720 rfl).trans rfl
theorem te_368_1721 : (pT M_368).find? (fun e => e.1 == 1721) = some (1721, .aload_n 0, 0, 0) := (sk_88 1721 rfl).trans rfl
theorem te_368_1722 : (pT M_368).find? (fun e => e.1 == 1722) = some (1722, .iload 4, 0, 0) := (sk_88 1722 rfl).trans rfl
theorem te_368_1724 : (pT M_368).find? (fun e => e.1 == 1724) = some (1724, .iconst 3, 0, 0) := (sk_88 1724 rfl).trans rfl
theorem te_368_1725 : (pT M_368).find? (fun e => e.1 == 1725) = some (1725, .iadd, 0, 0) := (sk_88 1725 rfl).trans rfl
theorem te_368_1726 : (pT M_368).find? (fun e => e.1 == 1726) = some (1726, .iaload, 0, 0) := (sk_88 1726 rfl).trans rfl
theorem te_368_1727 : (pT M_368).find? (fun e => e.1 == 1727) = some (1727, .invokevirtual 289, 342, 0) := (sk_88 1727 rfl).trans rfl
theorem te_368_1730 : (pT M_368).find? (fun e => e.1 == 1730) = some (1730, .istore 6, 0, 0) := (sk_89 1730 rfl).trans rfl
theorem te_368_1732 : (pT M_368).find? (fun e => e.1 == 1732) = some (1732, .goto 612, 0, 0) := (sk_89 1732 rfl).trans rfl
theorem te_368_1735 : (pT M_368).find? (fun e => e.1 == 1735) = some (1735, .aload_n 1, 0, 0) := (sk_89 1735 rfl).trans rfl
theorem te_368_1736 : (pT M_368).find? (fun e => e.1 == 1736) = some (1736, .aload_n 0, 0, 0) := (sk_89 1736 rfl).trans rfl
theorem te_368_1737 : (pT M_368).find? (fun e => e.1 == 1737) = some (1737, .iload 4, 0, 0) := (sk_89 1737 rfl).trans rfl
theorem te_368_1739 : (pT M_368).find? (fun e => e.1 == 1739) = some (1739, .iconst 1, 0, 0) := (sk_89 1739 rfl).trans rfl
theorem te_368_1740 : (pT M_368).find? (fun e => e.1 == 1740) = some (1740, .iadd, 0, 0) := (sk_89 1740 rfl).trans rfl
theorem te_368_1741 : (pT M_368).find? (fun e => e.1 == 1741) = some (1741, .iaload, 0, 0) := (sk_89 1741 rfl).trans rfl
theorem te_368_1742 : (pT M_368).find? (fun e => e.1 == 1742) = some (1742, .aload_n 0, 0, 0) := (sk_89 1742 rfl).trans rfl
theorem te_368_1743 : (pT M_368).find? (fun e => e.1 == 1743) = some (1743, .iload 4, 0, 0) := (sk_89 1743 rfl).trans rfl
theorem te_368_1745 : (pT M_368).find? (fun e => e.1 == 1745) = some (1745, .iconst 2, 0, 0) := (sk_89 1745 rfl).trans rfl
theorem te_368_1746 : (pT M_368).find? (fun e => e.1 == 1746) = some (1746, .iadd, 0, 0) := (sk_89 1746 rfl).trans rfl
theorem te_368_1747 : (pT M_368).find? (fun e => e.1 == 1747) = some (1747, .iaload, 0, 0) := (sk_90 1747 rfl).trans rfl
theorem te_368_1748 : (pT M_368).find? (fun e => e.1 == 1748) = some (1748, .aload_n 0, 0, 0) := (sk_90 1748 rfl).trans rfl
theorem te_368_1749 : (pT M_368).find? (fun e => e.1 == 1749) = some (1749, .iload 4, 0, 0) := (sk_90 1749 rfl).trans rfl
theorem te_368_1751 : (pT M_368).find? (fun e => e.1 == 1751) = some (1751, .iconst 3, 0, 0) := (sk_90 1751 rfl).trans rfl
theorem te_368_1752 : (pT M_368).find? (fun e => e.1 == 1752) = some (1752, .iadd, 0, 0) := (sk_90 1752 rfl).trans rfl
theorem te_368_1753 : (pT M_368).find? (fun e => e.1 == 1753) = some (1753, .iaload, 0, 0) := (sk_90 1753 rfl).trans rfl
theorem te_368_1754 : (pT M_368).find? (fun e => e.1 == 1754) = some (1754, .aload_n 0, 0, 0) := (sk_90 1754 rfl).trans rfl
theorem te_368_1755 : (pT M_368).find? (fun e => e.1 == 1755) = some (1755, .iload 4, 0, 0) := (sk_90 1755 rfl).trans rfl
theorem te_368_1757 : (pT M_368).find? (fun e => e.1 == 1757) = some (1757, .iconst 4, 0, 0) := (sk_90 1757 rfl).trans rfl
theorem te_368_1758 : (pT M_368).find? (fun e => e.1 == 1758) = some (1758, .iadd, 0, 0) := (sk_90 1758 rfl).trans rfl
theorem te_368_1759 : (pT M_368).find? (fun e => e.1 == 1759) = some (1759, .iaload, 0, 0) := (sk_90 1759 rfl).trans rfl
theorem te_368_1760 : (pT M_368).find? (fun e => e.1 == 1760) = some (1760, .aload_n 0, 0, 0) := (sk_90 1760 rfl).trans rfl
theorem te_368_1761 : (pT M_368).find? (fun e => e.1 == 1761) = some (1761, .iload 4, 0, 0) := (sk_91 1761 rfl).trans rfl
theorem te_368_1763 : (pT M_368).find? (fun e => e.1 == 1763) = some (1763, .iconst 5, 0, 0) := (sk_91 1763 rfl).trans rfl
theorem te_368_1764 : (pT M_368).find? (fun e => e.1 == 1764) = some (1764, .iadd, 0, 0) := (sk_91 1764 rfl).trans rfl
theorem te_368_1765 : (pT M_368).find? (fun e => e.1 == 1765) = some (1765, .iaload, 0, 0) := (sk_91 1765 rfl).trans rfl
theorem te_368_1766 : (pT M_368).find? (fun e => e.1 == 1766) = some (1766, .aload_n 3, 0, 0) := (sk_91 1766 rfl).trans rfl
theorem te_368_1767 : (pT M_368).find? (fun e => e.1 == 1767) = some (1767, .invokestatic 290, 184, 8) := (sk_91 1767 rfl).trans rfl
theorem te_368_1770 : (pT M_368).find? (fun e => e.1 == 1770) = some (1770, .istore 5, 0, 0) := (sk_91 1770 rfl).trans rfl
theorem te_368_1772 : (pT M_368).find? (fun e => e.1 == 1772) = some (1772, .aload_n 2, 0, 0) := (sk_91 1772 rfl).trans rfl
theorem te_368_1773 : (pT M_368).find? (fun e => e.1 == 1773) = some (1773, .aload_n 0, 0, 0) := (sk_91 1773 rfl).trans rfl
theorem te_368_1774 : (pT M_368).find? (fun e => e.1 == 1774) = some (1774, .iload 4, 0, 0) := (sk_91 1774 rfl).trans rfl
theorem te_368_1776 : (pT M_368).find? (fun e => e.1 == 1776) = some (1776, .iconst 1, 0, 0) := (sk_91 1776 rfl).trans rfl
theorem te_368_1777 : (pT M_368).find? (fun e => e.1 == 1777) = some (1777, .iadd, 0, 0) := (sk_91 1777 rfl).trans rfl
theorem te_368_1778 : (pT M_368).find? (fun e => e.1 == 1778) = some (1778, .iaload, 0, 0) := (sk_92 1778 rfl).trans rfl
theorem te_368_1779 : (pT M_368).find? (fun e => e.1 == 1779) = some (1779, .aload_n 0, 0, 0) := (sk_92 1779 rfl).trans rfl
theorem te_368_1780 : (pT M_368).find? (fun e => e.1 == 1780) = some (1780, .iload 4, 0, 0) := (sk_92 1780 rfl).trans rfl
theorem te_368_1782 : (pT M_368).find? (fun e => e.1 == 1782) = some (1782, .iconst 2, 0, 0) := (sk_92 1782 rfl).trans rfl
theorem te_368_1783 : (pT M_368).find? (fun e => e.1 == 1783) = some (1783, .iadd, 0, 0) := (sk_92 1783 rfl).trans rfl
theorem te_368_1784 : (pT M_368).find? (fun e => e.1 == 1784) = some (1784, .iaload, 0, 0) := (sk_92 1784 rfl).trans rfl
theorem te_368_1785 : (pT M_368).find? (fun e => e.1 == 1785) = some (1785, .aload_n 0, 0, 0) := (sk_92 1785 rfl).trans rfl
theorem te_368_1786 : (pT M_368).find? (fun e => e.1 == 1786) = some (1786, .iload 4, 0, 0) := (sk_92 1786 rfl).trans rfl
theorem te_368_1788 : (pT M_368).find? (fun e => e.1 == 1788) = some (1788, .iconst 3, 0, 0) := (sk_92 1788 rfl).trans rfl
theorem te_368_1789 : (pT M_368).find? (fun e => e.1 == 1789) = some (1789, .iadd, 0, 0) := (sk_92 1789 rfl).trans rfl
theorem te_368_1790 : (pT M_368).find? (fun e => e.1 == 1790) = some (1790, .iaload, 0, 0) := (sk_92 1790 rfl).trans rfl
theorem te_368_1791 : (pT M_368).find? (fun e => e.1 == 1791) = some (1791, .aload_n 0, 0, 0) := (sk_92 1791 rfl).trans rfl
theorem te_368_1792 : (pT M_368).find? (fun e => e.1 == 1792) = some (1792, .iload 4, 0, 0) := (sk_93 1792 rfl).trans rfl
theorem te_368_1794 : (pT M_368).find? (fun e => e.1 == 1794) = some (1794, .iconst 4, 0, 0) := (sk_93 1794 rfl).trans rfl
theorem te_368_1795 : (pT M_368).find? (fun e => e.1 == 1795) = some (1795, .iadd, 0, 0) := (sk_93 1795 rfl).trans rfl
theorem te_368_1796 : (pT M_368).find? (fun e => e.1 == 1796) = some (1796, .iaload, 0, 0) := (sk_93 1796 rfl).trans rfl
theorem te_368_1797 : (pT M_368).find? (fun e => e.1 == 1797) = some (1797, .aload_n 0, 0, 0) := (sk_93 1797 rfl).trans rfl
theorem te_368_1798 : (pT M_368).find? (fun e => e.1 == 1798) = some (1798, .iload 4, 0, 0) := (sk_93 1798 rfl).trans rfl
theorem te_368_1800 : (pT M_368).find? (fun e => e.1 == 1800) = some (1800, .iconst 5, 0, 0) := (sk_93 1800 rfl).trans rfl
theorem te_368_1801 : (pT M_368).find? (fun e => e.1 == 1801) = some (1801, .iadd, 0, 0) := (sk_93 1801 rfl).trans rfl
theorem te_368_1802 : (pT M_368).find? (fun e => e.1 == 1802) = some (1802, .iaload, 0, 0) := (sk_93 1802 rfl).trans rfl
theorem te_368_1803 : (pT M_368).find? (fun e => e.1 == 1803) = some (1803, .invokevirtual 292, 326, 0) := (sk_93 1803 rfl).trans rfl
theorem te_368_1806 : (pT M_368).find? (fun e => e.1 == 1806) = some (1806, .istore 6, 0, 0) := (sk_93 1806 rfl).trans rfl
theorem te_368_1808 : (pT M_368).find? (fun e => e.1 == 1808) = some (1808, .goto 536, 0, 0) := (sk_93 1808 rfl).trans rfl
theorem lc_20 {S : Nat × (Nat → Int32)} {lv : LV} {h : PH} {c s : Nat} {i : Int32} (hS : S.1 ≤ 3072) (hl : LwS lv i) (hi : 0 ≤ i.toInt ∧ i.toInt + 5 < S.1) (hL : LR h) (hc : c + 8 ≤ 601024) (hs : s + 48 ≤ 7293033) (Nx : ∀ lv' h' c' s', LwS lv' i → LR h' → c' ≤ c + 8 → s' ≤ s + 48 → Vx (Ex S 24) S M_368 [] Q1 2344 lv' [] h' c' s') : Vx (Ex S 24) S M_368 [] Q1 1023 lv [] h c s := by
  have hC := Ex.mono S 24
  refine Vx.go hC te_368_1023 ?_
  refine ⟨_, hl.2.1, ⟨0, Or.inl rfl⟩, ?_⟩
  refine sc_load hC (k := 1) hl te_368_1024 te_368_1025 te_368_1027 te_368_1028 te_368_1029 (sc_in hS hi (by decide)) ?_
  refine sc_load hC (k := 2) hl te_368_1030 te_368_1031 te_368_1033 te_368_1034 te_368_1035 (sc_in hS hi (by decide)) ?_
  refine Vx.go hC te_368_1036 ?_
  refine ⟨_, hl.2.2.2.1, ⟨173, Or.inl rfl⟩, ?_⟩
  refine Vx.go hC te_368_1037 ?_
  refine Or.inr ⟨by decide, ?_⟩
  refine p_call_mk (av := [.ref 0, .int (S.2 (i + Int32.ofInt 1).toNatClampNeg), .int (S.2 (i + Int32.ofInt 2).toNatClampNeg), .ref 173]) (rest := []) mt_139 rfl (by decide) (show c + 4 ≤ 601024 by omega) (show s + 24 ≤ 7293033 by omega) (fun q => by cases q) ?_
  refine g_139 (n := 6) hL (fun r3 h1 hL2 => ?_)
  show Vx (Ex S 24) S M_368 [] Q1 1040 lv [.int r3] h1 (c + 4) (s + 24)
  refine Vx.go hC te_368_1040 ?_
  refine ⟨by decide, ?_⟩
  have hl4 := LwS.st (j := 5) (v := .int r3) (by omega) hl
  show Vx (Ex S 24) S M_368 [] Q1 1042 (px_s1 lv 5 (.int r3)) [] h1 (c + 4) (s + 24)
  refine Vx.go hC te_368_1042 ?_
  refine ⟨_, hl4.2.2.1, ⟨143, Or.inl rfl⟩, ?_⟩
  refine sc_load hC (k := 1) hl4 te_368_1043 te_368_1044 te_368_1046 te_368_1047 te_368_1048 (sc_in hS hi (by decide)) ?_
  refine sc_load hC (k := 2) hl4 te_368_1049 te_368_1050 te_368_1052 te_368_1053 te_368_1054 (sc_in hS hi (by decide)) ?_
  refine Vx.go hC te_368_1055 ?_
  obtain ⟨gs8, gs8g⟩ := hL2.obj (A := 143) rfl
  have hcall9 := ref_call (S := S) (n := 24) (μ := 294) (args := [.inr 143, .inl ((S.2 (i + Int32.ofInt 1).toNatClampNeg) : Int32).toInt, .inl ((S.2 (i + Int32.ofInt 2).toNatClampNeg) : Int32).toInt]) (h := h1) (fun v hv => by simp only [List.mem_cons, List.not_mem_nil, or_false] at hv; rcases hv with rfl | rfl | rfl <;> first | trivial | exact wiI _) hL2 (fun mem hr => f_294 hr (fun r m' a b => ⟨a, b⟩))
  simp only [List.map_cons, List.map_nil, wv, Int32.ofInt_toInt] at hcall9
  refine p_call_mk (av := [.ref 143, .int (S.2 (i + Int32.ofInt 1).toNatClampNeg), .int (S.2 (i + Int32.ofInt 2).toNatClampNeg)]) (rest := []) mt_294 rfl (by decide) (show (c + 4) + 0 ≤ 601024 by omega) (show (s + 24) + 0 ≤ 7293033 by omega) (fun _ => ⟨143, gs8, rfl, gs8g⟩) ?_
  refine hC _ _ _ _ _ ?_ hcall9
  rintro _ h5 ⟨hL6, r7, rfl⟩
  show Vx (Ex S 24) S M_368 [] Q1 1058 (px_s1 lv 5 (.int r3)) [.int r7] h5 (c + 4) (s + 24)
  refine Vx.go hC te_368_1058 ?_
  refine ⟨by decide, ?_⟩
  have hl10 := LwS.st (j := 6) (v := .int r7) (by omega) hl4
  show Vx (Ex S 24) S M_368 [] Q1 1060 (px_s1 (px_s1 lv 5 (.int r3)) 6 (.int r7)) [] h5 (c + 4) (s + 24)
  refine Vx.go hC te_368_1060 ?_
  refine ⟨by decide, ?_⟩
  exact Nx _ _ _ _ hl10 hL6 (by omega) (by omega)
theorem lc_21 {S : Nat × (Nat → Int32)} {lv : LV} {h : PH} {c s : Nat} {i : Int32} (hS : S.1 ≤ 3072) (hl : LwS lv i) (hi : 0 ≤ i.toInt ∧ i.toInt + 5 < S.1) (hL : LR h) (hc : c + 8 ≤ 601024) (hs : s + 48 ≤ 7293033) (Nx : ∀ lv' h' c' s', LwS lv' i → LR h' → c' ≤ c + 8 → s' ≤ s + 48 → Vx (Ex S 24) S M_368 [] Q1 2344 lv' [] h' c' s') : Vx (Ex S 24) S M_368 [] Q1 1063 lv [] h c s := by
  have hC := Ex.mono S 24
  refine Vx.go hC te_368_1063 ?_
  refine ⟨_, hl.2.1, ⟨0, Or.inl rfl⟩, ?_⟩
  refine sc_load hC (k := 1) hl te_368_1064 te_368_1065 te_368_1067 te_368_1068 te_368_1069 (sc_in hS hi (by decide)) ?_
  refine sc_load hC (k := 2) hl te_368_1070 te_368_1071 te_368_1073 te_368_1074 te_368_1075 (sc_in hS hi (by decide)) ?_
  refine sc_load hC (k := 3) hl te_368_1076 te_368_1077 te_368_1079 te_368_1080 te_368_1081 (sc_in hS hi (by decide)) ?_
  refine Vx.go hC te_368_1082 ?_
  refine ⟨_, hl.2.2.2.1, ⟨173, Or.inl rfl⟩, ?_⟩
  refine Vx.go hC te_368_1083 ?_
  refine Or.inr ⟨by decide, ?_⟩
  refine p_call_mk (av := [.ref 0, .int (S.2 (i + Int32.ofInt 1).toNatClampNeg), .int (S.2 (i + Int32.ofInt 2).toNatClampNeg), .int (S.2 (i + Int32.ofInt 3).toNatClampNeg), .ref 173]) (rest := []) mt_144 rfl (by decide) (show c + 5 ≤ 601024 by omega) (show s + 30 ≤ 7293033 by omega) (fun q => by cases q) ?_
  refine g_144 (n := 6) hL (fun r3 h1 hL2 => ?_)
  show Vx (Ex S 24) S M_368 [] Q1 1086 lv [.int r3] h1 (c + 5) (s + 30)
  refine Vx.go hC te_368_1086 ?_
  refine ⟨by decide, ?_⟩
  have hl4 := LwS.st (j := 5) (v := .int r3) (by omega) hl
  show Vx (Ex S 24) S M_368 [] Q1 1088 (px_s1 lv 5 (.int r3)) [] h1 (c + 5) (s + 30)
  refine Vx.go hC te_368_1088 ?_
  refine ⟨_, hl4.2.2.1, ⟨143, Or.inl rfl⟩, ?_⟩
  refine sc_load hC (k := 1) hl4 te_368_1089 te_368_1090 te_368_1092 te_368_1093 te_368_1094 (sc_in hS hi (by decide)) ?_
  refine sc_load hC (k := 2) hl4 te_368_1095 te_368_1096 te_368_1098 te_368_1099 te_368_1100 (sc_in hS hi (by decide)) ?_
  refine sc_load hC (k := 3) hl4 te_368_1101 te_368_1102 te_368_1104 te_368_1105 te_368_1106 (sc_in hS hi (by decide)) ?_
  refine Vx.go hC te_368_1107 ?_
  obtain ⟨gs8, gs8g⟩ := hL2.obj (A := 143) rfl
  have hcall9 := ref_call (S := S) (n := 24) (μ := 305) (args := [.inr 143, .inl ((S.2 (i + Int32.ofInt 1).toNatClampNeg) : Int32).toInt, .inl ((S.2 (i + Int32.ofInt 2).toNatClampNeg) : Int32).toInt, .inl ((S.2 (i + Int32.ofInt 3).toNatClampNeg) : Int32).toInt]) (h := h1) (fun v hv => by simp only [List.mem_cons, List.not_mem_nil, or_false] at hv; rcases hv with rfl | rfl | rfl | rfl <;> first | trivial | exact wiI _) hL2 (fun mem hr => f_305 hr (fun r m' a b => ⟨a, b⟩))
  simp only [List.map_cons, List.map_nil, wv, Int32.ofInt_toInt] at hcall9
  refine p_call_mk (av := [.ref 143, .int (S.2 (i + Int32.ofInt 1).toNatClampNeg), .int (S.2 (i + Int32.ofInt 2).toNatClampNeg), .int (S.2 (i + Int32.ofInt 3).toNatClampNeg)]) (rest := []) mt_305 rfl (by decide) (show (c + 5) + 0 ≤ 601024 by omega) (show (s + 30) + 0 ≤ 7293033 by omega) (fun _ => ⟨143, gs8, rfl, gs8g⟩) ?_
  refine hC _ _ _ _ _ ?_ hcall9
  rintro _ h5 ⟨hL6, r7, rfl⟩
  show Vx (Ex S 24) S M_368 [] Q1 1110 (px_s1 lv 5 (.int r3)) [.int r7] h5 (c + 5) (s + 30)
  refine Vx.go hC te_368_1110 ?_
  refine ⟨by decide, ?_⟩
  have hl10 := LwS.st (j := 6) (v := .int r7) (by omega) hl4
  show Vx (Ex S 24) S M_368 [] Q1 1112 (px_s1 (px_s1 lv 5 (.int r3)) 6 (.int r7)) [] h5 (c + 5) (s + 30)
  refine Vx.go hC te_368_1112 ?_
  refine ⟨by decide, ?_⟩
  exact Nx _ _ _ _ hl10 hL6 (by omega) (by omega)
theorem lc_22 {S : Nat × (Nat → Int32)} {lv : LV} {h : PH} {c s : Nat} {i : Int32} (hS : S.1 ≤ 3072) (hl : LwS lv i) (hi : 0 ≤ i.toInt ∧ i.toInt + 5 < S.1) (hL : LR h) (hc : c + 8 ≤ 601024) (hs : s + 48 ≤ 7293033) (Nx : ∀ lv' h' c' s', LwS lv' i → LR h' → c' ≤ c + 8 → s' ≤ s + 48 → Vx (Ex S 24) S M_368 [] Q1 2344 lv' [] h' c' s') : Vx (Ex S 24) S M_368 [] Q1 1115 lv [] h c s := by
  have hC := Ex.mono S 24
  refine Vx.go hC te_368_1115 ?_
  refine ⟨_, hl.2.1, ⟨0, Or.inl rfl⟩, ?_⟩
  refine sc_load hC (k := 1) hl te_368_1116 te_368_1117 te_368_1119 te_368_1120 te_368_1121 (sc_in hS hi (by decide)) ?_
  refine sc_load hC (k := 2) hl te_368_1122 te_368_1123 te_368_1125 te_368_1126 te_368_1127 (sc_in hS hi (by decide)) ?_
  refine Vx.go hC te_368_1128 ?_
  refine ⟨_, hl.2.2.2.1, ⟨173, Or.inl rfl⟩, ?_⟩
  refine Vx.go hC te_368_1129 ?_
  refine Or.inr ⟨by decide, ?_⟩
  refine p_call_mk (av := [.ref 0, .int (S.2 (i + Int32.ofInt 1).toNatClampNeg), .int (S.2 (i + Int32.ofInt 2).toNatClampNeg), .ref 173]) (rest := []) mt_147 rfl (by decide) (show c + 5 ≤ 601024 by omega) (show s + 30 ≤ 7293033 by omega) (fun q => by cases q) ?_
  refine g_147 (n := 6) hL (fun r3 h1 hL2 => ?_)
  show Vx (Ex S 24) S M_368 [] Q1 1132 lv [.int r3] h1 (c + 5) (s + 30)
  refine Vx.go hC te_368_1132 ?_
  refine ⟨by decide, ?_⟩
  have hl4 := LwS.st (j := 5) (v := .int r3) (by omega) hl
  show Vx (Ex S 24) S M_368 [] Q1 1134 (px_s1 lv 5 (.int r3)) [] h1 (c + 5) (s + 30)
  refine Vx.go hC te_368_1134 ?_
  refine ⟨_, hl4.2.2.1, ⟨143, Or.inl rfl⟩, ?_⟩
  refine sc_load hC (k := 1) hl4 te_368_1135 te_368_1136 te_368_1138 te_368_1139 te_368_1140 (sc_in hS hi (by decide)) ?_
  refine sc_load hC (k := 2) hl4 te_368_1141 te_368_1142 te_368_1144 te_368_1145 te_368_1146 (sc_in hS hi (by decide)) ?_
  refine Vx.go hC te_368_1147 ?_
  obtain ⟨gs8, gs8g⟩ := hL2.obj (A := 143) rfl
  have hcall9 := ref_call (S := S) (n := 24) (μ := 307) (args := [.inr 143, .inl ((S.2 (i + Int32.ofInt 1).toNatClampNeg) : Int32).toInt, .inl ((S.2 (i + Int32.ofInt 2).toNatClampNeg) : Int32).toInt]) (h := h1) (fun v hv => by simp only [List.mem_cons, List.not_mem_nil, or_false] at hv; rcases hv with rfl | rfl | rfl <;> first | trivial | exact wiI _) hL2 (fun mem hr => f_307 hr (fun r m' a b => ⟨a, b⟩))
  simp only [List.map_cons, List.map_nil, wv, Int32.ofInt_toInt] at hcall9
  refine p_call_mk (av := [.ref 143, .int (S.2 (i + Int32.ofInt 1).toNatClampNeg), .int (S.2 (i + Int32.ofInt 2).toNatClampNeg)]) (rest := []) mt_307 rfl (by decide) (show (c + 5) + 0 ≤ 601024 by omega) (show (s + 30) + 0 ≤ 7293033 by omega) (fun _ => ⟨143, gs8, rfl, gs8g⟩) ?_
  refine hC _ _ _ _ _ ?_ hcall9
  rintro _ h5 ⟨hL6, r7, rfl⟩
  show Vx (Ex S 24) S M_368 [] Q1 1150 (px_s1 lv 5 (.int r3)) [.int r7] h5 (c + 5) (s + 30)
  refine Vx.go hC te_368_1150 ?_
  refine ⟨by decide, ?_⟩
  have hl10 := LwS.st (j := 6) (v := .int r7) (by omega) hl4
  show Vx (Ex S 24) S M_368 [] Q1 1152 (px_s1 (px_s1 lv 5 (.int r3)) 6 (.int r7)) [] h5 (c + 5) (s + 30)
  refine Vx.go hC te_368_1152 ?_
  refine ⟨by decide, ?_⟩
  exact Nx _ _ _ _ hl10 hL6 (by omega) (by omega)
theorem lc_23 {S : Nat × (Nat → Int32)} {lv : LV} {h : PH} {c s : Nat} {i : Int32} (hS : S.1 ≤ 3072) (hl : LwS lv i) (hi : 0 ≤ i.toInt ∧ i.toInt + 5 < S.1) (hL : LR h) (hc : c + 8 ≤ 601024) (hs : s + 48 ≤ 7293033) (Nx : ∀ lv' h' c' s', LwS lv' i → LR h' → c' ≤ c + 8 → s' ≤ s + 48 → Vx (Ex S 24) S M_368 [] Q1 2344 lv' [] h' c' s') : Vx (Ex S 24) S M_368 [] Q1 1155 lv [] h c s := by
  have hC := Ex.mono S 24
  refine Vx.go hC te_368_1155 ?_
  refine ⟨_, hl.2.1, ⟨0, Or.inl rfl⟩, ?_⟩
  refine sc_load hC (k := 1) hl te_368_1156 te_368_1157 te_368_1159 te_368_1160 te_368_1161 (sc_in hS hi (by decide)) ?_
  refine sc_load hC (k := 2) hl te_368_1162 te_368_1163 te_368_1165 te_368_1166 te_368_1167 (sc_in hS hi (by decide)) ?_
  refine sc_load hC (k := 3) hl te_368_1168 te_368_1169 te_368_1171 te_368_1172 te_368_1173 (sc_in hS hi (by decide)) ?_
  refine sc_load hC (k := 4) hl te_368_1174 te_368_1175 te_368_1177 te_368_1178 te_368_1179 (sc_in hS hi (by decide)) ?_
  refine Vx.go hC te_368_1180 ?_
  refine ⟨_, hl.2.2.2.1, ⟨173, Or.inl rfl⟩, ?_⟩
  refine Vx.go hC te_368_1181 ?_
  refine Or.inr ⟨by decide, ?_⟩
  refine p_call_mk (av := [.ref 0, .int (S.2 (i + Int32.ofInt 1).toNatClampNeg), .int (S.2 (i + Int32.ofInt 2).toNatClampNeg), .int (S.2 (i + Int32.ofInt 3).toNatClampNeg), .int (S.2 (i + Int32.ofInt 4).toNatClampNeg), .ref 173]) (rest := []) mt_149 rfl (by decide) (show c + 7 ≤ 601024 by omega) (show s + 42 ≤ 7293033 by omega) (fun q => by cases q) ?_
  refine g_149 (n := 6) hL (fun r3 h1 hL2 => ?_)
  show Vx (Ex S 24) S M_368 [] Q1 1184 lv [.int r3] h1 (c + 7) (s + 42)
  refine Vx.go hC te_368_1184 ?_
  refine ⟨by decide, ?_⟩
  have hl4 := LwS.st (j := 5) (v := .int r3) (by omega) hl
  show Vx (Ex S 24) S M_368 [] Q1 1186 (px_s1 lv 5 (.int r3)) [] h1 (c + 7) (s + 42)
  refine Vx.go hC te_368_1186 ?_
  refine ⟨_, hl4.2.2.1, ⟨143, Or.inl rfl⟩, ?_⟩
  refine sc_load hC (k := 1) hl4 te_368_1187 te_368_1188 te_368_1190 te_368_1191 te_368_1192 (sc_in hS hi (by decide)) ?_
  refine sc_load hC (k := 2) hl4 te_368_1193 te_368_1194 te_368_1196 te_368_1197 te_368_1198 (sc_in hS hi (by decide)) ?_
  refine sc_load hC (k := 3) hl4 te_368_1199 te_368_1200 te_368_1202 te_368_1203 te_368_1204 (sc_in hS hi (by decide)) ?_
  refine sc_load hC (k := 4) hl4 te_368_1205 te_368_1206 te_368_1208 te_368_1209 te_368_1210 (sc_in hS hi (by decide)) ?_
  refine Vx.go hC te_368_1211 ?_
  obtain ⟨gs8, gs8g⟩ := hL2.obj (A := 143) rfl
  have hcall9 := ref_call (S := S) (n := 24) (μ := 308) (args := [.inr 143, .inl ((S.2 (i + Int32.ofInt 1).toNatClampNeg) : Int32).toInt, .inl ((S.2 (i + Int32.ofInt 2).toNatClampNeg) : Int32).toInt, .inl ((S.2 (i + Int32.ofInt 3).toNatClampNeg) : Int32).toInt, .inl ((S.2 (i + Int32.ofInt 4).toNatClampNeg) : Int32).toInt]) (h := h1) (fun v hv => by simp only [List.mem_cons, List.not_mem_nil, or_false] at hv; rcases hv with rfl | rfl | rfl | rfl | rfl <;> first | trivial | exact wiI _) hL2 (fun mem hr => f_308 (wiI _) hr (fun r m' a b => ⟨a, b⟩))
  simp only [List.map_cons, List.map_nil, wv, Int32.ofInt_toInt] at hcall9
  refine p_call_mk (av := [.ref 143, .int (S.2 (i + Int32.ofInt 1).toNatClampNeg), .int (S.2 (i + Int32.ofInt 2).toNatClampNeg), .int (S.2 (i + Int32.ofInt 3).toNatClampNeg), .int (S.2 (i + Int32.ofInt 4).toNatClampNeg)]) (rest := []) mt_308 rfl (by decide) (show (c + 7) + 0 ≤ 601024 by omega) (show (s + 42) + 0 ≤ 7293033 by omega) (fun _ => ⟨143, gs8, rfl, gs8g⟩) ?_
  refine hC _ _ _ _ _ ?_ hcall9
  rintro _ h5 ⟨hL6, r7, rfl⟩
  show Vx (Ex S 24) S M_368 [] Q1 1214 (px_s1 lv 5 (.int r3)) [.int r7] h5 (c + 7) (s + 42)
  refine Vx.go hC te_368_1214 ?_
  refine ⟨by decide, ?_⟩
  have hl10 := LwS.st (j := 6) (v := .int r7) (by omega) hl4
  show Vx (Ex S 24) S M_368 [] Q1 1216 (px_s1 (px_s1 lv 5 (.int r3)) 6 (.int r7)) [] h5 (c + 7) (s + 42)
  refine Vx.go hC te_368_1216 ?_
  refine ⟨by decide, ?_⟩
  exact Nx _ _ _ _ hl10 hL6 (by omega) (by omega)
theorem lc_24 {S : Nat × (Nat → Int32)} {lv : LV} {h : PH} {c s : Nat} {i : Int32} (hS : S.1 ≤ 3072) (hl : LwS lv i) (hi : 0 ≤ i.toInt ∧ i.toInt + 5 < S.1) (hL : LR h) (hc : c + 8 ≤ 601024) (hs : s + 48 ≤ 7293033) (Nx : ∀ lv' h' c' s', LwS lv' i → LR h' → c' ≤ c + 8 → s' ≤ s + 48 → Vx (Ex S 24) S M_368 [] Q1 2344 lv' [] h' c' s') : Vx (Ex S 24) S M_368 [] Q1 1219 lv [] h c s := by
  have hC := Ex.mono S 24
  refine Vx.go hC te_368_1219 ?_
  refine ⟨_, hl.2.1, ⟨0, Or.inl rfl⟩, ?_⟩
  refine sc_load hC (k := 1) hl te_368_1220 te_368_1221 te_368_1223 te_368_1224 te_368_1225 (sc_in hS hi (by decide)) ?_
  refine sc_load hC (k := 2) hl te_368_1226 te_368_1227 te_368_1229 te_368_1230 te_368_1231 (sc_in hS hi (by decide)) ?_
  refine sc_load hC (k := 3) hl te_368_1232 te_368_1233 te_368_1235 te_368_1236 te_368_1237 (sc_in hS hi (by decide)) ?_
  refine Vx.go hC te_368_1238 ?_
  refine ⟨_, hl.2.2.2.1, ⟨173, Or.inl rfl⟩, ?_⟩
  refine Vx.go hC te_368_1239 ?_
  refine Or.inr ⟨by decide, ?_⟩
  refine p_call_mk (av := [.ref 0, .int (S.2 (i + Int32.ofInt 1).toNatClampNeg), .int (S.2 (i + Int32.ofInt 2).toNatClampNeg), .int (S.2 (i + Int32.ofInt 3).toNatClampNeg), .ref 173]) (rest := []) mt_153 rfl (by decide) (show c + 6 ≤ 601024 by omega) (show s + 36 ≤ 7293033 by omega) (fun q => by cases q) ?_
  refine g_153 (n := 6) hL (fun r3 h1 hL2 => ?_)
  show Vx (Ex S 24) S M_368 [] Q1 1242 lv [.int r3] h1 (c + 6) (s + 36)
  refine Vx.go hC te_368_1242 ?_
  refine ⟨by decide, ?_⟩
  have hl4 := LwS.st (j := 5) (v := .int r3) (by omega) hl
  show Vx (Ex S 24) S M_368 [] Q1 1244 (px_s1 lv 5 (.int r3)) [] h1 (c + 6) (s + 36)
  refine Vx.go hC te_368_1244 ?_
  refine ⟨_, hl4.2.2.1, ⟨143, Or.inl rfl⟩, ?_⟩
  refine sc_load hC (k := 1) hl4 te_368_1245 te_368_1246 te_368_1248 te_368_1249 te_368_1250 (sc_in hS hi (by decide)) ?_
  refine sc_load hC (k := 2) hl4 te_368_1251 te_368_1252 te_368_1254 te_368_1255 te_368_1256 (sc_in hS hi (by decide)) ?_
  refine sc_load hC (k := 3) hl4 te_368_1257 te_368_1258 te_368_1260 te_368_1261 te_368_1262 (sc_in hS hi (by decide)) ?_
  refine Vx.go hC te_368_1263 ?_
  obtain ⟨gs8, gs8g⟩ := hL2.obj (A := 143) rfl
  have hcall9 := ref_call (S := S) (n := 24) (μ := 310) (args := [.inr 143, .inl ((S.2 (i + Int32.ofInt 1).toNatClampNeg) : Int32).toInt, .inl ((S.2 (i + Int32.ofInt 2).toNatClampNeg) : Int32).toInt, .inl ((S.2 (i + Int32.ofInt 3).toNatClampNeg) : Int32).toInt]) (h := h1) (fun v hv => by simp only [List.mem_cons, List.not_mem_nil, or_false] at hv; rcases hv with rfl | rfl | rfl | rfl <;> first | trivial | exact wiI _) hL2 (fun mem hr => f_310 hr (fun r m' a b => ⟨a, b⟩))
  simp only [List.map_cons, List.map_nil, wv, Int32.ofInt_toInt] at hcall9
  refine p_call_mk (av := [.ref 143, .int (S.2 (i + Int32.ofInt 1).toNatClampNeg), .int (S.2 (i + Int32.ofInt 2).toNatClampNeg), .int (S.2 (i + Int32.ofInt 3).toNatClampNeg)]) (rest := []) mt_310 rfl (by decide) (show (c + 6) + 0 ≤ 601024 by omega) (show (s + 36) + 0 ≤ 7293033 by omega) (fun _ => ⟨143, gs8, rfl, gs8g⟩) ?_
  refine hC _ _ _ _ _ ?_ hcall9
  rintro _ h5 ⟨hL6, r7, rfl⟩
  show Vx (Ex S 24) S M_368 [] Q1 1266 (px_s1 lv 5 (.int r3)) [.int r7] h5 (c + 6) (s + 36)
  refine Vx.go hC te_368_1266 ?_
  refine ⟨by decide, ?_⟩
  have hl10 := LwS.st (j := 6) (v := .int r7) (by omega) hl4
  show Vx (Ex S 24) S M_368 [] Q1 1268 (px_s1 (px_s1 lv 5 (.int r3)) 6 (.int r7)) [] h5 (c + 6) (s + 36)
  refine Vx.go hC te_368_1268 ?_
  refine ⟨by decide, ?_⟩
  exact Nx _ _ _ _ hl10 hL6 (by omega) (by omega)
theorem lc_25 {S : Nat × (Nat → Int32)} {lv : LV} {h : PH} {c s : Nat} {i : Int32} (hS : S.1 ≤ 3072) (hl : LwS lv i) (hi : 0 ≤ i.toInt ∧ i.toInt + 5 < S.1) (hL : LR h) (hc : c + 8 ≤ 601024) (hs : s + 48 ≤ 7293033) (Nx : ∀ lv' h' c' s', LwS lv' i → LR h' → c' ≤ c + 8 → s' ≤ s + 48 → Vx (Ex S 24) S M_368 [] Q1 2344 lv' [] h' c' s') : Vx (Ex S 24) S M_368 [] Q1 1271 lv [] h c s := by
  have hC := Ex.mono S 24
  refine Vx.go hC te_368_1271 ?_
  refine ⟨_, hl.2.1, ⟨0, Or.inl rfl⟩, ?_⟩
  refine sc_load hC (k := 1) hl te_368_1272 te_368_1273 te_368_1275 te_368_1276 te_368_1277 (sc_in hS hi (by decide)) ?_
  refine sc_load hC (k := 2) hl te_368_1278 te_368_1279 te_368_1281 te_368_1282 te_368_1283 (sc_in hS hi (by decide)) ?_
  refine sc_load hC (k := 3) hl te_368_1284 te_368_1285 te_368_1287 te_368_1288 te_368_1289 (sc_in hS hi (by decide)) ?_
  refine sc_load hC (k := 4) hl te_368_1290 te_368_1291 te_368_1293 te_368_1294 te_368_1295 (sc_in hS hi (by decide)) ?_
  refine Vx.go hC te_368_1296 ?_
  refine ⟨_, hl.2.2.2.1, ⟨173, Or.inl rfl⟩, ?_⟩
  refine Vx.go hC te_368_1297 ?_
  refine Or.inr ⟨by decide, ?_⟩
  refine p_call_mk (av := [.ref 0, .int (S.2 (i + Int32.ofInt 1).toNatClampNeg), .int (S.2 (i + Int32.ofInt 2).toNatClampNeg), .int (S.2 (i + Int32.ofInt 3).toNatClampNeg), .int (S.2 (i + Int32.ofInt 4).toNatClampNeg), .ref 173]) (rest := []) mt_158 rfl (by decide) (show c + 6 ≤ 601024 by omega) (show s + 36 ≤ 7293033 by omega) (fun q => by cases q) ?_
  refine g_158 (n := 6) hL (fun r3 h1 hL2 => ?_)
  show Vx (Ex S 24) S M_368 [] Q1 1300 lv [.int r3] h1 (c + 6) (s + 36)
  refine Vx.go hC te_368_1300 ?_
  refine ⟨by decide, ?_⟩
  have hl4 := LwS.st (j := 5) (v := .int r3) (by omega) hl
  show Vx (Ex S 24) S M_368 [] Q1 1302 (px_s1 lv 5 (.int r3)) [] h1 (c + 6) (s + 36)
  refine Vx.go hC te_368_1302 ?_
  refine ⟨_, hl4.2.2.1, ⟨143, Or.inl rfl⟩, ?_⟩
  refine sc_load hC (k := 1) hl4 te_368_1303 te_368_1304 te_368_1306 te_368_1307 te_368_1308 (sc_in hS hi (by decide)) ?_
  refine sc_load hC (k := 2) hl4 te_368_1309 te_368_1310 te_368_1312 te_368_1313 te_368_1314 (sc_in hS hi (by decide)) ?_
  refine sc_load hC (k := 3) hl4 te_368_1315 te_368_1316 te_368_1318 te_368_1319 te_368_1320 (sc_in hS hi (by decide)) ?_
  refine sc_load hC (k := 4) hl4 te_368_1321 te_368_1322 te_368_1324 te_368_1325 te_368_1326 (sc_in hS hi (by decide)) ?_
  refine Vx.go hC te_368_1327 ?_
  obtain ⟨gs8, gs8g⟩ := hL2.obj (A := 143) rfl
  have hcall9 := ref_call (S := S) (n := 24) (μ := 315) (args := [.inr 143, .inl ((S.2 (i + Int32.ofInt 1).toNatClampNeg) : Int32).toInt, .inl ((S.2 (i + Int32.ofInt 2).toNatClampNeg) : Int32).toInt, .inl ((S.2 (i + Int32.ofInt 3).toNatClampNeg) : Int32).toInt, .inl ((S.2 (i + Int32.ofInt 4).toNatClampNeg) : Int32).toInt]) (h := h1) (fun v hv => by simp only [List.mem_cons, List.not_mem_nil, or_false] at hv; rcases hv with rfl | rfl | rfl | rfl | rfl <;> first | trivial | exact wiI _) hL2 (fun mem hr => f_315 hr (fun r m' a b => ⟨a, b⟩))
  simp only [List.map_cons, List.map_nil, wv, Int32.ofInt_toInt] at hcall9
  refine p_call_mk (av := [.ref 143, .int (S.2 (i + Int32.ofInt 1).toNatClampNeg), .int (S.2 (i + Int32.ofInt 2).toNatClampNeg), .int (S.2 (i + Int32.ofInt 3).toNatClampNeg), .int (S.2 (i + Int32.ofInt 4).toNatClampNeg)]) (rest := []) mt_315 rfl (by decide) (show (c + 6) + 0 ≤ 601024 by omega) (show (s + 36) + 0 ≤ 7293033 by omega) (fun _ => ⟨143, gs8, rfl, gs8g⟩) ?_
  refine hC _ _ _ _ _ ?_ hcall9
  rintro _ h5 ⟨hL6, r7, rfl⟩
  show Vx (Ex S 24) S M_368 [] Q1 1330 (px_s1 lv 5 (.int r3)) [.int r7] h5 (c + 6) (s + 36)
  refine Vx.go hC te_368_1330 ?_
  refine ⟨by decide, ?_⟩
  have hl10 := LwS.st (j := 6) (v := .int r7) (by omega) hl4
  show Vx (Ex S 24) S M_368 [] Q1 1332 (px_s1 (px_s1 lv 5 (.int r3)) 6 (.int r7)) [] h5 (c + 6) (s + 36)
  refine Vx.go hC te_368_1332 ?_
  refine ⟨by decide, ?_⟩
  exact Nx _ _ _ _ hl10 hL6 (by omega) (by omega)
theorem lc_27 {S : Nat × (Nat → Int32)} {lv : LV} {h : PH} {c s : Nat} {i : Int32} (hS : S.1 ≤ 3072) (hl : LwS lv i) (hi : 0 ≤ i.toInt ∧ i.toInt + 5 < S.1) (hL : LR h) (hc : c + 8 ≤ 601024) (hs : s + 48 ≤ 7293033) (Nx : ∀ lv' h' c' s', LwS lv' i → LR h' → c' ≤ c + 8 → s' ≤ s + 48 → Vx (Ex S 24) S M_368 [] Q1 2344 lv' [] h' c' s') : Vx (Ex S 24) S M_368 [] Q1 1415 lv [] h c s := by
  have hC := Ex.mono S 24
  refine Vx.go hC te_368_1415 ?_
  refine ⟨_, hl.2.1, ⟨0, Or.inl rfl⟩, ?_⟩
  refine sc_load hC (k := 1) hl te_368_1416 te_368_1417 te_368_1419 te_368_1420 te_368_1421 (sc_in hS hi (by decide)) ?_
  refine sc_load hC (k := 2) hl te_368_1422 te_368_1423 te_368_1425 te_368_1426 te_368_1427 (sc_in hS hi (by decide)) ?_
  refine sc_load hC (k := 3) hl te_368_1428 te_368_1429 te_368_1431 te_368_1432 te_368_1433 (sc_in hS hi (by decide)) ?_
  refine Vx.go hC te_368_1434 ?_
  refine ⟨_, hl.2.2.2.1, ⟨173, Or.inl rfl⟩, ?_⟩
  refine Vx.go hC te_368_1435 ?_
  refine Or.inr ⟨by decide, ?_⟩
  refine p_call_mk (av := [.ref 0, .int (S.2 (i + Int32.ofInt 1).toNatClampNeg), .int (S.2 (i + Int32.ofInt 2).toNatClampNeg), .int (S.2 (i + Int32.ofInt 3).toNatClampNeg), .ref 173]) (rest := []) mt_168 rfl (by decide) (show c + 3 ≤ 601024 by omega) (show s + 18 ≤ 7293033 by omega) (fun q => by cases q) ?_
  refine g_168 (n := 6) hL (fun r3 h1 hL2 => ?_)
  show Vx (Ex S 24) S M_368 [] Q1 1438 lv [.int r3] h1 (c + 3) (s + 18)
  refine Vx.go hC te_368_1438 ?_
  refine ⟨by decide, ?_⟩
  have hl4 := LwS.st (j := 5) (v := .int r3) (by omega) hl
  show Vx (Ex S 24) S M_368 [] Q1 1440 (px_s1 lv 5 (.int r3)) [] h1 (c + 3) (s + 18)
  refine Vx.go hC te_368_1440 ?_
  refine ⟨_, hl4.2.2.1, ⟨143, Or.inl rfl⟩, ?_⟩
  refine sc_load hC (k := 1) hl4 te_368_1441 te_368_1442 te_368_1444 te_368_1445 te_368_1446 (sc_in hS hi (by decide)) ?_
  refine sc_load hC (k := 2) hl4 te_368_1447 te_368_1448 te_368_1450 te_368_1451 te_368_1452 (sc_in hS hi (by decide)) ?_
  refine sc_load hC (k := 3) hl4 te_368_1453 te_368_1454 te_368_1456 te_368_1457 te_368_1458 (sc_in hS hi (by decide)) ?_
  refine Vx.go hC te_368_1459 ?_
  obtain ⟨gs8, gs8g⟩ := hL2.obj (A := 143) rfl
  have hcall9 := ref_call (S := S) (n := 24) (μ := 327) (args := [.inr 143, .inl ((S.2 (i + Int32.ofInt 1).toNatClampNeg) : Int32).toInt, .inl ((S.2 (i + Int32.ofInt 2).toNatClampNeg) : Int32).toInt, .inl ((S.2 (i + Int32.ofInt 3).toNatClampNeg) : Int32).toInt]) (h := h1) (fun v hv => by simp only [List.mem_cons, List.not_mem_nil, or_false] at hv; rcases hv with rfl | rfl | rfl | rfl <;> first | trivial | exact wiI _) hL2 (fun mem hr => f_327 hr (fun r m' a b => ⟨a, b⟩))
  simp only [List.map_cons, List.map_nil, wv, Int32.ofInt_toInt] at hcall9
  refine p_call_mk (av := [.ref 143, .int (S.2 (i + Int32.ofInt 1).toNatClampNeg), .int (S.2 (i + Int32.ofInt 2).toNatClampNeg), .int (S.2 (i + Int32.ofInt 3).toNatClampNeg)]) (rest := []) mt_327 rfl (by decide) (show (c + 3) + 0 ≤ 601024 by omega) (show (s + 18) + 0 ≤ 7293033 by omega) (fun _ => ⟨143, gs8, rfl, gs8g⟩) ?_
  refine hC _ _ _ _ _ ?_ hcall9
  rintro _ h5 ⟨hL6, r7, rfl⟩
  show Vx (Ex S 24) S M_368 [] Q1 1462 (px_s1 lv 5 (.int r3)) [.int r7] h5 (c + 3) (s + 18)
  refine Vx.go hC te_368_1462 ?_
  refine ⟨by decide, ?_⟩
  have hl10 := LwS.st (j := 6) (v := .int r7) (by omega) hl4
  show Vx (Ex S 24) S M_368 [] Q1 1464 (px_s1 (px_s1 lv 5 (.int r3)) 6 (.int r7)) [] h5 (c + 3) (s + 18)
  refine Vx.go hC te_368_1464 ?_
  refine ⟨by decide, ?_⟩
  exact Nx _ _ _ _ hl10 hL6 (by omega) (by omega)
theorem lc_28 {S : Nat × (Nat → Int32)} {lv : LV} {h : PH} {c s : Nat} {i : Int32} (hS : S.1 ≤ 3072) (hl : LwS lv i) (hi : 0 ≤ i.toInt ∧ i.toInt + 5 < S.1) (hL : LR h) (hc : c + 8 ≤ 601024) (hs : s + 48 ≤ 7293033) (Nx : ∀ lv' h' c' s', LwS lv' i → LR h' → c' ≤ c + 8 → s' ≤ s + 48 → Vx (Ex S 24) S M_368 [] Q1 2344 lv' [] h' c' s') : Vx (Ex S 24) S M_368 [] Q1 1467 lv [] h c s := by
  have hC := Ex.mono S 24
  refine Vx.go hC te_368_1467 ?_
  refine ⟨_, hl.2.1, ⟨0, Or.inl rfl⟩, ?_⟩
  refine sc_load hC (k := 1) hl te_368_1468 te_368_1469 te_368_1471 te_368_1472 te_368_1473 (sc_in hS hi (by decide)) ?_
  refine sc_load hC (k := 2) hl te_368_1474 te_368_1475 te_368_1477 te_368_1478 te_368_1479 (sc_in hS hi (by decide)) ?_
  refine sc_load hC (k := 3) hl te_368_1480 te_368_1481 te_368_1483 te_368_1484 te_368_1485 (sc_in hS hi (by decide)) ?_
  refine sc_load hC (k := 4) hl te_368_1486 te_368_1487 te_368_1489 te_368_1490 te_368_1491 (sc_in hS hi (by decide)) ?_
  refine Vx.go hC te_368_1492 ?_
  refine ⟨_, hl.2.2.2.1, ⟨173, Or.inl rfl⟩, ?_⟩
  refine Vx.go hC te_368_1493 ?_
  refine Or.inr ⟨by decide, ?_⟩
  refine p_call_mk (av := [.ref 0, .int (S.2 (i + Int32.ofInt 1).toNatClampNeg), .int (S.2 (i + Int32.ofInt 2).toNatClampNeg), .int (S.2 (i + Int32.ofInt 3).toNatClampNeg), .int (S.2 (i + Int32.ofInt 4).toNatClampNeg), .ref 173]) (rest := []) mt_170 rfl (by decide) (show c + 7 ≤ 601024 by omega) (show s + 42 ≤ 7293033 by omega) (fun q => by cases q) ?_
  refine g_170 (n := 6) hL (fun r3 h1 hL2 => ?_)
  show Vx (Ex S 24) S M_368 [] Q1 1496 lv [.int r3] h1 (c + 7) (s + 42)
  refine Vx.go hC te_368_1496 ?_
  refine ⟨by decide, ?_⟩
  have hl4 := LwS.st (j := 5) (v := .int r3) (by omega) hl
  show Vx (Ex S 24) S M_368 [] Q1 1498 (px_s1 lv 5 (.int r3)) [] h1 (c + 7) (s + 42)
  refine Vx.go hC te_368_1498 ?_
  refine ⟨_, hl4.2.2.1, ⟨143, Or.inl rfl⟩, ?_⟩
  refine sc_load hC (k := 1) hl4 te_368_1499 te_368_1500 te_368_1502 te_368_1503 te_368_1504 (sc_in hS hi (by decide)) ?_
  refine sc_load hC (k := 2) hl4 te_368_1505 te_368_1506 te_368_1508 te_368_1509 te_368_1510 (sc_in hS hi (by decide)) ?_
  refine sc_load hC (k := 3) hl4 te_368_1511 te_368_1512 te_368_1514 te_368_1515 te_368_1516 (sc_in hS hi (by decide)) ?_
  refine sc_load hC (k := 4) hl4 te_368_1517 te_368_1518 te_368_1520 te_368_1521 te_368_1522 (sc_in hS hi (by decide)) ?_
  refine Vx.go hC te_368_1523 ?_
  obtain ⟨gs8, gs8g⟩ := hL2.obj (A := 143) rfl
  have hcall9 := ref_call (S := S) (n := 24) (μ := 331) (args := [.inr 143, .inl ((S.2 (i + Int32.ofInt 1).toNatClampNeg) : Int32).toInt, .inl ((S.2 (i + Int32.ofInt 2).toNatClampNeg) : Int32).toInt, .inl ((S.2 (i + Int32.ofInt 3).toNatClampNeg) : Int32).toInt, .inl ((S.2 (i + Int32.ofInt 4).toNatClampNeg) : Int32).toInt]) (h := h1) (fun v hv => by simp only [List.mem_cons, List.not_mem_nil, or_false] at hv; rcases hv with rfl | rfl | rfl | rfl | rfl <;> first | trivial | exact wiI _) hL2 (fun mem hr => f_331 (wiI _) hr (fun r m' a b => ⟨a, b⟩))
  simp only [List.map_cons, List.map_nil, wv, Int32.ofInt_toInt] at hcall9
  refine p_call_mk (av := [.ref 143, .int (S.2 (i + Int32.ofInt 1).toNatClampNeg), .int (S.2 (i + Int32.ofInt 2).toNatClampNeg), .int (S.2 (i + Int32.ofInt 3).toNatClampNeg), .int (S.2 (i + Int32.ofInt 4).toNatClampNeg)]) (rest := []) mt_331 rfl (by decide) (show (c + 7) + 0 ≤ 601024 by omega) (show (s + 42) + 0 ≤ 7293033 by omega) (fun _ => ⟨143, gs8, rfl, gs8g⟩) ?_
  refine hC _ _ _ _ _ ?_ hcall9
  rintro _ h5 ⟨hL6, r7, rfl⟩
  show Vx (Ex S 24) S M_368 [] Q1 1526 (px_s1 lv 5 (.int r3)) [.int r7] h5 (c + 7) (s + 42)
  refine Vx.go hC te_368_1526 ?_
  refine ⟨by decide, ?_⟩
  have hl10 := LwS.st (j := 6) (v := .int r7) (by omega) hl4
  show Vx (Ex S 24) S M_368 [] Q1 1528 (px_s1 (px_s1 lv 5 (.int r3)) 6 (.int r7)) [] h5 (c + 7) (s + 42)
  refine Vx.go hC te_368_1528 ?_
  refine ⟨by decide, ?_⟩
  exact Nx _ _ _ _ hl10 hL6 (by omega) (by omega)
theorem lc_29 {S : Nat × (Nat → Int32)} {lv : LV} {h : PH} {c s : Nat} {i : Int32} (hS : S.1 ≤ 3072) (hl : LwS lv i) (hi : 0 ≤ i.toInt ∧ i.toInt + 5 < S.1) (hL : LR h) (hc : c + 8 ≤ 601024) (hs : s + 48 ≤ 7293033) (Nx : ∀ lv' h' c' s', LwS lv' i → LR h' → c' ≤ c + 8 → s' ≤ s + 48 → Vx (Ex S 24) S M_368 [] Q1 2344 lv' [] h' c' s') : Vx (Ex S 24) S M_368 [] Q1 1531 lv [] h c s := by
  have hC := Ex.mono S 24
  refine Vx.go hC te_368_1531 ?_
  refine ⟨_, hl.2.1, ⟨0, Or.inl rfl⟩, ?_⟩
  refine sc_load hC (k := 1) hl te_368_1532 te_368_1533 te_368_1535 te_368_1536 te_368_1537 (sc_in hS hi (by decide)) ?_
  refine sc_load hC (k := 2) hl te_368_1538 te_368_1539 te_368_1541 te_368_1542 te_368_1543 (sc_in hS hi (by decide)) ?_
  refine Vx.go hC te_368_1544 ?_
  refine ⟨by decide, fun q => ?_, fun q => ?_⟩
  · show Vx (Ex S 24) S M_368 [] Q1 1551 lv [.int (S.2 (i + Int32.ofInt 1).toNatClampNeg), .ref 0] h c s
    refine Vx.go hC te_368_1551 ?_
    refine Vx.go hC te_368_1552 ?_
    refine ⟨_, hl.2.2.2.1, ⟨173, Or.inl rfl⟩, ?_⟩
    refine Vx.go hC te_368_1553 ?_
    refine Or.inr ⟨by decide, ?_⟩
    refine p_call_mk (av := [.ref 0, .int (S.2 (i + Int32.ofInt 1).toNatClampNeg), .int (Int32.ofInt 0), .ref 173]) (rest := []) mt_172 rfl (by decide) (show c + 3 ≤ 601024 by omega) (show s + 18 ≤ 7293033 by omega) (fun q => by cases q) ?_
    refine g_172 (n := 6) hL (fun r3 h1 hL2 => ?_)
    show Vx (Ex S 24) S M_368 [] Q1 1556 lv [.int r3] h1 (c + 3) (s + 18)
    refine Vx.go hC te_368_1556 ?_
    refine ⟨by decide, ?_⟩
    have hl4 := LwS.st (j := 5) (v := .int r3) (by omega) hl
    show Vx (Ex S 24) S M_368 [] Q1 1558 (px_s1 lv 5 (.int r3)) [] h1 (c + 3) (s + 18)
    refine Vx.go hC te_368_1558 ?_
    refine ⟨_, hl4.2.2.1, ⟨143, Or.inl rfl⟩, ?_⟩
    refine sc_load hC (k := 1) hl4 te_368_1559 te_368_1560 te_368_1562 te_368_1563 te_368_1564 (sc_in hS hi (by decide)) ?_
    refine sc_load hC (k := 2) hl4 te_368_1565 te_368_1566 te_368_1568 te_368_1569 te_368_1570 (sc_in hS hi (by decide)) ?_
    refine Vx.go hC te_368_1571 ?_
    refine ⟨by decide, fun q => ?_, fun q => ?_⟩
    · show Vx (Ex S 24) S M_368 [] Q1 1578 (px_s1 lv 5 (.int r3)) [.int (S.2 (i + Int32.ofInt 1).toNatClampNeg), .ref 143] h1 (c + 3) (s + 18)
      refine Vx.go hC te_368_1578 ?_
      refine Vx.go hC te_368_1579 ?_
      obtain ⟨gs8, gs8g⟩ := hL2.obj (A := 143) rfl
      have hcall9 := ref_call (S := S) (n := 24) (μ := 332) (args := [.inr 143, .inl ((S.2 (i + Int32.ofInt 1).toNatClampNeg) : Int32).toInt, .inl ((Int32.ofInt 0) : Int32).toInt]) (h := h1) (fun v hv => by simp only [List.mem_cons, List.not_mem_nil, or_false] at hv; rcases hv with rfl | rfl | rfl <;> first | trivial | exact wiI _) hL2 (fun mem hr => f_332 hr (fun r m' a b => ⟨a, b⟩))
      simp only [List.map_cons, List.map_nil, wv, Int32.ofInt_toInt] at hcall9
      refine p_call_mk (av := [.ref 143, .int (S.2 (i + Int32.ofInt 1).toNatClampNeg), .int (Int32.ofInt 0)]) (rest := []) mt_332 rfl (by decide) (show (c + 3) + 0 ≤ 601024 by omega) (show (s + 18) + 0 ≤ 7293033 by omega) (fun _ => ⟨143, gs8, rfl, gs8g⟩) ?_
      refine hC _ _ _ _ _ ?_ hcall9
      rintro _ h5 ⟨hL6, r7, rfl⟩
      show Vx (Ex S 24) S M_368 [] Q1 1582 (px_s1 lv 5 (.int r3)) [.int r7] h5 (c + 3) (s + 18)
      refine Vx.go hC te_368_1582 ?_
      refine ⟨by decide, ?_⟩
      have hl10 := LwS.st (j := 6) (v := .int r7) (by omega) hl4
      show Vx (Ex S 24) S M_368 [] Q1 1584 (px_s1 (px_s1 lv 5 (.int r3)) 6 (.int r7)) [] h5 (c + 3) (s + 18)
      refine Vx.go hC te_368_1584 ?_
      refine ⟨by decide, ?_⟩
      exact Nx _ _ _ _ hl10 hL6 (by omega) (by omega)
    · show Vx (Ex S 24) S M_368 [] Q1 1574 (px_s1 lv 5 (.int r3)) [.int (S.2 (i + Int32.ofInt 1).toNatClampNeg), .ref 143] h1 (c + 3) (s + 18)
      refine Vx.go hC te_368_1574 ?_
      refine Vx.go hC te_368_1575 ?_
      refine ⟨by decide, ?_⟩
      show Vx (Ex S 24) S M_368 [] Q1 1579 (px_s1 lv 5 (.int r3)) [.int (Int32.ofInt 1), .int (S.2 (i + Int32.ofInt 1).toNatClampNeg), .ref 143] h1 (c + 3) (s + 18)
      refine Vx.go hC te_368_1579 ?_
      obtain ⟨gs14, gs14g⟩ := hL2.obj (A := 143) rfl
      have hcall15 := ref_call (S := S) (n := 24) (μ := 332) (args := [.inr 143, .inl ((S.2 (i + Int32.ofInt 1).toNatClampNeg) : Int32).toInt, .inl ((Int32.ofInt 1) : Int32).toInt]) (h := h1) (fun v hv => by simp only [List.mem_cons, List.not_mem_nil, or_false] at hv; rcases hv with rfl | rfl | rfl <;> first | trivial | exact wiI _) hL2 (fun mem hr => f_332 hr (fun r m' a b => ⟨a, b⟩))
      simp only [List.map_cons, List.map_nil, wv, Int32.ofInt_toInt] at hcall15
      refine p_call_mk (av := [.ref 143, .int (S.2 (i + Int32.ofInt 1).toNatClampNeg), .int (Int32.ofInt 1)]) (rest := []) mt_332 rfl (by decide) (show (c + 3) + 0 ≤ 601024 by omega) (show (s + 18) + 0 ≤ 7293033 by omega) (fun _ => ⟨143, gs14, rfl, gs14g⟩) ?_
      refine hC _ _ _ _ _ ?_ hcall15
      rintro _ h11 ⟨hL12, r13, rfl⟩
      show Vx (Ex S 24) S M_368 [] Q1 1582 (px_s1 lv 5 (.int r3)) [.int r13] h11 (c + 3) (s + 18)
      refine Vx.go hC te_368_1582 ?_
      refine ⟨by decide, ?_⟩
      have hl16 := LwS.st (j := 6) (v := .int r13) (by omega) hl4
      show Vx (Ex S 24) S M_368 [] Q1 1584 (px_s1 (px_s1 lv 5 (.int r3)) 6 (.int r13)) [] h11 (c + 3) (s + 18)
      refine Vx.go hC te_368_1584 ?_
      refine ⟨by decide, ?_⟩
      exact Nx _ _ _ _ hl16 hL12 (by omega) (by omega)
  · show Vx (Ex S 24) S M_368 [] Q1 1547 lv [.int (S.2 (i + Int32.ofInt 1).toNatClampNeg), .ref 0] h c s
    refine Vx.go hC te_368_1547 ?_
    refine Vx.go hC te_368_1548 ?_
    refine ⟨by decide, ?_⟩
    show Vx (Ex S 24) S M_368 [] Q1 1552 lv [.int (Int32.ofInt 1), .int (S.2 (i + Int32.ofInt 1).toNatClampNeg), .ref 0] h c s
    refine Vx.go hC te_368_1552 ?_
    refine ⟨_, hl.2.2.2.1, ⟨173, Or.inl rfl⟩, ?_⟩
    refine Vx.go hC te_368_1553 ?_
    refine Or.inr ⟨by decide, ?_⟩
    refine p_call_mk (av := [.ref 0, .int (S.2 (i + Int32.ofInt 1).toNatClampNeg), .int (Int32.ofInt 1), .ref 173]) (rest := []) mt_172 rfl (by decide) (show c + 3 ≤ 601024 by omega) (show s + 18 ≤ 7293033 by omega) (fun q => by cases q) ?_
    refine g_172 (n := 6) hL (fun r19 h17 hL18 => ?_)
    show Vx (Ex S 24) S M_368 [] Q1 1556 lv [.int r19] h17 (c + 3) (s + 18)
    refine Vx.go hC te_368_1556 ?_
    refine ⟨by decide, ?_⟩
    have hl20 := LwS.st (j := 5) (v := .int r19) (by omega) hl
    show Vx (Ex S 24) S M_368 [] Q1 1558 (px_s1 lv 5 (.int r19)) [] h17 (c + 3) (s + 18)
    refine Vx.go hC te_368_1558 ?_
    refine ⟨_, hl20.2.2.1, ⟨143, Or.inl rfl⟩, ?_⟩
    refine sc_load hC (k := 1) hl20 te_368_1559 te_368_1560 te_368_1562 te_368_1563 te_368_1564 (sc_in hS hi (by decide)) ?_
    refine sc_load hC (k := 2) hl20 te_368_1565 te_368_1566 te_368_1568 te_368_1569 te_368_1570 (sc_in hS hi (by decide)) ?_
    refine Vx.go hC te_368_1571 ?_
    refine ⟨by decide, fun q => ?_, fun q => ?_⟩
    · show Vx (Ex S 24) S M_368 [] Q1 1578 (px_s1 lv 5 (.int r19)) [.int (S.2 (i + Int32.ofInt 1).toNatClampNeg), .ref 143] h17 (c + 3) (s + 18)
      refine Vx.go hC te_368_1578 ?_
      refine Vx.go hC te_368_1579 ?_
      obtain ⟨gs24, gs24g⟩ := hL18.obj (A := 143) rfl
      have hcall25 := ref_call (S := S) (n := 24) (μ := 332) (args := [.inr 143, .inl ((S.2 (i + Int32.ofInt 1).toNatClampNeg) : Int32).toInt, .inl ((Int32.ofInt 0) : Int32).toInt]) (h := h17) (fun v hv => by simp only [List.mem_cons, List.not_mem_nil, or_false] at hv; rcases hv with rfl | rfl | rfl <;> first | trivial | exact wiI _) hL18 (fun mem hr => f_332 hr (fun r m' a b => ⟨a, b⟩))
      simp only [List.map_cons, List.map_nil, wv, Int32.ofInt_toInt] at hcall25
      refine p_call_mk (av := [.ref 143, .int (S.2 (i + Int32.ofInt 1).toNatClampNeg), .int (Int32.ofInt 0)]) (rest := []) mt_332 rfl (by decide) (show (c + 3) + 0 ≤ 601024 by omega) (show (s + 18) + 0 ≤ 7293033 by omega) (fun _ => ⟨143, gs24, rfl, gs24g⟩) ?_
      refine hC _ _ _ _ _ ?_ hcall25
      rintro _ h21 ⟨hL22, r23, rfl⟩
      show Vx (Ex S 24) S M_368 [] Q1 1582 (px_s1 lv 5 (.int r19)) [.int r23] h21 (c + 3) (s + 18)
      refine Vx.go hC te_368_1582 ?_
      refine ⟨by decide, ?_⟩
      have hl26 := LwS.st (j := 6) (v := .int r23) (by omega) hl20
      show Vx (Ex S 24) S M_368 [] Q1 1584 (px_s1 (px_s1 lv 5 (.int r19)) 6 (.int r23)) [] h21 (c + 3) (s + 18)
      refine Vx.go hC te_368_1584 ?_
      refine ⟨by decide, ?_⟩
      exact Nx _ _ _ _ hl26 hL22 (by omega) (by omega)
    · show Vx (Ex S 24) S M_368 [] Q1 1574 (px_s1 lv 5 (.int r19)) [.int (S.2 (i + Int32.ofInt 1).toNatClampNeg), .ref 143] h17 (c + 3) (s + 18)
      refine Vx.go hC te_368_1574 ?_
      refine Vx.go hC te_368_1575 ?_
      refine ⟨by decide, ?_⟩
      show Vx (Ex S 24) S M_368 [] Q1 1579 (px_s1 lv 5 (.int r19)) [.int (Int32.ofInt 1), .int (S.2 (i + Int32.ofInt 1).toNatClampNeg), .ref 143] h17 (c + 3) (s + 18)
      refine Vx.go hC te_368_1579 ?_
      obtain ⟨gs30, gs30g⟩ := hL18.obj (A := 143) rfl
      have hcall31 := ref_call (S := S) (n := 24) (μ := 332) (args := [.inr 143, .inl ((S.2 (i + Int32.ofInt 1).toNatClampNeg) : Int32).toInt, .inl ((Int32.ofInt 1) : Int32).toInt]) (h := h17) (fun v hv => by simp only [List.mem_cons, List.not_mem_nil, or_false] at hv; rcases hv with rfl | rfl | rfl <;> first | trivial | exact wiI _) hL18 (fun mem hr => f_332 hr (fun r m' a b => ⟨a, b⟩))
      simp only [List.map_cons, List.map_nil, wv, Int32.ofInt_toInt] at hcall31
      refine p_call_mk (av := [.ref 143, .int (S.2 (i + Int32.ofInt 1).toNatClampNeg), .int (Int32.ofInt 1)]) (rest := []) mt_332 rfl (by decide) (show (c + 3) + 0 ≤ 601024 by omega) (show (s + 18) + 0 ≤ 7293033 by omega) (fun _ => ⟨143, gs30, rfl, gs30g⟩) ?_
      refine hC _ _ _ _ _ ?_ hcall31
      rintro _ h27 ⟨hL28, r29, rfl⟩
      show Vx (Ex S 24) S M_368 [] Q1 1582 (px_s1 lv 5 (.int r19)) [.int r29] h27 (c + 3) (s + 18)
      refine Vx.go hC te_368_1582 ?_
      refine ⟨by decide, ?_⟩
      have hl32 := LwS.st (j := 6) (v := .int r29) (by omega) hl20
      show Vx (Ex S 24) S M_368 [] Q1 1584 (px_s1 (px_s1 lv 5 (.int r19)) 6 (.int r29)) [] h27 (c + 3) (s + 18)
      refine Vx.go hC te_368_1584 ?_
      refine ⟨by decide, ?_⟩
      exact Nx _ _ _ _ hl32 hL28 (by omega) (by omega)
theorem lc_30 {S : Nat × (Nat → Int32)} {lv : LV} {h : PH} {c s : Nat} {i : Int32} (hS : S.1 ≤ 3072) (hl : LwS lv i) (hi : 0 ≤ i.toInt ∧ i.toInt + 5 < S.1) (hL : LR h) (hc : c + 8 ≤ 601024) (hs : s + 48 ≤ 7293033) (Nx : ∀ lv' h' c' s', LwS lv' i → LR h' → c' ≤ c + 8 → s' ≤ s + 48 → Vx (Ex S 24) S M_368 [] Q1 2344 lv' [] h' c' s') : Vx (Ex S 24) S M_368 [] Q1 1587 lv [] h c s := by
  have hC := Ex.mono S 24
  refine Vx.go hC te_368_1587 ?_
  refine ⟨_, hl.2.1, ⟨0, Or.inl rfl⟩, ?_⟩
  refine sc_load hC (k := 1) hl te_368_1588 te_368_1589 te_368_1591 te_368_1592 te_368_1593 (sc_in hS hi (by decide)) ?_
  refine sc_load hC (k := 2) hl te_368_1594 te_368_1595 te_368_1597 te_368_1598 te_368_1599 (sc_in hS hi (by decide)) ?_
  refine sc_load hC (k := 3) hl te_368_1600 te_368_1601 te_368_1603 te_368_1604 te_368_1605 (sc_in hS hi (by decide)) ?_
  refine Vx.go hC te_368_1606 ?_
  refine ⟨by decide, fun q => ?_, fun q => ?_⟩
  · show Vx (Ex S 24) S M_368 [] Q1 1613 lv [.int (S.2 (i + Int32.ofInt 2).toNatClampNeg), .int (S.2 (i + Int32.ofInt 1).toNatClampNeg), .ref 0] h c s
    refine Vx.go hC te_368_1613 ?_
    refine Vx.go hC te_368_1614 ?_
    refine ⟨_, hl.2.2.2.1, ⟨173, Or.inl rfl⟩, ?_⟩
    refine Vx.go hC te_368_1615 ?_
    refine Or.inr ⟨by decide, ?_⟩
    refine p_call_mk (av := [.ref 0, .int (S.2 (i + Int32.ofInt 1).toNatClampNeg), .int (S.2 (i + Int32.ofInt 2).toNatClampNeg), .int (Int32.ofInt 0), .ref 173]) (rest := []) mt_174 rfl (by decide) (show c + 5 ≤ 601024 by omega) (show s + 30 ≤ 7293033 by omega) (fun q => by cases q) ?_
    refine g_174 (n := 6) hL (fun r3 h1 hL2 => ?_)
    show Vx (Ex S 24) S M_368 [] Q1 1618 lv [.int r3] h1 (c + 5) (s + 30)
    refine Vx.go hC te_368_1618 ?_
    refine ⟨by decide, ?_⟩
    have hl4 := LwS.st (j := 5) (v := .int r3) (by omega) hl
    show Vx (Ex S 24) S M_368 [] Q1 1620 (px_s1 lv 5 (.int r3)) [] h1 (c + 5) (s + 30)
    refine Vx.go hC te_368_1620 ?_
    refine ⟨_, hl4.2.2.1, ⟨143, Or.inl rfl⟩, ?_⟩
    refine sc_load hC (k := 1) hl4 te_368_1621 te_368_1622 te_368_1624 te_368_1625 te_368_1626 (sc_in hS hi (by decide)) ?_
    refine sc_load hC (k := 2) hl4 te_368_1627 te_368_1628 te_368_1630 te_368_1631 te_368_1632 (sc_in hS hi (by decide)) ?_
    refine sc_load hC (k := 3) hl4 te_368_1633 te_368_1634 te_368_1636 te_368_1637 te_368_1638 (sc_in hS hi (by decide)) ?_
    refine Vx.go hC te_368_1639 ?_
    refine ⟨by decide, fun q => ?_, fun q => ?_⟩
    · show Vx (Ex S 24) S M_368 [] Q1 1646 (px_s1 lv 5 (.int r3)) [.int (S.2 (i + Int32.ofInt 2).toNatClampNeg), .int (S.2 (i + Int32.ofInt 1).toNatClampNeg), .ref 143] h1 (c + 5) (s + 30)
      refine Vx.go hC te_368_1646 ?_
      refine Vx.go hC te_368_1647 ?_
      obtain ⟨gs8, gs8g⟩ := hL2.obj (A := 143) rfl
      have hcall9 := ref_call (S := S) (n := 24) (μ := 333) (args := [.inr 143, .inl ((S.2 (i + Int32.ofInt 1).toNatClampNeg) : Int32).toInt, .inl ((S.2 (i + Int32.ofInt 2).toNatClampNeg) : Int32).toInt, .inl ((Int32.ofInt 0) : Int32).toInt]) (h := h1) (fun v hv => by simp only [List.mem_cons, List.not_mem_nil, or_false] at hv; rcases hv with rfl | rfl | rfl | rfl <;> first | trivial | exact wiI _) hL2 (fun mem hr => f_333 hr (fun r m' a b => ⟨a, b⟩))
      simp only [List.map_cons, List.map_nil, wv, Int32.ofInt_toInt] at hcall9
      refine p_call_mk (av := [.ref 143, .int (S.2 (i + Int32.ofInt 1).toNatClampNeg), .int (S.2 (i + Int32.ofInt 2).toNatClampNeg), .int (Int32.ofInt 0)]) (rest := []) mt_333 rfl (by decide) (show (c + 5) + 0 ≤ 601024 by omega) (show (s + 30) + 0 ≤ 7293033 by omega) (fun _ => ⟨143, gs8, rfl, gs8g⟩) ?_
      refine hC _ _ _ _ _ ?_ hcall9
      rintro _ h5 ⟨hL6, r7, rfl⟩
      show Vx (Ex S 24) S M_368 [] Q1 1650 (px_s1 lv 5 (.int r3)) [.int r7] h5 (c + 5) (s + 30)
      refine Vx.go hC te_368_1650 ?_
      refine ⟨by decide, ?_⟩
      have hl10 := LwS.st (j := 6) (v := .int r7) (by omega) hl4
      show Vx (Ex S 24) S M_368 [] Q1 1652 (px_s1 (px_s1 lv 5 (.int r3)) 6 (.int r7)) [] h5 (c + 5) (s + 30)
      refine Vx.go hC te_368_1652 ?_
      refine ⟨by decide, ?_⟩
      exact Nx _ _ _ _ hl10 hL6 (by omega) (by omega)
    · show Vx (Ex S 24) S M_368 [] Q1 1642 (px_s1 lv 5 (.int r3)) [.int (S.2 (i + Int32.ofInt 2).toNatClampNeg), .int (S.2 (i + Int32.ofInt 1).toNatClampNeg), .ref 143] h1 (c + 5) (s + 30)
      refine Vx.go hC te_368_1642 ?_
      refine Vx.go hC te_368_1643 ?_
      refine ⟨by decide, ?_⟩
      show Vx (Ex S 24) S M_368 [] Q1 1647 (px_s1 lv 5 (.int r3)) [.int (Int32.ofInt 1), .int (S.2 (i + Int32.ofInt 2).toNatClampNeg), .int (S.2 (i + Int32.ofInt 1).toNatClampNeg), .ref 143] h1 (c + 5) (s + 30)
      refine Vx.go hC te_368_1647 ?_
      obtain ⟨gs14, gs14g⟩ := hL2.obj (A := 143) rfl
      have hcall15 := ref_call (S := S) (n := 24) (μ := 333) (args := [.inr 143, .inl ((S.2 (i + Int32.ofInt 1).toNatClampNeg) : Int32).toInt, .inl ((S.2 (i + Int32.ofInt 2).toNatClampNeg) : Int32).toInt, .inl ((Int32.ofInt 1) : Int32).toInt]) (h := h1) (fun v hv => by simp only [List.mem_cons, List.not_mem_nil, or_false] at hv; rcases hv with rfl | rfl | rfl | rfl <;> first | trivial | exact wiI _) hL2 (fun mem hr => f_333 hr (fun r m' a b => ⟨a, b⟩))
      simp only [List.map_cons, List.map_nil, wv, Int32.ofInt_toInt] at hcall15
      refine p_call_mk (av := [.ref 143, .int (S.2 (i + Int32.ofInt 1).toNatClampNeg), .int (S.2 (i + Int32.ofInt 2).toNatClampNeg), .int (Int32.ofInt 1)]) (rest := []) mt_333 rfl (by decide) (show (c + 5) + 0 ≤ 601024 by omega) (show (s + 30) + 0 ≤ 7293033 by omega) (fun _ => ⟨143, gs14, rfl, gs14g⟩) ?_
      refine hC _ _ _ _ _ ?_ hcall15
      rintro _ h11 ⟨hL12, r13, rfl⟩
      show Vx (Ex S 24) S M_368 [] Q1 1650 (px_s1 lv 5 (.int r3)) [.int r13] h11 (c + 5) (s + 30)
      refine Vx.go hC te_368_1650 ?_
      refine ⟨by decide, ?_⟩
      have hl16 := LwS.st (j := 6) (v := .int r13) (by omega) hl4
      show Vx (Ex S 24) S M_368 [] Q1 1652 (px_s1 (px_s1 lv 5 (.int r3)) 6 (.int r13)) [] h11 (c + 5) (s + 30)
      refine Vx.go hC te_368_1652 ?_
      refine ⟨by decide, ?_⟩
      exact Nx _ _ _ _ hl16 hL12 (by omega) (by omega)
  · show Vx (Ex S 24) S M_368 [] Q1 1609 lv [.int (S.2 (i + Int32.ofInt 2).toNatClampNeg), .int (S.2 (i + Int32.ofInt 1).toNatClampNeg), .ref 0] h c s
    refine Vx.go hC te_368_1609 ?_
    refine Vx.go hC te_368_1610 ?_
    refine ⟨by decide, ?_⟩
    show Vx (Ex S 24) S M_368 [] Q1 1614 lv [.int (Int32.ofInt 1), .int (S.2 (i + Int32.ofInt 2).toNatClampNeg), .int (S.2 (i + Int32.ofInt 1).toNatClampNeg), .ref 0] h c s
    refine Vx.go hC te_368_1614 ?_
    refine ⟨_, hl.2.2.2.1, ⟨173, Or.inl rfl⟩, ?_⟩
    refine Vx.go hC te_368_1615 ?_
    refine Or.inr ⟨by decide, ?_⟩
    refine p_call_mk (av := [.ref 0, .int (S.2 (i + Int32.ofInt 1).toNatClampNeg), .int (S.2 (i + Int32.ofInt 2).toNatClampNeg), .int (Int32.ofInt 1), .ref 173]) (rest := []) mt_174 rfl (by decide) (show c + 5 ≤ 601024 by omega) (show s + 30 ≤ 7293033 by omega) (fun q => by cases q) ?_
    refine g_174 (n := 6) hL (fun r19 h17 hL18 => ?_)
    show Vx (Ex S 24) S M_368 [] Q1 1618 lv [.int r19] h17 (c + 5) (s + 30)
    refine Vx.go hC te_368_1618 ?_
    refine ⟨by decide, ?_⟩
    have hl20 := LwS.st (j := 5) (v := .int r19) (by omega) hl
    show Vx (Ex S 24) S M_368 [] Q1 1620 (px_s1 lv 5 (.int r19)) [] h17 (c + 5) (s + 30)
    refine Vx.go hC te_368_1620 ?_
    refine ⟨_, hl20.2.2.1, ⟨143, Or.inl rfl⟩, ?_⟩
    refine sc_load hC (k := 1) hl20 te_368_1621 te_368_1622 te_368_1624 te_368_1625 te_368_1626 (sc_in hS hi (by decide)) ?_
    refine sc_load hC (k := 2) hl20 te_368_1627 te_368_1628 te_368_1630 te_368_1631 te_368_1632 (sc_in hS hi (by decide)) ?_
    refine sc_load hC (k := 3) hl20 te_368_1633 te_368_1634 te_368_1636 te_368_1637 te_368_1638 (sc_in hS hi (by decide)) ?_
    refine Vx.go hC te_368_1639 ?_
    refine ⟨by decide, fun q => ?_, fun q => ?_⟩
    · show Vx (Ex S 24) S M_368 [] Q1 1646 (px_s1 lv 5 (.int r19)) [.int (S.2 (i + Int32.ofInt 2).toNatClampNeg), .int (S.2 (i + Int32.ofInt 1).toNatClampNeg), .ref 143] h17 (c + 5) (s + 30)
      refine Vx.go hC te_368_1646 ?_
      refine Vx.go hC te_368_1647 ?_
      obtain ⟨gs24, gs24g⟩ := hL18.obj (A := 143) rfl
      have hcall25 := ref_call (S := S) (n := 24) (μ := 333) (args := [.inr 143, .inl ((S.2 (i + Int32.ofInt 1).toNatClampNeg) : Int32).toInt, .inl ((S.2 (i + Int32.ofInt 2).toNatClampNeg) : Int32).toInt, .inl ((Int32.ofInt 0) : Int32).toInt]) (h := h17) (fun v hv => by simp only [List.mem_cons, List.not_mem_nil, or_false] at hv; rcases hv with rfl | rfl | rfl | rfl <;> first | trivial | exact wiI _) hL18 (fun mem hr => f_333 hr (fun r m' a b => ⟨a, b⟩))
      simp only [List.map_cons, List.map_nil, wv, Int32.ofInt_toInt] at hcall25
      refine p_call_mk (av := [.ref 143, .int (S.2 (i + Int32.ofInt 1).toNatClampNeg), .int (S.2 (i + Int32.ofInt 2).toNatClampNeg), .int (Int32.ofInt 0)]) (rest := []) mt_333 rfl (by decide) (show (c + 5) + 0 ≤ 601024 by omega) (show (s + 30) + 0 ≤ 7293033 by omega) (fun _ => ⟨143, gs24, rfl, gs24g⟩) ?_
      refine hC _ _ _ _ _ ?_ hcall25
      rintro _ h21 ⟨hL22, r23, rfl⟩
      show Vx (Ex S 24) S M_368 [] Q1 1650 (px_s1 lv 5 (.int r19)) [.int r23] h21 (c + 5) (s + 30)
      refine Vx.go hC te_368_1650 ?_
      refine ⟨by decide, ?_⟩
      have hl26 := LwS.st (j := 6) (v := .int r23) (by omega) hl20
      show Vx (Ex S 24) S M_368 [] Q1 1652 (px_s1 (px_s1 lv 5 (.int r19)) 6 (.int r23)) [] h21 (c + 5) (s + 30)
      refine Vx.go hC te_368_1652 ?_
      refine ⟨by decide, ?_⟩
      exact Nx _ _ _ _ hl26 hL22 (by omega) (by omega)
    · show Vx (Ex S 24) S M_368 [] Q1 1642 (px_s1 lv 5 (.int r19)) [.int (S.2 (i + Int32.ofInt 2).toNatClampNeg), .int (S.2 (i + Int32.ofInt 1).toNatClampNeg), .ref 143] h17 (c + 5) (s + 30)
      refine Vx.go hC te_368_1642 ?_
      refine Vx.go hC te_368_1643 ?_
      refine ⟨by decide, ?_⟩
      show Vx (Ex S 24) S M_368 [] Q1 1647 (px_s1 lv 5 (.int r19)) [.int (Int32.ofInt 1), .int (S.2 (i + Int32.ofInt 2).toNatClampNeg), .int (S.2 (i + Int32.ofInt 1).toNatClampNeg), .ref 143] h17 (c + 5) (s + 30)
      refine Vx.go hC te_368_1647 ?_
      obtain ⟨gs30, gs30g⟩ := hL18.obj (A := 143) rfl
      have hcall31 := ref_call (S := S) (n := 24) (μ := 333) (args := [.inr 143, .inl ((S.2 (i + Int32.ofInt 1).toNatClampNeg) : Int32).toInt, .inl ((S.2 (i + Int32.ofInt 2).toNatClampNeg) : Int32).toInt, .inl ((Int32.ofInt 1) : Int32).toInt]) (h := h17) (fun v hv => by simp only [List.mem_cons, List.not_mem_nil, or_false] at hv; rcases hv with rfl | rfl | rfl | rfl <;> first | trivial | exact wiI _) hL18 (fun mem hr => f_333 hr (fun r m' a b => ⟨a, b⟩))
      simp only [List.map_cons, List.map_nil, wv, Int32.ofInt_toInt] at hcall31
      refine p_call_mk (av := [.ref 143, .int (S.2 (i + Int32.ofInt 1).toNatClampNeg), .int (S.2 (i + Int32.ofInt 2).toNatClampNeg), .int (Int32.ofInt 1)]) (rest := []) mt_333 rfl (by decide) (show (c + 5) + 0 ≤ 601024 by omega) (show (s + 30) + 0 ≤ 7293033 by omega) (fun _ => ⟨143, gs30, rfl, gs30g⟩) ?_
      refine hC _ _ _ _ _ ?_ hcall31
      rintro _ h27 ⟨hL28, r29, rfl⟩
      show Vx (Ex S 24) S M_368 [] Q1 1650 (px_s1 lv 5 (.int r19)) [.int r29] h27 (c + 5) (s + 30)
      refine Vx.go hC te_368_1650 ?_
      refine ⟨by decide, ?_⟩
      have hl32 := LwS.st (j := 6) (v := .int r29) (by omega) hl20
      show Vx (Ex S 24) S M_368 [] Q1 1652 (px_s1 (px_s1 lv 5 (.int r19)) 6 (.int r29)) [] h27 (c + 5) (s + 30)
      refine Vx.go hC te_368_1652 ?_
      refine ⟨by decide, ?_⟩
      exact Nx _ _ _ _ hl32 hL28 (by omega) (by omega)
theorem lc_31 {S : Nat × (Nat → Int32)} {lv : LV} {h : PH} {c s : Nat} {i : Int32} (hS : S.1 ≤ 3072) (hl : LwS lv i) (hi : 0 ≤ i.toInt ∧ i.toInt + 5 < S.1) (hL : LR h) (hc : c + 8 ≤ 601024) (hs : s + 48 ≤ 7293033) (Nx : ∀ lv' h' c' s', LwS lv' i → LR h' → c' ≤ c + 8 → s' ≤ s + 48 → Vx (Ex S 24) S M_368 [] Q1 2344 lv' [] h' c' s') : Vx (Ex S 24) S M_368 [] Q1 1655 lv [] h c s := by
  have hC := Ex.mono S 24
  refine Vx.go hC te_368_1655 ?_
  refine ⟨_, hl.2.1, ⟨0, Or.inl rfl⟩, ?_⟩
  refine sc_load hC (k := 1) hl te_368_1656 te_368_1657 te_368_1659 te_368_1660 te_368_1661 (sc_in hS hi (by decide)) ?_
  refine Vx.go hC te_368_1662 ?_
  refine ⟨_, hl.2.2.2.1, ⟨173, Or.inl rfl⟩, ?_⟩
  refine Vx.go hC te_368_1663 ?_
  refine Or.inr ⟨by decide, ?_⟩
  refine p_call_mk (av := [.ref 0, .int (S.2 (i + Int32.ofInt 1).toNatClampNeg), .ref 173]) (rest := []) mt_177 rfl (by decide) (show c + 3 ≤ 601024 by omega) (show s + 18 ≤ 7293033 by omega) (fun q => by cases q) ?_
  refine g_177 (n := 6) hL (fun r3 h1 hL2 => ?_)
  show Vx (Ex S 24) S M_368 [] Q1 1666 lv [.int r3] h1 (c + 3) (s + 18)
  refine Vx.go hC te_368_1666 ?_
  refine ⟨by decide, ?_⟩
  have hl4 := LwS.st (j := 5) (v := .int r3) (by omega) hl
  show Vx (Ex S 24) S M_368 [] Q1 1668 (px_s1 lv 5 (.int r3)) [] h1 (c + 3) (s + 18)
  refine Vx.go hC te_368_1668 ?_
  refine ⟨_, hl4.2.2.1, ⟨143, Or.inl rfl⟩, ?_⟩
  refine sc_load hC (k := 1) hl4 te_368_1669 te_368_1670 te_368_1672 te_368_1673 te_368_1674 (sc_in hS hi (by decide)) ?_
  refine Vx.go hC te_368_1675 ?_
  obtain ⟨gs8, gs8g⟩ := hL2.obj (A := 143) rfl
  have hcall9 := ref_call (S := S) (n := 24) (μ := 337) (args := [.inr 143, .inl ((S.2 (i + Int32.ofInt 1).toNatClampNeg) : Int32).toInt]) (h := h1) (fun v hv => by simp only [List.mem_cons, List.not_mem_nil, or_false] at hv; rcases hv with rfl | rfl <;> first | trivial | exact wiI _) hL2 (fun mem hr => f_337 hr (fun r m' a b => ⟨a, b⟩))
  simp only [List.map_cons, List.map_nil, wv, Int32.ofInt_toInt] at hcall9
  refine p_call_mk (av := [.ref 143, .int (S.2 (i + Int32.ofInt 1).toNatClampNeg)]) (rest := []) mt_337 rfl (by decide) (show (c + 3) + 0 ≤ 601024 by omega) (show (s + 18) + 0 ≤ 7293033 by omega) (fun _ => ⟨143, gs8, rfl, gs8g⟩) ?_
  refine hC _ _ _ _ _ ?_ hcall9
  rintro _ h5 ⟨hL6, r7, rfl⟩
  show Vx (Ex S 24) S M_368 [] Q1 1678 (px_s1 lv 5 (.int r3)) [.int r7] h5 (c + 3) (s + 18)
  refine Vx.go hC te_368_1678 ?_
  refine ⟨by decide, ?_⟩
  have hl10 := LwS.st (j := 6) (v := .int r7) (by omega) hl4
  show Vx (Ex S 24) S M_368 [] Q1 1680 (px_s1 (px_s1 lv 5 (.int r3)) 6 (.int r7)) [] h5 (c + 3) (s + 18)
  refine Vx.go hC te_368_1680 ?_
  refine ⟨by decide, ?_⟩
  exact Nx _ _ _ _ hl10 hL6 (by omega) (by omega)
theorem lc_32 {S : Nat × (Nat → Int32)} {lv : LV} {h : PH} {c s : Nat} {i : Int32} (hS : S.1 ≤ 3072) (hl : LwS lv i) (hi : 0 ≤ i.toInt ∧ i.toInt + 5 < S.1) (hL : LR h) (hc : c + 8 ≤ 601024) (hs : s + 48 ≤ 7293033) (Nx : ∀ lv' h' c' s', LwS lv' i → LR h' → c' ≤ c + 8 → s' ≤ s + 48 → Vx (Ex S 24) S M_368 [] Q1 2344 lv' [] h' c' s') : Vx (Ex S 24) S M_368 [] Q1 1683 lv [] h c s := by
  have hC := Ex.mono S 24
  refine Vx.go hC te_368_1683 ?_
  refine ⟨_, hl.2.1, ⟨0, Or.inl rfl⟩, ?_⟩
  refine sc_load hC (k := 1) hl te_368_1684 te_368_1685 te_368_1687 te_368_1688 te_368_1689 (sc_in hS hi (by decide)) ?_
  refine sc_load hC (k := 2) hl te_368_1690 te_368_1691 te_368_1693 te_368_1694 te_368_1695 (sc_in hS hi (by decide)) ?_
  refine sc_load hC (k := 3) hl te_368_1696 te_368_1697 te_368_1699 te_368_1700 te_368_1701 (sc_in hS hi (by decide)) ?_
  refine Vx.go hC te_368_1702 ?_
  refine ⟨_, hl.2.2.2.1, ⟨173, Or.inl rfl⟩, ?_⟩
  refine Vx.go hC te_368_1703 ?_
  refine Or.inr ⟨by decide, ?_⟩
  refine p_call_mk (av := [.ref 0, .int (S.2 (i + Int32.ofInt 1).toNatClampNeg), .int (S.2 (i + Int32.ofInt 2).toNatClampNeg), .int (S.2 (i + Int32.ofInt 3).toNatClampNeg), .ref 173]) (rest := []) mt_182 rfl (by decide) (show c + 6 ≤ 601024 by omega) (show s + 36 ≤ 7293033 by omega) (fun q => by cases q) ?_
  refine g_182 (n := 6) hL (fun r3 h1 hL2 => ?_)
  show Vx (Ex S 24) S M_368 [] Q1 1706 lv [.int r3] h1 (c + 6) (s + 36)
  refine Vx.go hC te_368_1706 ?_
  refine ⟨by decide, ?_⟩
  have hl4 := LwS.st (j := 5) (v := .int r3) (by omega) hl
  show Vx (Ex S 24) S M_368 [] Q1 1708 (px_s1 lv 5 (.int r3)) [] h1 (c + 6) (s + 36)
  refine Vx.go hC te_368_1708 ?_
  refine ⟨_, hl4.2.2.1, ⟨143, Or.inl rfl⟩, ?_⟩
  refine sc_load hC (k := 1) hl4 te_368_1709 te_368_1710 te_368_1712 te_368_1713 te_368_1714 (sc_in hS hi (by decide)) ?_
  refine sc_load hC (k := 2) hl4 te_368_1715 te_368_1716 te_368_1718 te_368_1719 te_368_1720 (sc_in hS hi (by decide)) ?_
  refine sc_load hC (k := 3) hl4 te_368_1721 te_368_1722 te_368_1724 te_368_1725 te_368_1726 (sc_in hS hi (by decide)) ?_
  refine Vx.go hC te_368_1727 ?_
  obtain ⟨gs8, gs8g⟩ := hL2.obj (A := 143) rfl
  have hcall9 := ref_call (S := S) (n := 24) (μ := 342) (args := [.inr 143, .inl ((S.2 (i + Int32.ofInt 1).toNatClampNeg) : Int32).toInt, .inl ((S.2 (i + Int32.ofInt 2).toNatClampNeg) : Int32).toInt, .inl ((S.2 (i + Int32.ofInt 3).toNatClampNeg) : Int32).toInt]) (h := h1) (fun v hv => by simp only [List.mem_cons, List.not_mem_nil, or_false] at hv; rcases hv with rfl | rfl | rfl | rfl <;> first | trivial | exact wiI _) hL2 (fun mem hr => f_342 hr (fun r m' a b => ⟨a, b⟩))
  simp only [List.map_cons, List.map_nil, wv, Int32.ofInt_toInt] at hcall9
  refine p_call_mk (av := [.ref 143, .int (S.2 (i + Int32.ofInt 1).toNatClampNeg), .int (S.2 (i + Int32.ofInt 2).toNatClampNeg), .int (S.2 (i + Int32.ofInt 3).toNatClampNeg)]) (rest := []) mt_342 rfl (by decide) (show (c + 6) + 0 ≤ 601024 by omega) (show (s + 36) + 0 ≤ 7293033 by omega) (fun _ => ⟨143, gs8, rfl, gs8g⟩) ?_
  refine hC _ _ _ _ _ ?_ hcall9
  rintro _ h5 ⟨hL6, r7, rfl⟩
  show Vx (Ex S 24) S M_368 [] Q1 1730 (px_s1 lv 5 (.int r3)) [.int r7] h5 (c + 6) (s + 36)
  refine Vx.go hC te_368_1730 ?_
  refine ⟨by decide, ?_⟩
  have hl10 := LwS.st (j := 6) (v := .int r7) (by omega) hl4
  show Vx (Ex S 24) S M_368 [] Q1 1732 (px_s1 (px_s1 lv 5 (.int r3)) 6 (.int r7)) [] h5 (c + 6) (s + 36)
  refine Vx.go hC te_368_1732 ?_
  refine ⟨by decide, ?_⟩
  exact Nx _ _ _ _ hl10 hL6 (by omega) (by omega)
theorem lc_33 {S : Nat × (Nat → Int32)} {lv : LV} {h : PH} {c s : Nat} {i : Int32} (hS : S.1 ≤ 3072) (hl : LwS lv i) (hi : 0 ≤ i.toInt ∧ i.toInt + 5 < S.1) (hL : LR h) (hc : c + 8 ≤ 601024) (hs : s + 48 ≤ 7293033) (Nx : ∀ lv' h' c' s', LwS lv' i → LR h' → c' ≤ c + 8 → s' ≤ s + 48 → Vx (Ex S 24) S M_368 [] Q1 2344 lv' [] h' c' s') : Vx (Ex S 24) S M_368 [] Q1 1735 lv [] h c s := by
  have hC := Ex.mono S 24
  refine Vx.go hC te_368_1735 ?_
  refine ⟨_, hl.2.1, ⟨0, Or.inl rfl⟩, ?_⟩
  refine sc_load hC (k := 1) hl te_368_1736 te_368_1737 te_368_1739 te_368_1740 te_368_1741 (sc_in hS hi (by decide)) ?_
  refine sc_load hC (k := 2) hl te_368_1742 te_368_1743 te_368_1745 te_368_1746 te_368_1747 (sc_in hS hi (by decide)) ?_
  refine sc_load hC (k := 3) hl te_368_1748 te_368_1749 te_368_1751 te_368_1752 te_368_1753 (sc_in hS hi (by decide)) ?_
  refine sc_load hC (k := 4) hl te_368_1754 te_368_1755 te_368_1757 te_368_1758 te_368_1759 (sc_in hS hi (by decide)) ?_
  refine sc_load hC (k := 5) hl te_368_1760 te_368_1761 te_368_1763 te_368_1764 te_368_1765 (sc_in hS hi (by decide)) ?_
  refine Vx.go hC te_368_1766 ?_
  refine ⟨_, hl.2.2.2.1, ⟨173, Or.inl rfl⟩, ?_⟩
  refine Vx.go hC te_368_1767 ?_
  refine Or.inr ⟨by decide, ?_⟩
  refine p_call_mk (av := [.ref 0, .int (S.2 (i + Int32.ofInt 1).toNatClampNeg), .int (S.2 (i + Int32.ofInt 2).toNatClampNeg), .int (S.2 (i + Int32.ofInt 3).toNatClampNeg), .int (S.2 (i + Int32.ofInt 4).toNatClampNeg), .int (S.2 (i + Int32.ofInt 5).toNatClampNeg), .ref 173]) (rest := []) mt_184 rfl (by decide) (show c + 8 ≤ 601024 by omega) (show s + 48 ≤ 7293033 by omega) (fun q => by cases q) ?_
  refine g_184 (n := 6) hL (fun r3 h1 hL2 => ?_)
  show Vx (Ex S 24) S M_368 [] Q1 1770 lv [.int r3] h1 (c + 8) (s + 48)
  refine Vx.go hC te_368_1770 ?_
  refine ⟨by decide, ?_⟩
  have hl4 := LwS.st (j := 5) (v := .int r3) (by omega) hl
  show Vx (Ex S 24) S M_368 [] Q1 1772 (px_s1 lv 5 (.int r3)) [] h1 (c + 8) (s + 48)
  refine Vx.go hC te_368_1772 ?_
  refine ⟨_, hl4.2.2.1, ⟨143, Or.inl rfl⟩, ?_⟩
  refine sc_load hC (k := 1) hl4 te_368_1773 te_368_1774 te_368_1776 te_368_1777 te_368_1778 (sc_in hS hi (by decide)) ?_
  refine sc_load hC (k := 2) hl4 te_368_1779 te_368_1780 te_368_1782 te_368_1783 te_368_1784 (sc_in hS hi (by decide)) ?_
  refine sc_load hC (k := 3) hl4 te_368_1785 te_368_1786 te_368_1788 te_368_1789 te_368_1790 (sc_in hS hi (by decide)) ?_
  refine sc_load hC (k := 4) hl4 te_368_1791 te_368_1792 te_368_1794 te_368_1795 te_368_1796 (sc_in hS hi (by decide)) ?_
  refine sc_load hC (k := 5) hl4 te_368_1797 te_368_1798 te_368_1800 te_368_1801 te_368_1802 (sc_in hS hi (by decide)) ?_
  refine Vx.go hC te_368_1803 ?_
  obtain ⟨gs8, gs8g⟩ := hL2.obj (A := 143) rfl
  have hcall9 := ref_call (S := S) (n := 24) (μ := 326) (args := [.inr 143, .inl ((S.2 (i + Int32.ofInt 1).toNatClampNeg) : Int32).toInt, .inl ((S.2 (i + Int32.ofInt 2).toNatClampNeg) : Int32).toInt, .inl ((S.2 (i + Int32.ofInt 3).toNatClampNeg) : Int32).toInt, .inl ((S.2 (i + Int32.ofInt 4).toNatClampNeg) : Int32).toInt, .inl ((S.2 (i + Int32.ofInt 5).toNatClampNeg) : Int32).toInt]) (h := h1) (fun v hv => by simp only [List.mem_cons, List.not_mem_nil, or_false] at hv; rcases hv with rfl | rfl | rfl | rfl | rfl | rfl <;> first | trivial | exact wiI _) hL2 (fun mem hr => f_326 hr (fun r m' a b => ⟨a, b⟩))
  simp only [List.map_cons, List.map_nil, wv, Int32.ofInt_toInt] at hcall9
  refine p_call_mk (av := [.ref 143, .int (S.2 (i + Int32.ofInt 1).toNatClampNeg), .int (S.2 (i + Int32.ofInt 2).toNatClampNeg), .int (S.2 (i + Int32.ofInt 3).toNatClampNeg), .int (S.2 (i + Int32.ofInt 4).toNatClampNeg), .int (S.2 (i + Int32.ofInt 5).toNatClampNeg)]) (rest := []) mt_326 rfl (by decide) (show (c + 8) + 0 ≤ 601024 by omega) (show (s + 48) + 0 ≤ 7293033 by omega) (fun _ => ⟨143, gs8, rfl, gs8g⟩) ?_
  refine hC _ _ _ _ _ ?_ hcall9
  rintro _ h5 ⟨hL6, r7, rfl⟩
  show Vx (Ex S 24) S M_368 [] Q1 1806 (px_s1 lv 5 (.int r3)) [.int r7] h5 (c + 8) (s + 48)
  refine Vx.go hC te_368_1806 ?_
  refine ⟨by decide, ?_⟩
  have hl10 := LwS.st (j := 6) (v := .int r7) (by omega) hl4
  show Vx (Ex S 24) S M_368 [] Q1 1808 (px_s1 (px_s1 lv 5 (.int r3)) 6 (.int r7)) [] h5 (c + 8) (s + 48)
  refine Vx.go hC te_368_1808 ?_
  refine ⟨by decide, ?_⟩
  exact Nx _ _ _ _ hl10 hL6 (by omega) (by omega)
