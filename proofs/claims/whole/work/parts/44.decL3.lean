theorem dL_law_1040 : decode code 1040 = .ok (.aload_n 2, 1) := by decide +kernel
theorem dL_law_1041 : decode code 1041 = .ok (.aload_n 0, 1) := by decide +kernel
theorem dL_law_1042 : decode code 1042 = .ok (.iload 4, 2) := by decide +kernel
theorem dL_law_1044 : decode code 1044 = .ok (.iconst 1, 1) := by decide +kernel
theorem dL_law_1045 : decode code 1045 = .ok (.iadd, 1) := by decide +kernel
theorem dL_law_1046 : decode code 1046 = .ok (.iaload, 1) := by decide +kernel
theorem dL_law_1047 : decode code 1047 = .ok (.aload_n 0, 1) := by decide +kernel
theorem dL_law_1048 : decode code 1048 = .ok (.iload 4, 2) := by decide +kernel
theorem dL_law_1050 : decode code 1050 = .ok (.iconst 2, 1) := by decide +kernel
theorem dL_law_1051 : decode code 1051 = .ok (.iadd, 1) := by decide +kernel
theorem dL_law_1052 : decode code 1052 = .ok (.iaload, 1) := by decide +kernel
theorem dL_law_1053 : decode code 1053 = .ok (.invokevirtual 129, 3) := by decide +kernel
theorem dL_law_1056 : decode code 1056 = .ok (.istore 6, 2) := by decide +kernel
theorem dL_law_1058 : decode code 1058 = .ok (.aload_n 2, 1) := by decide +kernel
theorem dL_law_1059 : decode code 1059 = .ok (.invokevirtual 85, 3) := by decide +kernel
theorem dL_law_1062 : decode code 1062 = .ok (.iload 5, 2) := by decide +kernel
theorem dL_law_1064 : decode code 1064 = .ok (.if_icmp .eq 5, 3) := by decide +kernel
theorem dL_law_1067 : decode code 1067 = .ok (.iconst 0, 1) := by decide +kernel
theorem dL_law_1068 : decode code 1068 = .ok (.ireturn, 1) := by decide +kernel
theorem dL_law_1069 : decode code 1069 = .ok (.iload 5, 2) := by decide +kernel
theorem dL_law_1071 : decode code 1071 = .ok (.ifCond .ne 22, 3) := by decide +kernel
theorem dL_law_1074 : decode code 1074 = .ok (.aload_n 3, 1) := by decide +kernel
theorem dL_law_1075 : decode code 1075 = .ok (.iconst 0, 1) := by decide +kernel
theorem dL_law_1076 : decode code 1076 = .ok (.laload, 1) := by decide +kernel
theorem dL_law_1077 : decode code 1077 = .ok (.iload 6, 2) := by decide +kernel
theorem dL_law_1079 : decode code 1079 = .ok (.ifCond .eq 7, 3) := by decide +kernel
theorem dL_law_1082 : decode code 1082 = .ok (.lconst 1, 1) := by decide +kernel
theorem dL_law_1083 : decode code 1083 = .ok (.goto 4, 3) := by decide +kernel
theorem dL_law_1086 : decode code 1086 = .ok (.lconst 0, 1) := by decide +kernel
theorem dL_law_1087 : decode code 1087 = .ok (.lcmp, 1) := by decide +kernel
theorem dL_law_1088 : decode code 1088 = .ok (.ifCond .eq 5, 3) := by decide +kernel
theorem dL_law_1091 : decode code 1091 = .ok (.iconst 0, 1) := by decide +kernel
theorem dL_law_1092 : decode code 1092 = .ok (.ireturn, 1) := by decide +kernel
theorem dL_law_1093 : decode code 1093 = .ok (.goto 251, 3) := by decide +kernel
theorem dL_law_1096 : decode code 1096 = .ok (.aload_n 1, 1) := by decide +kernel
theorem dL_law_1097 : decode code 1097 = .ok (.aload_n 0, 1) := by decide +kernel
theorem dL_law_1098 : decode code 1098 = .ok (.iload 4, 2) := by decide +kernel
theorem dL_law_1100 : decode code 1100 = .ok (.iconst 1, 1) := by decide +kernel
theorem dL_law_1101 : decode code 1101 = .ok (.iadd, 1) := by decide +kernel
theorem dL_law_1102 : decode code 1102 = .ok (.iaload, 1) := by decide +kernel
theorem dL_law_1103 : decode code 1103 = .ok (.aload_n 0, 1) := by decide +kernel
theorem dL_law_1104 : decode code 1104 = .ok (.iload 4, 2) := by decide +kernel
theorem dL_law_1106 : decode code 1106 = .ok (.iconst 2, 1) := by decide +kernel
theorem dL_law_1107 : decode code 1107 = .ok (.iadd, 1) := by decide +kernel
theorem dL_law_1108 : decode code 1108 = .ok (.iaload, 1) := by decide +kernel
theorem dL_law_1109 : decode code 1109 = .ok (.aload_n 3, 1) := by decide +kernel
theorem dL_law_1110 : decode code 1110 = .ok (.invokestatic 130, 3) := by decide +kernel
theorem dL_law_1113 : decode code 1113 = .ok (.istore 5, 2) := by decide +kernel
theorem dL_law_1115 : decode code 1115 = .ok (.aload_n 2, 1) := by decide +kernel
theorem dL_law_1116 : decode code 1116 = .ok (.aload_n 0, 1) := by decide +kernel
theorem dL_law_1117 : decode code 1117 = .ok (.iload 4, 2) := by decide +kernel
theorem dL_law_1119 : decode code 1119 = .ok (.iconst 1, 1) := by decide +kernel
theorem dL_law_1120 : decode code 1120 = .ok (.iadd, 1) := by decide +kernel
theorem dL_law_1121 : decode code 1121 = .ok (.iaload, 1) := by decide +kernel
theorem dL_law_1122 : decode code 1122 = .ok (.aload_n 0, 1) := by decide +kernel
theorem dL_law_1123 : decode code 1123 = .ok (.iload 4, 2) := by decide +kernel
theorem dL_law_1125 : decode code 1125 = .ok (.iconst 2, 1) := by decide +kernel
theorem dL_law_1126 : decode code 1126 = .ok (.iadd, 1) := by decide +kernel
theorem dL_law_1127 : decode code 1127 = .ok (.iaload, 1) := by decide +kernel
theorem dL_law_1128 : decode code 1128 = .ok (.invokevirtual 132, 3) := by decide +kernel
theorem dL_law_1131 : decode code 1131 = .ok (.istore 6, 2) := by decide +kernel
theorem dL_law_1133 : decode code 1133 = .ok (.aload_n 2, 1) := by decide +kernel
theorem dL_law_1134 : decode code 1134 = .ok (.invokevirtual 85, 3) := by decide +kernel
theorem dL_law_1137 : decode code 1137 = .ok (.iload 5, 2) := by decide +kernel
theorem dL_law_1139 : decode code 1139 = .ok (.if_icmp .eq 5, 3) := by decide +kernel
theorem dL_law_1142 : decode code 1142 = .ok (.iconst 0, 1) := by decide +kernel
theorem dL_law_1143 : decode code 1143 = .ok (.ireturn, 1) := by decide +kernel
theorem dL_law_1144 : decode code 1144 = .ok (.iload 5, 2) := by decide +kernel
theorem dL_law_1146 : decode code 1146 = .ok (.ifCond .ne 15, 3) := by decide +kernel
theorem dL_law_1149 : decode code 1149 = .ok (.aload_n 3, 1) := by decide +kernel
theorem dL_law_1150 : decode code 1150 = .ok (.iconst 0, 1) := by decide +kernel
theorem dL_law_1151 : decode code 1151 = .ok (.laload, 1) := by decide +kernel
theorem dL_law_1152 : decode code 1152 = .ok (.iload 6, 2) := by decide +kernel
theorem dL_law_1154 : decode code 1154 = .ok (.i2l, 1) := by decide +kernel
theorem dL_law_1155 : decode code 1155 = .ok (.lcmp, 1) := by decide +kernel
theorem dL_law_1156 : decode code 1156 = .ok (.ifCond .eq 5, 3) := by decide +kernel
theorem dL_law_1159 : decode code 1159 = .ok (.iconst 0, 1) := by decide +kernel
theorem dL_law_1160 : decode code 1160 = .ok (.ireturn, 1) := by decide +kernel
theorem dL_law_1161 : decode code 1161 = .ok (.goto 183, 3) := by decide +kernel
theorem dL_law_1164 : decode code 1164 = .ok (.aload_n 1, 1) := by decide +kernel
theorem dL_law_1165 : decode code 1165 = .ok (.aload_n 0, 1) := by decide +kernel
theorem dL_law_1166 : decode code 1166 = .ok (.iload 4, 2) := by decide +kernel
theorem dL_law_1168 : decode code 1168 = .ok (.iconst 1, 1) := by decide +kernel
theorem dL_law_1169 : decode code 1169 = .ok (.iadd, 1) := by decide +kernel
theorem dL_law_1170 : decode code 1170 = .ok (.iaload, 1) := by decide +kernel
theorem dL_law_1171 : decode code 1171 = .ok (.aload_n 0, 1) := by decide +kernel
theorem dL_law_1172 : decode code 1172 = .ok (.iload 4, 2) := by decide +kernel
theorem dL_law_1174 : decode code 1174 = .ok (.iconst 2, 1) := by decide +kernel
theorem dL_law_1175 : decode code 1175 = .ok (.iadd, 1) := by decide +kernel
theorem dL_law_1176 : decode code 1176 = .ok (.iaload, 1) := by decide +kernel
theorem dL_law_1177 : decode code 1177 = .ok (.aload_n 3, 1) := by decide +kernel
theorem dL_law_1178 : decode code 1178 = .ok (.invokestatic 133, 3) := by decide +kernel
theorem dL_law_1181 : decode code 1181 = .ok (.istore 5, 2) := by decide +kernel
theorem dL_law_1183 : decode code 1183 = .ok (.aload_n 2, 1) := by decide +kernel
theorem dL_law_1184 : decode code 1184 = .ok (.aload_n 0, 1) := by decide +kernel
theorem dL_law_1185 : decode code 1185 = .ok (.iload 4, 2) := by decide +kernel
theorem dL_law_1187 : decode code 1187 = .ok (.iconst 1, 1) := by decide +kernel
theorem dL_law_1188 : decode code 1188 = .ok (.iadd, 1) := by decide +kernel
theorem dL_law_1189 : decode code 1189 = .ok (.iaload, 1) := by decide +kernel
theorem dL_law_1190 : decode code 1190 = .ok (.aload_n 0, 1) := by decide +kernel
theorem dL_law_1191 : decode code 1191 = .ok (.iload 4, 2) := by decide +kernel
theorem dL_law_1193 : decode code 1193 = .ok (.iconst 2, 1) := by decide +kernel
theorem dL_law_1194 : decode code 1194 = .ok (.iadd, 1) := by decide +kernel
theorem dL_law_1195 : decode code 1195 = .ok (.iaload, 1) := by decide +kernel
theorem dL_law_1196 : decode code 1196 = .ok (.invokevirtual 135, 3) := by decide +kernel
theorem dL_law_1199 : decode code 1199 = .ok (.istore 6, 2) := by decide +kernel
theorem dL_law_1201 : decode code 1201 = .ok (.aload_n 2, 1) := by decide +kernel
theorem dL_law_1202 : decode code 1202 = .ok (.invokevirtual 85, 3) := by decide +kernel
theorem dL_law_1205 : decode code 1205 = .ok (.iload 5, 2) := by decide +kernel
theorem dL_law_1207 : decode code 1207 = .ok (.if_icmp .eq 5, 3) := by decide +kernel
theorem dL_law_1210 : decode code 1210 = .ok (.iconst 0, 1) := by decide +kernel
theorem dL_law_1211 : decode code 1211 = .ok (.ireturn, 1) := by decide +kernel
theorem dL_law_1212 : decode code 1212 = .ok (.iload 5, 2) := by decide +kernel
theorem dL_law_1214 : decode code 1214 = .ok (.ifCond .ne 15, 3) := by decide +kernel
theorem dL_law_1217 : decode code 1217 = .ok (.aload_n 3, 1) := by decide +kernel
theorem dL_law_1218 : decode code 1218 = .ok (.iconst 0, 1) := by decide +kernel
theorem dL_law_1219 : decode code 1219 = .ok (.laload, 1) := by decide +kernel
theorem dL_law_1220 : decode code 1220 = .ok (.iload 6, 2) := by decide +kernel
theorem dL_law_1222 : decode code 1222 = .ok (.i2l, 1) := by decide +kernel
theorem dL_law_1223 : decode code 1223 = .ok (.lcmp, 1) := by decide +kernel
theorem dL_law_1224 : decode code 1224 = .ok (.ifCond .eq 5, 3) := by decide +kernel
theorem dL_law_1227 : decode code 1227 = .ok (.iconst 0, 1) := by decide +kernel
theorem dL_law_1228 : decode code 1228 = .ok (.ireturn, 1) := by decide +kernel
theorem dL_law_1229 : decode code 1229 = .ok (.goto 115, 3) := by decide +kernel
theorem dL_law_1232 : decode code 1232 = .ok (.aload_n 1, 1) := by decide +kernel
theorem dL_law_1233 : decode code 1233 = .ok (.aload_n 0, 1) := by decide +kernel
theorem dL_law_1234 : decode code 1234 = .ok (.iload 4, 2) := by decide +kernel
theorem dL_law_1236 : decode code 1236 = .ok (.iconst 1, 1) := by decide +kernel
theorem dL_law_1237 : decode code 1237 = .ok (.iadd, 1) := by decide +kernel
theorem dL_law_1238 : decode code 1238 = .ok (.iaload, 1) := by decide +kernel
theorem dL_law_1239 : decode code 1239 = .ok (.aload_n 3, 1) := by decide +kernel
theorem dL_law_1240 : decode code 1240 = .ok (.invokestatic 136, 3) := by decide +kernel
theorem dL_law_1243 : decode code 1243 = .ok (.istore 5, 2) := by decide +kernel
theorem dL_law_1245 : decode code 1245 = .ok (.aload_n 2, 1) := by decide +kernel
theorem dL_law_1246 : decode code 1246 = .ok (.aload_n 0, 1) := by decide +kernel
theorem dL_law_1247 : decode code 1247 = .ok (.iload 4, 2) := by decide +kernel
theorem dL_law_1249 : decode code 1249 = .ok (.iconst 1, 1) := by decide +kernel
theorem dL_law_1250 : decode code 1250 = .ok (.iadd, 1) := by decide +kernel
theorem dL_law_1251 : decode code 1251 = .ok (.iaload, 1) := by decide +kernel
theorem dL_law_1252 : decode code 1252 = .ok (.invokevirtual 138, 3) := by decide +kernel
theorem dL_law_1255 : decode code 1255 = .ok (.istore 6, 2) := by decide +kernel
theorem dL_law_1257 : decode code 1257 = .ok (.aload_n 2, 1) := by decide +kernel
theorem dL_law_1258 : decode code 1258 = .ok (.invokevirtual 85, 3) := by decide +kernel
theorem dL_law_1261 : decode code 1261 = .ok (.iload 5, 2) := by decide +kernel
theorem dL_law_1263 : decode code 1263 = .ok (.if_icmp .eq 5, 3) := by decide +kernel
theorem dL_law_1266 : decode code 1266 = .ok (.iconst 0, 1) := by decide +kernel
theorem dL_law_1267 : decode code 1267 = .ok (.ireturn, 1) := by decide +kernel
theorem dL_law_1268 : decode code 1268 = .ok (.iload 5, 2) := by decide +kernel
theorem dL_law_1270 : decode code 1270 = .ok (.ifCond .ne 15, 3) := by decide +kernel
theorem dL_law_1273 : decode code 1273 = .ok (.aload_n 3, 1) := by decide +kernel
theorem dL_law_1274 : decode code 1274 = .ok (.iconst 0, 1) := by decide +kernel
theorem dL_law_1275 : decode code 1275 = .ok (.laload, 1) := by decide +kernel
theorem dL_law_1276 : decode code 1276 = .ok (.iload 6, 2) := by decide +kernel
theorem dL_law_1278 : decode code 1278 = .ok (.i2l, 1) := by decide +kernel
theorem dL_law_1279 : decode code 1279 = .ok (.lcmp, 1) := by decide +kernel
theorem dL_law_1280 : decode code 1280 = .ok (.ifCond .eq 5, 3) := by decide +kernel
theorem dL_law_1283 : decode code 1283 = .ok (.iconst 0, 1) := by decide +kernel
theorem dL_law_1284 : decode code 1284 = .ok (.ireturn, 1) := by decide +kernel
theorem dL_law_1285 : decode code 1285 = .ok (.goto 59, 3) := by decide +kernel
theorem dL_law_1288 : decode code 1288 = .ok (.aload_n 1, 1) := by decide +kernel
theorem dL_law_1289 : decode code 1289 = .ok (.aload_n 0, 1) := by decide +kernel
theorem dL_law_1290 : decode code 1290 = .ok (.iload 4, 2) := by decide +kernel
theorem dL_law_1292 : decode code 1292 = .ok (.iconst 1, 1) := by decide +kernel
theorem dL_law_1293 : decode code 1293 = .ok (.iadd, 1) := by decide +kernel
theorem dL_law_1294 : decode code 1294 = .ok (.iaload, 1) := by decide +kernel
theorem dL_law_1295 : decode code 1295 = .ok (.aload_n 3, 1) := by decide +kernel
theorem dL_law_1296 : decode code 1296 = .ok (.invokestatic 139, 3) := by decide +kernel
theorem dL_law_1299 : decode code 1299 = .ok (.istore 5, 2) := by decide +kernel
theorem dL_law_1301 : decode code 1301 = .ok (.aload_n 2, 1) := by decide +kernel
theorem dL_law_1302 : decode code 1302 = .ok (.aload_n 0, 1) := by decide +kernel
theorem dL_law_1303 : decode code 1303 = .ok (.iload 4, 2) := by decide +kernel
theorem dL_law_1305 : decode code 1305 = .ok (.iconst 1, 1) := by decide +kernel
theorem dL_law_1306 : decode code 1306 = .ok (.iadd, 1) := by decide +kernel
theorem dL_law_1307 : decode code 1307 = .ok (.iaload, 1) := by decide +kernel
theorem dL_law_1308 : decode code 1308 = .ok (.invokevirtual 141, 3) := by decide +kernel
theorem dL_law_1311 : decode code 1311 = .ok (.istore 6, 2) := by decide +kernel
theorem dL_law_1313 : decode code 1313 = .ok (.aload_n 2, 1) := by decide +kernel
theorem dL_law_1314 : decode code 1314 = .ok (.invokevirtual 85, 3) := by decide +kernel
theorem dL_law_1317 : decode code 1317 = .ok (.iload 5, 2) := by decide +kernel
theorem dL_law_1319 : decode code 1319 = .ok (.if_icmp .eq 5, 3) := by decide +kernel
theorem dL_law_1322 : decode code 1322 = .ok (.iconst 0, 1) := by decide +kernel
theorem dL_law_1323 : decode code 1323 = .ok (.ireturn, 1) := by decide +kernel
theorem dL_law_1324 : decode code 1324 = .ok (.iload 5, 2) := by decide +kernel
theorem dL_law_1326 : decode code 1326 = .ok (.ifCond .ne 15, 3) := by decide +kernel
theorem dL_law_1329 : decode code 1329 = .ok (.aload_n 3, 1) := by decide +kernel
theorem dL_law_1330 : decode code 1330 = .ok (.iconst 0, 1) := by decide +kernel
theorem dL_law_1331 : decode code 1331 = .ok (.laload, 1) := by decide +kernel
theorem dL_law_1332 : decode code 1332 = .ok (.iload 6, 2) := by decide +kernel
theorem dL_law_1334 : decode code 1334 = .ok (.i2l, 1) := by decide +kernel
theorem dL_law_1335 : decode code 1335 = .ok (.lcmp, 1) := by decide +kernel
theorem dL_law_1336 : decode code 1336 = .ok (.ifCond .eq 5, 3) := by decide +kernel
theorem dL_law_1339 : decode code 1339 = .ok (.iconst 0, 1) := by decide +kernel
theorem dL_law_1340 : decode code 1340 = .ok (.ireturn, 1) := by decide +kernel
theorem dL_law_1341 : decode code 1341 = .ok (.goto 3, 3) := by decide +kernel
theorem dL_law_1344 : decode code 1344 = .ok (.iinc 4 6, 3) := by decide +kernel
theorem dL_law_1347 : decode code 1347 = .ok (.goto (-1324), 3) := by decide +kernel
theorem dL_law_1350 : decode code 1350 = .ok (.iconst 1, 1) := by decide +kernel
theorem dL_law_1351 : decode code 1351 = .ok (.ireturn, 1) := by decide +kernel
