/-! Instructions, a row each (by program). -/
theorem at_271_1112 : j_at 271 1112 = some (.iaload, 0, 0, 0) := by decide +kernel
theorem at_271_1113 : j_at 271 1113 = some (.aload_n 0, 0, 0, 0) := by decide +kernel
theorem at_271_1114 : j_at 271 1114 = some (.iload_n 3, 0, 0, 0) := by decide +kernel
theorem at_271_1115 : j_at 271 1115 = some (.iconst 5, 0, 0, 5) := by decide +kernel
theorem at_271_1116 : j_at 271 1116 = some (.iadd, 0, 0, 0) := by decide +kernel
theorem at_271_1117 : j_at 271 1117 = some (.iaload, 0, 0, 0) := by decide +kernel
theorem at_271_1118 : j_at 271 1118 = some (.invokevirtual 144, 235, 5, 0) := by decide +kernel
theorem at_271_1121 : j_at 271 1121 = some (.lcmp, 0, 0, 0) := by decide +kernel
theorem at_271_1122 : j_at 271 1122 = some (.ifCond .eq 515, 1637, 0, 0) := by decide +kernel
theorem at_271_1125 : j_at 271 1125 = some (.iconst 0, 0, 0, 0) := by decide +kernel
theorem at_271_1126 : j_at 271 1126 = some (.ireturn, 0, 0, 0) := by decide +kernel
theorem at_271_1127 : j_at 271 1127 = some (.aload_n 1, 0, 0, 0) := by decide +kernel
theorem at_271_1128 : j_at 271 1128 = some (.aload_n 0, 0, 0, 0) := by decide +kernel
theorem at_271_1129 : j_at 271 1129 = some (.iload_n 3, 0, 0, 0) := by decide +kernel
theorem at_271_1130 : j_at 271 1130 = some (.iconst 1, 0, 0, 1) := by decide +kernel
theorem at_271_1131 : j_at 271 1131 = some (.iadd, 0, 0, 0) := by decide +kernel
theorem at_271_1132 : j_at 271 1132 = some (.iaload, 0, 0, 0) := by decide +kernel
theorem at_271_1133 : j_at 271 1133 = some (.invokevirtual 145, 119, 1, 0) := by decide +kernel
theorem at_271_1136 : j_at 271 1136 = some (.aload_n 2, 0, 0, 0) := by decide +kernel
theorem at_271_1137 : j_at 271 1137 = some (.aload_n 0, 0, 0, 0) := by decide +kernel
theorem at_271_1138 : j_at 271 1138 = some (.iload_n 3, 0, 0, 0) := by decide +kernel
theorem at_271_1139 : j_at 271 1139 = some (.iconst 1, 0, 0, 1) := by decide +kernel
theorem at_271_1140 : j_at 271 1140 = some (.iadd, 0, 0, 0) := by decide +kernel
theorem at_271_1141 : j_at 271 1141 = some (.iaload, 0, 0, 0) := by decide +kernel
theorem at_271_1142 : j_at 271 1142 = some (.invokevirtual 148, 236, 1, 0) := by decide +kernel
theorem at_271_1145 : j_at 271 1145 = some (.lcmp, 0, 0, 0) := by decide +kernel
theorem at_271_1146 : j_at 271 1146 = some (.ifCond .eq 491, 1637, 0, 0) := by decide +kernel
theorem at_271_1149 : j_at 271 1149 = some (.iconst 0, 0, 0, 0) := by decide +kernel
theorem at_271_1150 : j_at 271 1150 = some (.ireturn, 0, 0, 0) := by decide +kernel
theorem at_271_1151 : j_at 271 1151 = some (.aload_n 1, 0, 0, 0) := by decide +kernel
theorem at_271_1152 : j_at 271 1152 = some (.aload_n 0, 0, 0, 0) := by decide +kernel
theorem at_271_1153 : j_at 271 1153 = some (.iload_n 3, 0, 0, 0) := by decide +kernel
theorem at_271_1154 : j_at 271 1154 = some (.iconst 1, 0, 0, 1) := by decide +kernel
theorem at_271_1155 : j_at 271 1155 = some (.iadd, 0, 0, 0) := by decide +kernel
theorem at_271_1156 : j_at 271 1156 = some (.iaload, 0, 0, 0) := by decide +kernel
theorem at_271_1157 : j_at 271 1157 = some (.aload_n 0, 0, 0, 0) := by decide +kernel
theorem at_271_1158 : j_at 271 1158 = some (.iload_n 3, 0, 0, 0) := by decide +kernel
theorem at_271_1159 : j_at 271 1159 = some (.iconst 2, 0, 0, 2) := by decide +kernel
theorem at_271_1160 : j_at 271 1160 = some (.iadd, 0, 0, 0) := by decide +kernel
theorem at_271_1161 : j_at 271 1161 = some (.iaload, 0, 0, 0) := by decide +kernel
theorem at_271_1162 : j_at 271 1162 = some (.invokevirtual 149, 120, 2, 0) := by decide +kernel
theorem at_271_1165 : j_at 271 1165 = some (.aload_n 2, 0, 0, 0) := by decide +kernel
theorem at_271_1166 : j_at 271 1166 = some (.aload_n 0, 0, 0, 0) := by decide +kernel
theorem at_271_1167 : j_at 271 1167 = some (.iload_n 3, 0, 0, 0) := by decide +kernel
theorem at_271_1168 : j_at 271 1168 = some (.iconst 1, 0, 0, 1) := by decide +kernel
theorem at_271_1169 : j_at 271 1169 = some (.iadd, 0, 0, 0) := by decide +kernel
theorem at_271_1170 : j_at 271 1170 = some (.iaload, 0, 0, 0) := by decide +kernel
theorem at_271_1171 : j_at 271 1171 = some (.aload_n 0, 0, 0, 0) := by decide +kernel
theorem at_271_1172 : j_at 271 1172 = some (.iload_n 3, 0, 0, 0) := by decide +kernel
theorem at_271_1173 : j_at 271 1173 = some (.iconst 2, 0, 0, 2) := by decide +kernel
theorem at_271_1174 : j_at 271 1174 = some (.iadd, 0, 0, 0) := by decide +kernel
theorem at_271_1175 : j_at 271 1175 = some (.iaload, 0, 0, 0) := by decide +kernel
theorem at_271_1176 : j_at 271 1176 = some (.invokevirtual 152, 240, 2, 0) := by decide +kernel
theorem at_271_1179 : j_at 271 1179 = some (.if_icmp .eq 458, 1637, 0, 0) := by decide +kernel
theorem at_271_1182 : j_at 271 1182 = some (.iconst 0, 0, 0, 0) := by decide +kernel
theorem at_271_1183 : j_at 271 1183 = some (.ireturn, 0, 0, 0) := by decide +kernel
theorem at_271_1184 : j_at 271 1184 = some (.aload_n 1, 0, 0, 0) := by decide +kernel
theorem at_271_1185 : j_at 271 1185 = some (.aload_n 0, 0, 0, 0) := by decide +kernel
theorem at_271_1186 : j_at 271 1186 = some (.iload_n 3, 0, 0, 0) := by decide +kernel
theorem at_271_1187 : j_at 271 1187 = some (.iconst 1, 0, 0, 1) := by decide +kernel
theorem at_271_1188 : j_at 271 1188 = some (.iadd, 0, 0, 0) := by decide +kernel
theorem at_271_1189 : j_at 271 1189 = some (.iaload, 0, 0, 0) := by decide +kernel
theorem at_271_1190 : j_at 271 1190 = some (.aload_n 0, 0, 0, 0) := by decide +kernel
theorem at_271_1191 : j_at 271 1191 = some (.iload_n 3, 0, 0, 0) := by decide +kernel
theorem at_271_1192 : j_at 271 1192 = some (.iconst 2, 0, 0, 2) := by decide +kernel
theorem at_271_1193 : j_at 271 1193 = some (.iadd, 0, 0, 0) := by decide +kernel
theorem at_271_1194 : j_at 271 1194 = some (.iaload, 0, 0, 0) := by decide +kernel
theorem at_271_1195 : j_at 271 1195 = some (.invokevirtual 153, 121, 2, 0) := by decide +kernel
theorem at_271_1198 : j_at 271 1198 = some (.aload_n 2, 0, 0, 0) := by decide +kernel
theorem at_271_1199 : j_at 271 1199 = some (.aload_n 0, 0, 0, 0) := by decide +kernel
theorem at_271_1200 : j_at 271 1200 = some (.iload_n 3, 0, 0, 0) := by decide +kernel
theorem at_271_1201 : j_at 271 1201 = some (.iconst 1, 0, 0, 1) := by decide +kernel
theorem at_271_1202 : j_at 271 1202 = some (.iadd, 0, 0, 0) := by decide +kernel
theorem at_271_1203 : j_at 271 1203 = some (.iaload, 0, 0, 0) := by decide +kernel
theorem at_271_1204 : j_at 271 1204 = some (.aload_n 0, 0, 0, 0) := by decide +kernel
theorem at_271_1205 : j_at 271 1205 = some (.iload_n 3, 0, 0, 0) := by decide +kernel
theorem at_271_1206 : j_at 271 1206 = some (.iconst 2, 0, 0, 2) := by decide +kernel
theorem at_271_1207 : j_at 271 1207 = some (.iadd, 0, 0, 0) := by decide +kernel
theorem at_271_1208 : j_at 271 1208 = some (.iaload, 0, 0, 0) := by decide +kernel
theorem at_271_1209 : j_at 271 1209 = some (.invokevirtual 156, 242, 2, 0) := by decide +kernel
theorem at_271_1212 : j_at 271 1212 = some (.if_icmp .eq 425, 1637, 0, 0) := by decide +kernel
theorem at_271_1215 : j_at 271 1215 = some (.iconst 0, 0, 0, 0) := by decide +kernel
theorem at_271_1216 : j_at 271 1216 = some (.ireturn, 0, 0, 0) := by decide +kernel
theorem at_271_1217 : j_at 271 1217 = some (.aload_n 1, 0, 0, 0) := by decide +kernel
theorem at_271_1218 : j_at 271 1218 = some (.aload_n 0, 0, 0, 0) := by decide +kernel
theorem at_271_1219 : j_at 271 1219 = some (.iload_n 3, 0, 0, 0) := by decide +kernel
theorem at_271_1220 : j_at 271 1220 = some (.iconst 1, 0, 0, 1) := by decide +kernel
theorem at_271_1221 : j_at 271 1221 = some (.iadd, 0, 0, 0) := by decide +kernel
theorem at_271_1222 : j_at 271 1222 = some (.iaload, 0, 0, 0) := by decide +kernel
theorem at_271_1223 : j_at 271 1223 = some (.aload_n 0, 0, 0, 0) := by decide +kernel
theorem at_271_1224 : j_at 271 1224 = some (.iload_n 3, 0, 0, 0) := by decide +kernel
theorem at_271_1225 : j_at 271 1225 = some (.iconst 2, 0, 0, 2) := by decide +kernel
theorem at_271_1226 : j_at 271 1226 = some (.iadd, 0, 0, 0) := by decide +kernel
theorem at_271_1227 : j_at 271 1227 = some (.iaload, 0, 0, 0) := by decide +kernel
theorem at_271_1228 : j_at 271 1228 = some (.invokevirtual 157, 122, 2, 0) := by decide +kernel
theorem at_271_1231 : j_at 271 1231 = some (.aload_n 2, 0, 0, 0) := by decide +kernel
theorem at_271_1232 : j_at 271 1232 = some (.aload_n 0, 0, 0, 0) := by decide +kernel
theorem at_271_1233 : j_at 271 1233 = some (.iload_n 3, 0, 0, 0) := by decide +kernel
theorem at_271_1234 : j_at 271 1234 = some (.iconst 1, 0, 0, 1) := by decide +kernel
theorem at_271_1235 : j_at 271 1235 = some (.iadd, 0, 0, 0) := by decide +kernel
theorem at_271_1236 : j_at 271 1236 = some (.iaload, 0, 0, 0) := by decide +kernel
theorem at_271_1237 : j_at 271 1237 = some (.aload_n 0, 0, 0, 0) := by decide +kernel
theorem at_271_1238 : j_at 271 1238 = some (.iload_n 3, 0, 0, 0) := by decide +kernel
theorem at_271_1239 : j_at 271 1239 = some (.iconst 2, 0, 0, 2) := by decide +kernel
theorem at_271_1240 : j_at 271 1240 = some (.iadd, 0, 0, 0) := by decide +kernel
theorem at_271_1241 : j_at 271 1241 = some (.iaload, 0, 0, 0) := by decide +kernel
theorem at_271_1242 : j_at 271 1242 = some (.invokevirtual 160, 245, 2, 0) := by decide +kernel
theorem at_271_1245 : j_at 271 1245 = some (.if_icmp .eq 392, 1637, 0, 0) := by decide +kernel
theorem at_271_1248 : j_at 271 1248 = some (.iconst 0, 0, 0, 0) := by decide +kernel
theorem at_271_1249 : j_at 271 1249 = some (.ireturn, 0, 0, 0) := by decide +kernel
theorem at_271_1250 : j_at 271 1250 = some (.aload_n 1, 0, 0, 0) := by decide +kernel
theorem at_271_1251 : j_at 271 1251 = some (.aload_n 0, 0, 0, 0) := by decide +kernel
theorem at_271_1252 : j_at 271 1252 = some (.iload_n 3, 0, 0, 0) := by decide +kernel
theorem at_271_1253 : j_at 271 1253 = some (.iconst 1, 0, 0, 1) := by decide +kernel
theorem at_271_1254 : j_at 271 1254 = some (.iadd, 0, 0, 0) := by decide +kernel
theorem at_271_1255 : j_at 271 1255 = some (.iaload, 0, 0, 0) := by decide +kernel
theorem at_271_1256 : j_at 271 1256 = some (.invokevirtual 161, 123, 1, 0) := by decide +kernel
theorem at_271_1259 : j_at 271 1259 = some (.aload_n 2, 0, 0, 0) := by decide +kernel
theorem at_271_1260 : j_at 271 1260 = some (.aload_n 0, 0, 0, 0) := by decide +kernel
theorem at_271_1261 : j_at 271 1261 = some (.iload_n 3, 0, 0, 0) := by decide +kernel
theorem at_271_1262 : j_at 271 1262 = some (.iconst 1, 0, 0, 1) := by decide +kernel
theorem at_271_1263 : j_at 271 1263 = some (.iadd, 0, 0, 0) := by decide +kernel
theorem at_271_1264 : j_at 271 1264 = some (.iaload, 0, 0, 0) := by decide +kernel
theorem at_271_1265 : j_at 271 1265 = some (.invokevirtual 164, 246, 1, 0) := by decide +kernel
theorem at_271_1268 : j_at 271 1268 = some (.if_icmp .eq 369, 1637, 0, 0) := by decide +kernel
theorem at_271_1271 : j_at 271 1271 = some (.iconst 0, 0, 0, 0) := by decide +kernel
theorem at_271_1272 : j_at 271 1272 = some (.ireturn, 0, 0, 0) := by decide +kernel
theorem at_271_1273 : j_at 271 1273 = some (.aload_n 1, 0, 0, 0) := by decide +kernel
theorem at_271_1274 : j_at 271 1274 = some (.invokevirtual 165, 124, 0, 0) := by decide +kernel
theorem at_271_1277 : j_at 271 1277 = some (.aload_n 2, 0, 0, 0) := by decide +kernel
theorem at_271_1278 : j_at 271 1278 = some (.invokevirtual 168, 248, 0, 0) := by decide +kernel
theorem at_271_1281 : j_at 271 1281 = some (.if_icmp .eq 356, 1637, 0, 0) := by decide +kernel
theorem at_271_1284 : j_at 271 1284 = some (.iconst 0, 0, 0, 0) := by decide +kernel
theorem at_271_1285 : j_at 271 1285 = some (.ireturn, 0, 0, 0) := by decide +kernel
theorem at_271_1286 : j_at 271 1286 = some (.aload_n 1, 0, 0, 0) := by decide +kernel
theorem at_271_1287 : j_at 271 1287 = some (.aload_n 0, 0, 0, 0) := by decide +kernel
theorem at_271_1288 : j_at 271 1288 = some (.iload_n 3, 0, 0, 0) := by decide +kernel
theorem at_271_1289 : j_at 271 1289 = some (.iconst 1, 0, 0, 1) := by decide +kernel
theorem at_271_1290 : j_at 271 1290 = some (.iadd, 0, 0, 0) := by decide +kernel
theorem at_271_1291 : j_at 271 1291 = some (.iaload, 0, 0, 0) := by decide +kernel
theorem at_271_1292 : j_at 271 1292 = some (.aload_n 0, 0, 0, 0) := by decide +kernel
theorem at_271_1293 : j_at 271 1293 = some (.iload_n 3, 0, 0, 0) := by decide +kernel
theorem at_271_1294 : j_at 271 1294 = some (.iconst 2, 0, 0, 2) := by decide +kernel
theorem at_271_1295 : j_at 271 1295 = some (.iadd, 0, 0, 0) := by decide +kernel
theorem at_271_1296 : j_at 271 1296 = some (.iaload, 0, 0, 0) := by decide +kernel
theorem at_271_1297 : j_at 271 1297 = some (.aload_n 0, 0, 0, 0) := by decide +kernel
theorem at_271_1298 : j_at 271 1298 = some (.iload_n 3, 0, 0, 0) := by decide +kernel
theorem at_271_1299 : j_at 271 1299 = some (.iconst 3, 0, 0, 3) := by decide +kernel
theorem at_271_1300 : j_at 271 1300 = some (.iadd, 0, 0, 0) := by decide +kernel
theorem at_271_1301 : j_at 271 1301 = some (.iaload, 0, 0, 0) := by decide +kernel
theorem at_271_1302 : j_at 271 1302 = some (.invokevirtual 169, 125, 3, 0) := by decide +kernel
theorem at_271_1305 : j_at 271 1305 = some (.aload_n 2, 0, 0, 0) := by decide +kernel
theorem at_271_1306 : j_at 271 1306 = some (.aload_n 0, 0, 0, 0) := by decide +kernel
theorem at_271_1307 : j_at 271 1307 = some (.iload_n 3, 0, 0, 0) := by decide +kernel
theorem at_271_1308 : j_at 271 1308 = some (.iconst 1, 0, 0, 1) := by decide +kernel
theorem at_271_1309 : j_at 271 1309 = some (.iadd, 0, 0, 0) := by decide +kernel
theorem at_271_1310 : j_at 271 1310 = some (.iaload, 0, 0, 0) := by decide +kernel
theorem at_271_1311 : j_at 271 1311 = some (.aload_n 0, 0, 0, 0) := by decide +kernel
theorem at_271_1312 : j_at 271 1312 = some (.iload_n 3, 0, 0, 0) := by decide +kernel
theorem at_271_1313 : j_at 271 1313 = some (.iconst 2, 0, 0, 2) := by decide +kernel
theorem at_271_1314 : j_at 271 1314 = some (.iadd, 0, 0, 0) := by decide +kernel
theorem at_271_1315 : j_at 271 1315 = some (.iaload, 0, 0, 0) := by decide +kernel
theorem at_271_1316 : j_at 271 1316 = some (.aload_n 0, 0, 0, 0) := by decide +kernel
theorem at_271_1317 : j_at 271 1317 = some (.iload_n 3, 0, 0, 0) := by decide +kernel
theorem at_271_1318 : j_at 271 1318 = some (.iconst 3, 0, 0, 3) := by decide +kernel
theorem at_271_1319 : j_at 271 1319 = some (.iadd, 0, 0, 0) := by decide +kernel
theorem at_271_1320 : j_at 271 1320 = some (.iaload, 0, 0, 0) := by decide +kernel
theorem at_271_1321 : j_at 271 1321 = some (.invokevirtual 172, 250, 3, 0) := by decide +kernel
theorem at_271_1324 : j_at 271 1324 = some (.if_icmp .eq 313, 1637, 0, 0) := by decide +kernel
theorem at_271_1327 : j_at 271 1327 = some (.iconst 0, 0, 0, 0) := by decide +kernel
theorem at_271_1328 : j_at 271 1328 = some (.ireturn, 0, 0, 0) := by decide +kernel
theorem at_271_1329 : j_at 271 1329 = some (.aload_n 1, 0, 0, 0) := by decide +kernel
theorem at_271_1330 : j_at 271 1330 = some (.invokevirtual 173, 126, 0, 0) := by decide +kernel
theorem at_271_1333 : j_at 271 1333 = some (.aload_n 2, 0, 0, 0) := by decide +kernel
theorem at_271_1334 : j_at 271 1334 = some (.invokevirtual 176, 252, 0, 0) := by decide +kernel
theorem at_271_1337 : j_at 271 1337 = some (.if_icmp .eq 300, 1637, 0, 0) := by decide +kernel
theorem at_271_1340 : j_at 271 1340 = some (.iconst 0, 0, 0, 0) := by decide +kernel
theorem at_271_1341 : j_at 271 1341 = some (.ireturn, 0, 0, 0) := by decide +kernel
theorem at_271_1342 : j_at 271 1342 = some (.aload_n 1, 0, 0, 0) := by decide +kernel
theorem at_271_1343 : j_at 271 1343 = some (.aload_n 0, 0, 0, 0) := by decide +kernel
theorem at_271_1344 : j_at 271 1344 = some (.iload_n 3, 0, 0, 0) := by decide +kernel
theorem at_271_1345 : j_at 271 1345 = some (.iconst 1, 0, 0, 1) := by decide +kernel
theorem at_271_1346 : j_at 271 1346 = some (.iadd, 0, 0, 0) := by decide +kernel
theorem at_271_1347 : j_at 271 1347 = some (.iaload, 0, 0, 0) := by decide +kernel
theorem at_271_1348 : j_at 271 1348 = some (.aload_n 0, 0, 0, 0) := by decide +kernel
theorem at_271_1349 : j_at 271 1349 = some (.iload_n 3, 0, 0, 0) := by decide +kernel
theorem at_271_1350 : j_at 271 1350 = some (.iconst 2, 0, 0, 2) := by decide +kernel
theorem at_271_1351 : j_at 271 1351 = some (.iadd, 0, 0, 0) := by decide +kernel
theorem at_271_1352 : j_at 271 1352 = some (.iaload, 0, 0, 0) := by decide +kernel
theorem at_271_1353 : j_at 271 1353 = some (.invokevirtual 177, 127, 2, 0) := by decide +kernel
theorem at_271_1356 : j_at 271 1356 = some (.aload_n 2, 0, 0, 0) := by decide +kernel
theorem at_271_1357 : j_at 271 1357 = some (.aload_n 0, 0, 0, 0) := by decide +kernel
theorem at_271_1358 : j_at 271 1358 = some (.iload_n 3, 0, 0, 0) := by decide +kernel
theorem at_271_1359 : j_at 271 1359 = some (.iconst 1, 0, 0, 1) := by decide +kernel
theorem at_271_1360 : j_at 271 1360 = some (.iadd, 0, 0, 0) := by decide +kernel
theorem at_271_1361 : j_at 271 1361 = some (.iaload, 0, 0, 0) := by decide +kernel
theorem at_271_1362 : j_at 271 1362 = some (.aload_n 0, 0, 0, 0) := by decide +kernel
theorem at_271_1363 : j_at 271 1363 = some (.iload_n 3, 0, 0, 0) := by decide +kernel
theorem at_271_1364 : j_at 271 1364 = some (.iconst 2, 0, 0, 2) := by decide +kernel
theorem at_271_1365 : j_at 271 1365 = some (.iadd, 0, 0, 0) := by decide +kernel
theorem at_271_1366 : j_at 271 1366 = some (.iaload, 0, 0, 0) := by decide +kernel
theorem at_271_1367 : j_at 271 1367 = some (.invokevirtual 180, 254, 2, 0) := by decide +kernel
theorem at_271_1370 : j_at 271 1370 = some (.if_icmp .eq 267, 1637, 0, 0) := by decide +kernel
theorem at_271_1373 : j_at 271 1373 = some (.iconst 0, 0, 0, 0) := by decide +kernel
theorem at_271_1374 : j_at 271 1374 = some (.ireturn, 0, 0, 0) := by decide +kernel
theorem at_271_1375 : j_at 271 1375 = some (.aload_n 1, 0, 0, 0) := by decide +kernel
theorem at_271_1376 : j_at 271 1376 = some (.invokevirtual 181, 128, 0, 0) := by decide +kernel
theorem at_271_1379 : j_at 271 1379 = some (.aload_n 2, 0, 0, 0) := by decide +kernel
theorem at_271_1380 : j_at 271 1380 = some (.invokevirtual 184, 255, 0, 0) := by decide +kernel
theorem at_271_1383 : j_at 271 1383 = some (.if_icmp .eq 254, 1637, 0, 0) := by decide +kernel
theorem at_271_1386 : j_at 271 1386 = some (.iconst 0, 0, 0, 0) := by decide +kernel
theorem at_271_1387 : j_at 271 1387 = some (.ireturn, 0, 0, 0) := by decide +kernel
theorem at_271_1388 : j_at 271 1388 = some (.aload_n 1, 0, 0, 0) := by decide +kernel
theorem at_271_1389 : j_at 271 1389 = some (.invokevirtual 185, 129, 0, 0) := by decide +kernel
theorem at_271_1392 : j_at 271 1392 = some (.aload_n 2, 0, 0, 0) := by decide +kernel
theorem at_271_1393 : j_at 271 1393 = some (.invokevirtual 188, 256, 0, 0) := by decide +kernel
theorem at_271_1396 : j_at 271 1396 = some (.if_icmp .eq 241, 1637, 0, 0) := by decide +kernel
theorem at_271_1399 : j_at 271 1399 = some (.iconst 0, 0, 0, 0) := by decide +kernel
theorem at_271_1400 : j_at 271 1400 = some (.ireturn, 0, 0, 0) := by decide +kernel
theorem at_271_1401 : j_at 271 1401 = some (.aload_n 1, 0, 0, 0) := by decide +kernel
theorem at_271_1402 : j_at 271 1402 = some (.aload_n 0, 0, 0, 0) := by decide +kernel
theorem at_271_1403 : j_at 271 1403 = some (.iload_n 3, 0, 0, 0) := by decide +kernel
theorem at_271_1404 : j_at 271 1404 = some (.iconst 1, 0, 0, 1) := by decide +kernel
theorem at_271_1405 : j_at 271 1405 = some (.iadd, 0, 0, 0) := by decide +kernel
theorem at_271_1406 : j_at 271 1406 = some (.iaload, 0, 0, 0) := by decide +kernel
theorem at_271_1407 : j_at 271 1407 = some (.invokevirtual 189, 130, 1, 0) := by decide +kernel
theorem at_271_1410 : j_at 271 1410 = some (.aload_n 2, 0, 0, 0) := by decide +kernel
theorem at_271_1411 : j_at 271 1411 = some (.aload_n 0, 0, 0, 0) := by decide +kernel
theorem at_271_1412 : j_at 271 1412 = some (.iload_n 3, 0, 0, 0) := by decide +kernel
theorem at_271_1413 : j_at 271 1413 = some (.iconst 1, 0, 0, 1) := by decide +kernel
theorem at_271_1414 : j_at 271 1414 = some (.iadd, 0, 0, 0) := by decide +kernel
theorem at_271_1415 : j_at 271 1415 = some (.iaload, 0, 0, 0) := by decide +kernel
theorem at_271_1416 : j_at 271 1416 = some (.invokevirtual 192, 257, 1, 0) := by decide +kernel
theorem at_271_1419 : j_at 271 1419 = some (.if_icmp .eq 218, 1637, 0, 0) := by decide +kernel
theorem at_271_1422 : j_at 271 1422 = some (.iconst 0, 0, 0, 0) := by decide +kernel
theorem at_271_1423 : j_at 271 1423 = some (.ireturn, 0, 0, 0) := by decide +kernel
theorem at_271_1424 : j_at 271 1424 = some (.aload_n 1, 0, 0, 0) := by decide +kernel
theorem at_271_1425 : j_at 271 1425 = some (.aload_n 0, 0, 0, 0) := by decide +kernel
theorem at_271_1426 : j_at 271 1426 = some (.iload_n 3, 0, 0, 0) := by decide +kernel
theorem at_271_1427 : j_at 271 1427 = some (.iconst 1, 0, 0, 1) := by decide +kernel
theorem at_271_1428 : j_at 271 1428 = some (.iadd, 0, 0, 0) := by decide +kernel
theorem at_271_1429 : j_at 271 1429 = some (.iaload, 0, 0, 0) := by decide +kernel
theorem at_271_1430 : j_at 271 1430 = some (.aload_n 0, 0, 0, 0) := by decide +kernel
theorem at_271_1431 : j_at 271 1431 = some (.iload_n 3, 0, 0, 0) := by decide +kernel
theorem at_271_1432 : j_at 271 1432 = some (.iconst 2, 0, 0, 2) := by decide +kernel
theorem at_271_1433 : j_at 271 1433 = some (.iadd, 0, 0, 0) := by decide +kernel
theorem at_271_1434 : j_at 271 1434 = some (.iaload, 0, 0, 0) := by decide +kernel
theorem at_271_1435 : j_at 271 1435 = some (.aload_n 0, 0, 0, 0) := by decide +kernel
theorem at_271_1436 : j_at 271 1436 = some (.iload_n 3, 0, 0, 0) := by decide +kernel
theorem at_271_1437 : j_at 271 1437 = some (.iconst 3, 0, 0, 3) := by decide +kernel
theorem at_271_1438 : j_at 271 1438 = some (.iadd, 0, 0, 0) := by decide +kernel
theorem at_271_1439 : j_at 271 1439 = some (.iaload, 0, 0, 0) := by decide +kernel
theorem at_271_1440 : j_at 271 1440 = some (.invokevirtual 193, 131, 3, 0) := by decide +kernel
theorem at_271_1443 : j_at 271 1443 = some (.aload_n 2, 0, 0, 0) := by decide +kernel
theorem at_271_1444 : j_at 271 1444 = some (.aload_n 0, 0, 0, 0) := by decide +kernel
theorem at_271_1445 : j_at 271 1445 = some (.iload_n 3, 0, 0, 0) := by decide +kernel
theorem at_271_1446 : j_at 271 1446 = some (.iconst 1, 0, 0, 1) := by decide +kernel
theorem at_271_1447 : j_at 271 1447 = some (.iadd, 0, 0, 0) := by decide +kernel
theorem at_271_1448 : j_at 271 1448 = some (.iaload, 0, 0, 0) := by decide +kernel
theorem at_271_1449 : j_at 271 1449 = some (.aload_n 0, 0, 0, 0) := by decide +kernel
theorem at_271_1450 : j_at 271 1450 = some (.iload_n 3, 0, 0, 0) := by decide +kernel
theorem at_271_1451 : j_at 271 1451 = some (.iconst 2, 0, 0, 2) := by decide +kernel
theorem at_271_1452 : j_at 271 1452 = some (.iadd, 0, 0, 0) := by decide +kernel
theorem at_271_1453 : j_at 271 1453 = some (.iaload, 0, 0, 0) := by decide +kernel
theorem at_271_1454 : j_at 271 1454 = some (.aload_n 0, 0, 0, 0) := by decide +kernel
theorem at_271_1455 : j_at 271 1455 = some (.iload_n 3, 0, 0, 0) := by decide +kernel
theorem at_271_1456 : j_at 271 1456 = some (.iconst 3, 0, 0, 3) := by decide +kernel
theorem at_271_1457 : j_at 271 1457 = some (.iadd, 0, 0, 0) := by decide +kernel
theorem at_271_1458 : j_at 271 1458 = some (.iaload, 0, 0, 0) := by decide +kernel
theorem at_271_1459 : j_at 271 1459 = some (.invokevirtual 196, 258, 3, 0) := by decide +kernel
theorem at_271_1462 : j_at 271 1462 = some (.if_icmp .eq 175, 1637, 0, 0) := by decide +kernel
theorem at_271_1465 : j_at 271 1465 = some (.iconst 0, 0, 0, 0) := by decide +kernel
theorem at_271_1466 : j_at 271 1466 = some (.ireturn, 0, 0, 0) := by decide +kernel
theorem at_271_1467 : j_at 271 1467 = some (.aload_n 1, 0, 0, 0) := by decide +kernel
theorem at_271_1468 : j_at 271 1468 = some (.aload_n 0, 0, 0, 0) := by decide +kernel
theorem at_271_1469 : j_at 271 1469 = some (.iload_n 3, 0, 0, 0) := by decide +kernel
theorem at_271_1470 : j_at 271 1470 = some (.iconst 1, 0, 0, 1) := by decide +kernel
theorem at_271_1471 : j_at 271 1471 = some (.iadd, 0, 0, 0) := by decide +kernel
theorem at_271_1472 : j_at 271 1472 = some (.iaload, 0, 0, 0) := by decide +kernel
theorem at_271_1473 : j_at 271 1473 = some (.aload_n 0, 0, 0, 0) := by decide +kernel
theorem at_271_1474 : j_at 271 1474 = some (.iload_n 3, 0, 0, 0) := by decide +kernel
theorem at_271_1475 : j_at 271 1475 = some (.iconst 2, 0, 0, 2) := by decide +kernel
theorem at_271_1476 : j_at 271 1476 = some (.iadd, 0, 0, 0) := by decide +kernel
theorem at_271_1477 : j_at 271 1477 = some (.iaload, 0, 0, 0) := by decide +kernel
theorem at_271_1478 : j_at 271 1478 = some (.aload_n 0, 0, 0, 0) := by decide +kernel
theorem at_271_1479 : j_at 271 1479 = some (.iload_n 3, 0, 0, 0) := by decide +kernel
theorem at_271_1480 : j_at 271 1480 = some (.iconst 3, 0, 0, 3) := by decide +kernel
theorem at_271_1481 : j_at 271 1481 = some (.iadd, 0, 0, 0) := by decide +kernel
theorem at_271_1482 : j_at 271 1482 = some (.iaload, 0, 0, 0) := by decide +kernel
theorem at_271_1483 : j_at 271 1483 = some (.i2l, 0, 0, 0) := by decide +kernel
theorem at_271_1484 : j_at 271 1484 = some (.bipush 32, 0, 0, 32) := by decide +kernel
theorem at_271_1486 : j_at 271 1486 = some (.lshl, 0, 0, 0) := by decide +kernel
theorem at_271_1487 : j_at 271 1487 = some (.aload_n 0, 0, 0, 0) := by decide +kernel
theorem at_271_1488 : j_at 271 1488 = some (.iload_n 3, 0, 0, 0) := by decide +kernel
theorem at_271_1489 : j_at 271 1489 = some (.iconst 4, 0, 0, 4) := by decide +kernel
theorem at_271_1490 : j_at 271 1490 = some (.iadd, 0, 0, 0) := by decide +kernel
theorem at_271_1491 : j_at 271 1491 = some (.iaload, 0, 0, 0) := by decide +kernel
theorem at_271_1492 : j_at 271 1492 = some (.i2l, 0, 0, 0) := by decide +kernel
theorem at_271_1493 : j_at 271 1493 = some (.ldc2_w 197, 0, 0, 4294967295) := by decide +kernel
theorem at_271_1496 : j_at 271 1496 = some (.land, 0, 0, 0) := by decide +kernel
theorem at_271_1497 : j_at 271 1497 = some (.lor, 0, 0, 0) := by decide +kernel
theorem at_271_1498 : j_at 271 1498 = some (.invokevirtual 199, 132, 3, 0) := by decide +kernel
theorem at_271_1501 : j_at 271 1501 = some (.aload_n 2, 0, 0, 0) := by decide +kernel
theorem at_271_1502 : j_at 271 1502 = some (.aload_n 0, 0, 0, 0) := by decide +kernel
theorem at_271_1503 : j_at 271 1503 = some (.iload_n 3, 0, 0, 0) := by decide +kernel
theorem at_271_1504 : j_at 271 1504 = some (.iconst 1, 0, 0, 1) := by decide +kernel
theorem at_271_1505 : j_at 271 1505 = some (.iadd, 0, 0, 0) := by decide +kernel
theorem at_271_1506 : j_at 271 1506 = some (.iaload, 0, 0, 0) := by decide +kernel
theorem at_271_1507 : j_at 271 1507 = some (.aload_n 0, 0, 0, 0) := by decide +kernel
theorem at_271_1508 : j_at 271 1508 = some (.iload_n 3, 0, 0, 0) := by decide +kernel
theorem at_271_1509 : j_at 271 1509 = some (.iconst 2, 0, 0, 2) := by decide +kernel
theorem at_271_1510 : j_at 271 1510 = some (.iadd, 0, 0, 0) := by decide +kernel
theorem at_271_1511 : j_at 271 1511 = some (.iaload, 0, 0, 0) := by decide +kernel
theorem at_271_1512 : j_at 271 1512 = some (.aload_n 0, 0, 0, 0) := by decide +kernel
theorem at_271_1513 : j_at 271 1513 = some (.iload_n 3, 0, 0, 0) := by decide +kernel
theorem at_271_1514 : j_at 271 1514 = some (.iconst 3, 0, 0, 3) := by decide +kernel
theorem at_271_1515 : j_at 271 1515 = some (.iadd, 0, 0, 0) := by decide +kernel
theorem at_271_1516 : j_at 271 1516 = some (.iaload, 0, 0, 0) := by decide +kernel
theorem at_271_1517 : j_at 271 1517 = some (.i2l, 0, 0, 0) := by decide +kernel
theorem at_271_1518 : j_at 271 1518 = some (.bipush 32, 0, 0, 32) := by decide +kernel
theorem at_271_1520 : j_at 271 1520 = some (.lshl, 0, 0, 0) := by decide +kernel
theorem at_271_1521 : j_at 271 1521 = some (.aload_n 0, 0, 0, 0) := by decide +kernel
theorem at_271_1522 : j_at 271 1522 = some (.iload_n 3, 0, 0, 0) := by decide +kernel
theorem at_271_1523 : j_at 271 1523 = some (.iconst 4, 0, 0, 4) := by decide +kernel
theorem at_271_1524 : j_at 271 1524 = some (.iadd, 0, 0, 0) := by decide +kernel
theorem at_271_1525 : j_at 271 1525 = some (.iaload, 0, 0, 0) := by decide +kernel
theorem at_271_1526 : j_at 271 1526 = some (.i2l, 0, 0, 0) := by decide +kernel
theorem at_271_1527 : j_at 271 1527 = some (.ldc2_w 197, 0, 0, 4294967295) := by decide +kernel
theorem at_271_1530 : j_at 271 1530 = some (.land, 0, 0, 0) := by decide +kernel
theorem at_271_1531 : j_at 271 1531 = some (.lor, 0, 0, 0) := by decide +kernel
theorem at_271_1532 : j_at 271 1532 = some (.invokevirtual 203, 260, 3, 0) := by decide +kernel
theorem at_271_1535 : j_at 271 1535 = some (.if_icmp .eq 102, 1637, 0, 0) := by decide +kernel
theorem at_271_1538 : j_at 271 1538 = some (.iconst 0, 0, 0, 0) := by decide +kernel
theorem at_271_1539 : j_at 271 1539 = some (.ireturn, 0, 0, 0) := by decide +kernel
theorem at_271_1540 : j_at 271 1540 = some (.aload_n 1, 0, 0, 0) := by decide +kernel
theorem at_271_1541 : j_at 271 1541 = some (.aload_n 0, 0, 0, 0) := by decide +kernel
theorem at_271_1542 : j_at 271 1542 = some (.iload_n 3, 0, 0, 0) := by decide +kernel
theorem at_271_1543 : j_at 271 1543 = some (.iconst 1, 0, 0, 1) := by decide +kernel
theorem at_271_1544 : j_at 271 1544 = some (.iadd, 0, 0, 0) := by decide +kernel
theorem at_271_1545 : j_at 271 1545 = some (.iaload, 0, 0, 0) := by decide +kernel
theorem at_271_1546 : j_at 271 1546 = some (.aload_n 0, 0, 0, 0) := by decide +kernel
theorem at_271_1547 : j_at 271 1547 = some (.iload_n 3, 0, 0, 0) := by decide +kernel
theorem at_271_1548 : j_at 271 1548 = some (.iconst 2, 0, 0, 2) := by decide +kernel
theorem at_271_1549 : j_at 271 1549 = some (.iadd, 0, 0, 0) := by decide +kernel
theorem at_271_1550 : j_at 271 1550 = some (.iaload, 0, 0, 0) := by decide +kernel
theorem at_271_1551 : j_at 271 1551 = some (.invokevirtual 204, 133, 2, 0) := by decide +kernel
theorem at_271_1554 : j_at 271 1554 = some (.aload_n 2, 0, 0, 0) := by decide +kernel
theorem at_271_1555 : j_at 271 1555 = some (.aload_n 0, 0, 0, 0) := by decide +kernel
theorem at_271_1556 : j_at 271 1556 = some (.iload_n 3, 0, 0, 0) := by decide +kernel
theorem at_271_1557 : j_at 271 1557 = some (.iconst 1, 0, 0, 1) := by decide +kernel
theorem at_271_1558 : j_at 271 1558 = some (.iadd, 0, 0, 0) := by decide +kernel
theorem at_271_1559 : j_at 271 1559 = some (.iaload, 0, 0, 0) := by decide +kernel
theorem at_271_1560 : j_at 271 1560 = some (.aload_n 0, 0, 0, 0) := by decide +kernel
theorem at_271_1561 : j_at 271 1561 = some (.iload_n 3, 0, 0, 0) := by decide +kernel
theorem at_271_1562 : j_at 271 1562 = some (.iconst 2, 0, 0, 2) := by decide +kernel
theorem at_271_1563 : j_at 271 1563 = some (.iadd, 0, 0, 0) := by decide +kernel
theorem at_271_1564 : j_at 271 1564 = some (.iaload, 0, 0, 0) := by decide +kernel
theorem at_271_1565 : j_at 271 1565 = some (.invokevirtual 207, 261, 2, 0) := by decide +kernel
theorem at_271_1568 : j_at 271 1568 = some (.lcmp, 0, 0, 0) := by decide +kernel
theorem at_271_1569 : j_at 271 1569 = some (.ifCond .eq 68, 1637, 0, 0) := by decide +kernel
theorem at_271_1572 : j_at 271 1572 = some (.iconst 0, 0, 0, 0) := by decide +kernel
theorem at_271_1573 : j_at 271 1573 = some (.ireturn, 0, 0, 0) := by decide +kernel
theorem at_271_1574 : j_at 271 1574 = some (.aload_n 1, 0, 0, 0) := by decide +kernel
theorem at_271_1575 : j_at 271 1575 = some (.aload_n 0, 0, 0, 0) := by decide +kernel
theorem at_271_1576 : j_at 271 1576 = some (.iload_n 3, 0, 0, 0) := by decide +kernel
theorem at_271_1577 : j_at 271 1577 = some (.iconst 1, 0, 0, 1) := by decide +kernel
theorem at_271_1578 : j_at 271 1578 = some (.iadd, 0, 0, 0) := by decide +kernel
theorem at_271_1579 : j_at 271 1579 = some (.iaload, 0, 0, 0) := by decide +kernel
theorem at_271_1580 : j_at 271 1580 = some (.aload_n 0, 0, 0, 0) := by decide +kernel
theorem at_271_1581 : j_at 271 1581 = some (.iload_n 3, 0, 0, 0) := by decide +kernel
theorem at_271_1582 : j_at 271 1582 = some (.iconst 2, 0, 0, 2) := by decide +kernel
theorem at_271_1583 : j_at 271 1583 = some (.iadd, 0, 0, 0) := by decide +kernel
theorem at_271_1584 : j_at 271 1584 = some (.iaload, 0, 0, 0) := by decide +kernel
theorem at_271_1585 : j_at 271 1585 = some (.aload_n 0, 0, 0, 0) := by decide +kernel
theorem at_271_1586 : j_at 271 1586 = some (.iload_n 3, 0, 0, 0) := by decide +kernel
theorem at_271_1587 : j_at 271 1587 = some (.iconst 3, 0, 0, 3) := by decide +kernel
theorem at_271_1588 : j_at 271 1588 = some (.iadd, 0, 0, 0) := by decide +kernel
theorem at_271_1589 : j_at 271 1589 = some (.iaload, 0, 0, 0) := by decide +kernel
theorem at_271_1590 : j_at 271 1590 = some (.aload_n 0, 0, 0, 0) := by decide +kernel
theorem at_271_1591 : j_at 271 1591 = some (.iload_n 3, 0, 0, 0) := by decide +kernel
theorem at_271_1592 : j_at 271 1592 = some (.iconst 4, 0, 0, 4) := by decide +kernel
theorem at_271_1593 : j_at 271 1593 = some (.iadd, 0, 0, 0) := by decide +kernel
theorem at_271_1594 : j_at 271 1594 = some (.iaload, 0, 0, 0) := by decide +kernel
theorem at_271_1595 : j_at 271 1595 = some (.aload_n 0, 0, 0, 0) := by decide +kernel
theorem at_271_1596 : j_at 271 1596 = some (.iload_n 3, 0, 0, 0) := by decide +kernel
theorem at_271_1597 : j_at 271 1597 = some (.iconst 5, 0, 0, 5) := by decide +kernel
theorem at_271_1598 : j_at 271 1598 = some (.iadd, 0, 0, 0) := by decide +kernel
theorem at_271_1599 : j_at 271 1599 = some (.iaload, 0, 0, 0) := by decide +kernel
theorem at_271_1600 : j_at 271 1600 = some (.invokevirtual 208, 134, 5, 0) := by decide +kernel
theorem at_271_1603 : j_at 271 1603 = some (.aload_n 2, 0, 0, 0) := by decide +kernel
theorem at_271_1604 : j_at 271 1604 = some (.aload_n 0, 0, 0, 0) := by decide +kernel
theorem at_271_1605 : j_at 271 1605 = some (.iload_n 3, 0, 0, 0) := by decide +kernel
theorem at_271_1606 : j_at 271 1606 = some (.iconst 1, 0, 0, 1) := by decide +kernel
theorem at_271_1607 : j_at 271 1607 = some (.iadd, 0, 0, 0) := by decide +kernel
theorem at_271_1608 : j_at 271 1608 = some (.iaload, 0, 0, 0) := by decide +kernel
theorem at_271_1609 : j_at 271 1609 = some (.aload_n 0, 0, 0, 0) := by decide +kernel
theorem at_271_1610 : j_at 271 1610 = some (.iload_n 3, 0, 0, 0) := by decide +kernel
theorem at_271_1611 : j_at 271 1611 = some (.iconst 2, 0, 0, 2) := by decide +kernel
theorem at_271_1612 : j_at 271 1612 = some (.iadd, 0, 0, 0) := by decide +kernel
theorem at_271_1613 : j_at 271 1613 = some (.iaload, 0, 0, 0) := by decide +kernel
theorem at_271_1614 : j_at 271 1614 = some (.aload_n 0, 0, 0, 0) := by decide +kernel
theorem at_271_1615 : j_at 271 1615 = some (.iload_n 3, 0, 0, 0) := by decide +kernel
theorem at_271_1616 : j_at 271 1616 = some (.iconst 3, 0, 0, 3) := by decide +kernel
theorem at_271_1617 : j_at 271 1617 = some (.iadd, 0, 0, 0) := by decide +kernel
theorem at_271_1618 : j_at 271 1618 = some (.iaload, 0, 0, 0) := by decide +kernel
theorem at_271_1619 : j_at 271 1619 = some (.aload_n 0, 0, 0, 0) := by decide +kernel
theorem at_271_1620 : j_at 271 1620 = some (.iload_n 3, 0, 0, 0) := by decide +kernel
theorem at_271_1621 : j_at 271 1621 = some (.iconst 4, 0, 0, 4) := by decide +kernel
theorem at_271_1622 : j_at 271 1622 = some (.iadd, 0, 0, 0) := by decide +kernel
theorem at_271_1623 : j_at 271 1623 = some (.iaload, 0, 0, 0) := by decide +kernel
theorem at_271_1624 : j_at 271 1624 = some (.aload_n 0, 0, 0, 0) := by decide +kernel
theorem at_271_1625 : j_at 271 1625 = some (.iload_n 3, 0, 0, 0) := by decide +kernel
theorem at_271_1626 : j_at 271 1626 = some (.iconst 5, 0, 0, 5) := by decide +kernel
theorem at_271_1627 : j_at 271 1627 = some (.iadd, 0, 0, 0) := by decide +kernel
theorem at_271_1628 : j_at 271 1628 = some (.iaload, 0, 0, 0) := by decide +kernel
theorem at_271_1629 : j_at 271 1629 = some (.invokevirtual 212, 262, 5, 0) := by decide +kernel
theorem at_271_1632 : j_at 271 1632 = some (.if_icmp .eq 5, 1637, 0, 0) := by decide +kernel
theorem at_271_1635 : j_at 271 1635 = some (.iconst 0, 0, 0, 0) := by decide +kernel
theorem at_271_1636 : j_at 271 1636 = some (.ireturn, 0, 0, 0) := by decide +kernel
theorem at_271_1637 : j_at 271 1637 = some (.iinc 3 6, 0, 0, 0) := by decide +kernel
theorem at_271_1640 : j_at 271 1640 = some (.goto (-1622), 18, 0, 0) := by decide +kernel
theorem at_271_1643 : j_at 271 1643 = some (.iconst 1, 0, 0, 1) := by decide +kernel
theorem at_271_1644 : j_at 271 1644 = some (.ireturn, 0, 0, 0) := by decide +kernel
