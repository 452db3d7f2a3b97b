theorem tc_dL_1140 : decode code 1140 = .ok (.aload_n 0, 1) := by decide +kernel
theorem tc_dL_1141 : decode code 1141 = .ok (.iload_n 3, 1) := by decide +kernel
theorem tc_dL_1142 : decode code 1142 = .ok (.iconst 2, 1) := by decide +kernel
theorem tc_dL_1143 : decode code 1143 = .ok (.iadd, 1) := by decide +kernel
theorem tc_dL_1144 : decode code 1144 = .ok (.iaload, 1) := by decide +kernel
theorem tc_dL_1145 : decode code 1145 = .ok (.aload_n 0, 1) := by decide +kernel
theorem tc_dL_1146 : decode code 1146 = .ok (.iload_n 3, 1) := by decide +kernel
theorem tc_dL_1147 : decode code 1147 = .ok (.iconst 3, 1) := by decide +kernel
theorem tc_dL_1148 : decode code 1148 = .ok (.iadd, 1) := by decide +kernel
theorem tc_dL_1149 : decode code 1149 = .ok (.iaload, 1) := by decide +kernel
theorem tc_dL_1150 : decode code 1150 = .ok (.aload_n 0, 1) := by decide +kernel
theorem tc_dL_1151 : decode code 1151 = .ok (.iload_n 3, 1) := by decide +kernel
theorem tc_dL_1152 : decode code 1152 = .ok (.iconst 4, 1) := by decide +kernel
theorem tc_dL_1153 : decode code 1153 = .ok (.iadd, 1) := by decide +kernel
theorem tc_dL_1154 : decode code 1154 = .ok (.iaload, 1) := by decide +kernel
theorem tc_dL_1155 : decode code 1155 = .ok (.invokevirtual 148, 3) := by decide +kernel
theorem tc_dL_1158 : decode code 1158 = .ok (.aload_n 2, 1) := by decide +kernel
theorem tc_dL_1159 : decode code 1159 = .ok (.aload_n 0, 1) := by decide +kernel
theorem tc_dL_1160 : decode code 1160 = .ok (.iload_n 3, 1) := by decide +kernel
theorem tc_dL_1161 : decode code 1161 = .ok (.iconst 1, 1) := by decide +kernel
theorem tc_dL_1162 : decode code 1162 = .ok (.iadd, 1) := by decide +kernel
theorem tc_dL_1163 : decode code 1163 = .ok (.iaload, 1) := by decide +kernel
theorem tc_dL_1164 : decode code 1164 = .ok (.aload_n 0, 1) := by decide +kernel
theorem tc_dL_1165 : decode code 1165 = .ok (.iload_n 3, 1) := by decide +kernel
theorem tc_dL_1166 : decode code 1166 = .ok (.iconst 2, 1) := by decide +kernel
theorem tc_dL_1167 : decode code 1167 = .ok (.iadd, 1) := by decide +kernel
theorem tc_dL_1168 : decode code 1168 = .ok (.iaload, 1) := by decide +kernel
theorem tc_dL_1169 : decode code 1169 = .ok (.aload_n 0, 1) := by decide +kernel
theorem tc_dL_1170 : decode code 1170 = .ok (.iload_n 3, 1) := by decide +kernel
theorem tc_dL_1171 : decode code 1171 = .ok (.iconst 3, 1) := by decide +kernel
theorem tc_dL_1172 : decode code 1172 = .ok (.iadd, 1) := by decide +kernel
theorem tc_dL_1173 : decode code 1173 = .ok (.iaload, 1) := by decide +kernel
theorem tc_dL_1174 : decode code 1174 = .ok (.aload_n 0, 1) := by decide +kernel
theorem tc_dL_1175 : decode code 1175 = .ok (.iload_n 3, 1) := by decide +kernel
theorem tc_dL_1176 : decode code 1176 = .ok (.iconst 4, 1) := by decide +kernel
theorem tc_dL_1177 : decode code 1177 = .ok (.iadd, 1) := by decide +kernel
theorem tc_dL_1178 : decode code 1178 = .ok (.iaload, 1) := by decide +kernel
theorem tc_dL_1179 : decode code 1179 = .ok (.invokevirtual 151, 3) := by decide +kernel
theorem tc_dL_1182 : decode code 1182 = .ok (.if_icmp .eq 177, 3) := by decide +kernel
theorem tc_dL_1185 : decode code 1185 = .ok (.iconst 0, 1) := by decide +kernel
theorem tc_dL_1186 : decode code 1186 = .ok (.ireturn, 1) := by decide +kernel
theorem tc_dL_1187 : decode code 1187 = .ok (.aload_n 1, 1) := by decide +kernel
theorem tc_dL_1188 : decode code 1188 = .ok (.aload_n 0, 1) := by decide +kernel
theorem tc_dL_1189 : decode code 1189 = .ok (.iload_n 3, 1) := by decide +kernel
theorem tc_dL_1190 : decode code 1190 = .ok (.iconst 1, 1) := by decide +kernel
theorem tc_dL_1191 : decode code 1191 = .ok (.iadd, 1) := by decide +kernel
theorem tc_dL_1192 : decode code 1192 = .ok (.iaload, 1) := by decide +kernel
theorem tc_dL_1193 : decode code 1193 = .ok (.invokevirtual 152, 3) := by decide +kernel
theorem tc_dL_1196 : decode code 1196 = .ok (.aload_n 2, 1) := by decide +kernel
theorem tc_dL_1197 : decode code 1197 = .ok (.aload_n 0, 1) := by decide +kernel
theorem tc_dL_1198 : decode code 1198 = .ok (.iload_n 3, 1) := by decide +kernel
theorem tc_dL_1199 : decode code 1199 = .ok (.iconst 1, 1) := by decide +kernel
theorem tc_dL_1200 : decode code 1200 = .ok (.iadd, 1) := by decide +kernel
theorem tc_dL_1201 : decode code 1201 = .ok (.iaload, 1) := by decide +kernel
theorem tc_dL_1202 : decode code 1202 = .ok (.invokevirtual 155, 3) := by decide +kernel
theorem tc_dL_1205 : decode code 1205 = .ok (.if_icmp .eq 154, 3) := by decide +kernel
theorem tc_dL_1208 : decode code 1208 = .ok (.iconst 0, 1) := by decide +kernel
theorem tc_dL_1209 : decode code 1209 = .ok (.ireturn, 1) := by decide +kernel
theorem tc_dL_1210 : decode code 1210 = .ok (.aload_n 1, 1) := by decide +kernel
theorem tc_dL_1211 : decode code 1211 = .ok (.aload_n 0, 1) := by decide +kernel
theorem tc_dL_1212 : decode code 1212 = .ok (.iload_n 3, 1) := by decide +kernel
theorem tc_dL_1213 : decode code 1213 = .ok (.iconst 1, 1) := by decide +kernel
theorem tc_dL_1214 : decode code 1214 = .ok (.iadd, 1) := by decide +kernel
theorem tc_dL_1215 : decode code 1215 = .ok (.iaload, 1) := by decide +kernel
theorem tc_dL_1216 : decode code 1216 = .ok (.aload_n 0, 1) := by decide +kernel
theorem tc_dL_1217 : decode code 1217 = .ok (.iload_n 3, 1) := by decide +kernel
theorem tc_dL_1218 : decode code 1218 = .ok (.iconst 2, 1) := by decide +kernel
theorem tc_dL_1219 : decode code 1219 = .ok (.iadd, 1) := by decide +kernel
theorem tc_dL_1220 : decode code 1220 = .ok (.iaload, 1) := by decide +kernel
theorem tc_dL_1221 : decode code 1221 = .ok (.aload_n 0, 1) := by decide +kernel
theorem tc_dL_1222 : decode code 1222 = .ok (.iload_n 3, 1) := by decide +kernel
theorem tc_dL_1223 : decode code 1223 = .ok (.iconst 3, 1) := by decide +kernel
theorem tc_dL_1224 : decode code 1224 = .ok (.iadd, 1) := by decide +kernel
theorem tc_dL_1225 : decode code 1225 = .ok (.iaload, 1) := by decide +kernel
theorem tc_dL_1226 : decode code 1226 = .ok (.invokevirtual 156, 3) := by decide +kernel
theorem tc_dL_1229 : decode code 1229 = .ok (.aload_n 2, 1) := by decide +kernel
theorem tc_dL_1230 : decode code 1230 = .ok (.aload_n 0, 1) := by decide +kernel
theorem tc_dL_1231 : decode code 1231 = .ok (.iload_n 3, 1) := by decide +kernel
theorem tc_dL_1232 : decode code 1232 = .ok (.iconst 1, 1) := by decide +kernel
theorem tc_dL_1233 : decode code 1233 = .ok (.iadd, 1) := by decide +kernel
theorem tc_dL_1234 : decode code 1234 = .ok (.iaload, 1) := by decide +kernel
theorem tc_dL_1235 : decode code 1235 = .ok (.aload_n 0, 1) := by decide +kernel
theorem tc_dL_1236 : decode code 1236 = .ok (.iload_n 3, 1) := by decide +kernel
theorem tc_dL_1237 : decode code 1237 = .ok (.iconst 2, 1) := by decide +kernel
theorem tc_dL_1238 : decode code 1238 = .ok (.iadd, 1) := by decide +kernel
theorem tc_dL_1239 : decode code 1239 = .ok (.iaload, 1) := by decide +kernel
theorem tc_dL_1240 : decode code 1240 = .ok (.aload_n 0, 1) := by decide +kernel
theorem tc_dL_1241 : decode code 1241 = .ok (.iload_n 3, 1) := by decide +kernel
theorem tc_dL_1242 : decode code 1242 = .ok (.iconst 3, 1) := by decide +kernel
theorem tc_dL_1243 : decode code 1243 = .ok (.iadd, 1) := by decide +kernel
theorem tc_dL_1244 : decode code 1244 = .ok (.iaload, 1) := by decide +kernel
theorem tc_dL_1245 : decode code 1245 = .ok (.invokevirtual 159, 3) := by decide +kernel
theorem tc_dL_1248 : decode code 1248 = .ok (.if_icmp .eq 111, 3) := by decide +kernel
theorem tc_dL_1251 : decode code 1251 = .ok (.iconst 0, 1) := by decide +kernel
theorem tc_dL_1252 : decode code 1252 = .ok (.ireturn, 1) := by decide +kernel
theorem tc_dL_1253 : decode code 1253 = .ok (.aload_n 1, 1) := by decide +kernel
theorem tc_dL_1254 : decode code 1254 = .ok (.aload_n 0, 1) := by decide +kernel
theorem tc_dL_1255 : decode code 1255 = .ok (.iload_n 3, 1) := by decide +kernel
theorem tc_dL_1256 : decode code 1256 = .ok (.iconst 1, 1) := by decide +kernel
theorem tc_dL_1257 : decode code 1257 = .ok (.iadd, 1) := by decide +kernel
theorem tc_dL_1258 : decode code 1258 = .ok (.iaload, 1) := by decide +kernel
theorem tc_dL_1259 : decode code 1259 = .ok (.aload_n 0, 1) := by decide +kernel
theorem tc_dL_1260 : decode code 1260 = .ok (.iload_n 3, 1) := by decide +kernel
theorem tc_dL_1261 : decode code 1261 = .ok (.iconst 2, 1) := by decide +kernel
theorem tc_dL_1262 : decode code 1262 = .ok (.iadd, 1) := by decide +kernel
theorem tc_dL_1263 : decode code 1263 = .ok (.iaload, 1) := by decide +kernel
theorem tc_dL_1264 : decode code 1264 = .ok (.aload_n 0, 1) := by decide +kernel
theorem tc_dL_1265 : decode code 1265 = .ok (.iload_n 3, 1) := by decide +kernel
theorem tc_dL_1266 : decode code 1266 = .ok (.iconst 3, 1) := by decide +kernel
theorem tc_dL_1267 : decode code 1267 = .ok (.iadd, 1) := by decide +kernel
theorem tc_dL_1268 : decode code 1268 = .ok (.iaload, 1) := by decide +kernel
theorem tc_dL_1269 : decode code 1269 = .ok (.invokevirtual 160, 3) := by decide +kernel
theorem tc_dL_1272 : decode code 1272 = .ok (.aload_n 2, 1) := by decide +kernel
theorem tc_dL_1273 : decode code 1273 = .ok (.aload_n 0, 1) := by decide +kernel
theorem tc_dL_1274 : decode code 1274 = .ok (.iload_n 3, 1) := by decide +kernel
theorem tc_dL_1275 : decode code 1275 = .ok (.iconst 1, 1) := by decide +kernel
theorem tc_dL_1276 : decode code 1276 = .ok (.iadd, 1) := by decide +kernel
theorem tc_dL_1277 : decode code 1277 = .ok (.iaload, 1) := by decide +kernel
theorem tc_dL_1278 : decode code 1278 = .ok (.aload_n 0, 1) := by decide +kernel
theorem tc_dL_1279 : decode code 1279 = .ok (.iload_n 3, 1) := by decide +kernel
theorem tc_dL_1280 : decode code 1280 = .ok (.iconst 2, 1) := by decide +kernel
theorem tc_dL_1281 : decode code 1281 = .ok (.iadd, 1) := by decide +kernel
theorem tc_dL_1282 : decode code 1282 = .ok (.iaload, 1) := by decide +kernel
theorem tc_dL_1283 : decode code 1283 = .ok (.aload_n 0, 1) := by decide +kernel
theorem tc_dL_1284 : decode code 1284 = .ok (.iload_n 3, 1) := by decide +kernel
theorem tc_dL_1285 : decode code 1285 = .ok (.iconst 3, 1) := by decide +kernel
theorem tc_dL_1286 : decode code 1286 = .ok (.iadd, 1) := by decide +kernel
theorem tc_dL_1287 : decode code 1287 = .ok (.iaload, 1) := by decide +kernel
theorem tc_dL_1288 : decode code 1288 = .ok (.invokevirtual 163, 3) := by decide +kernel
theorem tc_dL_1291 : decode code 1291 = .ok (.if_icmp .eq 68, 3) := by decide +kernel
theorem tc_dL_1294 : decode code 1294 = .ok (.iconst 0, 1) := by decide +kernel
theorem tc_dL_1295 : decode code 1295 = .ok (.ireturn, 1) := by decide +kernel
theorem tc_dL_1296 : decode code 1296 = .ok (.aload_n 1, 1) := by decide +kernel
theorem tc_dL_1297 : decode code 1297 = .ok (.aload_n 0, 1) := by decide +kernel
theorem tc_dL_1298 : decode code 1298 = .ok (.iload_n 3, 1) := by decide +kernel
theorem tc_dL_1299 : decode code 1299 = .ok (.iconst 1, 1) := by decide +kernel
theorem tc_dL_1300 : decode code 1300 = .ok (.iadd, 1) := by decide +kernel
theorem tc_dL_1301 : decode code 1301 = .ok (.iaload, 1) := by decide +kernel
theorem tc_dL_1302 : decode code 1302 = .ok (.aload_n 0, 1) := by decide +kernel
theorem tc_dL_1303 : decode code 1303 = .ok (.iload_n 3, 1) := by decide +kernel
theorem tc_dL_1304 : decode code 1304 = .ok (.iconst 2, 1) := by decide +kernel
theorem tc_dL_1305 : decode code 1305 = .ok (.iadd, 1) := by decide +kernel
theorem tc_dL_1306 : decode code 1306 = .ok (.iaload, 1) := by decide +kernel
theorem tc_dL_1307 : decode code 1307 = .ok (.aload_n 0, 1) := by decide +kernel
theorem tc_dL_1308 : decode code 1308 = .ok (.iload_n 3, 1) := by decide +kernel
theorem tc_dL_1309 : decode code 1309 = .ok (.iconst 3, 1) := by decide +kernel
theorem tc_dL_1310 : decode code 1310 = .ok (.iadd, 1) := by decide +kernel
theorem tc_dL_1311 : decode code 1311 = .ok (.iaload, 1) := by decide +kernel
theorem tc_dL_1312 : decode code 1312 = .ok (.aload_n 0, 1) := by decide +kernel
theorem tc_dL_1313 : decode code 1313 = .ok (.iload_n 3, 1) := by decide +kernel
theorem tc_dL_1314 : decode code 1314 = .ok (.iconst 4, 1) := by decide +kernel
theorem tc_dL_1315 : decode code 1315 = .ok (.iadd, 1) := by decide +kernel
theorem tc_dL_1316 : decode code 1316 = .ok (.iaload, 1) := by decide +kernel
theorem tc_dL_1317 : decode code 1317 = .ok (.aload_n 0, 1) := by decide +kernel
theorem tc_dL_1318 : decode code 1318 = .ok (.iload_n 3, 1) := by decide +kernel
theorem tc_dL_1319 : decode code 1319 = .ok (.iconst 5, 1) := by decide +kernel
theorem tc_dL_1320 : decode code 1320 = .ok (.iadd, 1) := by decide +kernel
theorem tc_dL_1321 : decode code 1321 = .ok (.iaload, 1) := by decide +kernel
theorem tc_dL_1322 : decode code 1322 = .ok (.invokevirtual 164, 3) := by decide +kernel
theorem tc_dL_1325 : decode code 1325 = .ok (.aload_n 2, 1) := by decide +kernel
theorem tc_dL_1326 : decode code 1326 = .ok (.aload_n 0, 1) := by decide +kernel
theorem tc_dL_1327 : decode code 1327 = .ok (.iload_n 3, 1) := by decide +kernel
theorem tc_dL_1328 : decode code 1328 = .ok (.iconst 1, 1) := by decide +kernel
theorem tc_dL_1329 : decode code 1329 = .ok (.iadd, 1) := by decide +kernel
theorem tc_dL_1330 : decode code 1330 = .ok (.iaload, 1) := by decide +kernel
theorem tc_dL_1331 : decode code 1331 = .ok (.aload_n 0, 1) := by decide +kernel
theorem tc_dL_1332 : decode code 1332 = .ok (.iload_n 3, 1) := by decide +kernel
theorem tc_dL_1333 : decode code 1333 = .ok (.iconst 2, 1) := by decide +kernel
theorem tc_dL_1334 : decode code 1334 = .ok (.iadd, 1) := by decide +kernel
theorem tc_dL_1335 : decode code 1335 = .ok (.iaload, 1) := by decide +kernel
theorem tc_dL_1336 : decode code 1336 = .ok (.aload_n 0, 1) := by decide +kernel
theorem tc_dL_1337 : decode code 1337 = .ok (.iload_n 3, 1) := by decide +kernel
theorem tc_dL_1338 : decode code 1338 = .ok (.iconst 3, 1) := by decide +kernel
theorem tc_dL_1339 : decode code 1339 = .ok (.iadd, 1) := by decide +kernel
theorem tc_dL_1340 : decode code 1340 = .ok (.iaload, 1) := by decide +kernel
theorem tc_dL_1341 : decode code 1341 = .ok (.aload_n 0, 1) := by decide +kernel
theorem tc_dL_1342 : decode code 1342 = .ok (.iload_n 3, 1) := by decide +kernel
theorem tc_dL_1343 : decode code 1343 = .ok (.iconst 4, 1) := by decide +kernel
theorem tc_dL_1344 : decode code 1344 = .ok (.iadd, 1) := by decide +kernel
theorem tc_dL_1345 : decode code 1345 = .ok (.iaload, 1) := by decide +kernel
theorem tc_dL_1346 : decode code 1346 = .ok (.aload_n 0, 1) := by decide +kernel
theorem tc_dL_1347 : decode code 1347 = .ok (.iload_n 3, 1) := by decide +kernel
theorem tc_dL_1348 : decode code 1348 = .ok (.iconst 5, 1) := by decide +kernel
theorem tc_dL_1349 : decode code 1349 = .ok (.iadd, 1) := by decide +kernel
theorem tc_dL_1350 : decode code 1350 = .ok (.iaload, 1) := by decide +kernel
theorem tc_dL_1351 : decode code 1351 = .ok (.invokevirtual 167, 3) := by decide +kernel
theorem tc_dL_1354 : decode code 1354 = .ok (.if_icmp .eq 5, 3) := by decide +kernel
theorem tc_dL_1357 : decode code 1357 = .ok (.iconst 0, 1) := by decide +kernel
theorem tc_dL_1358 : decode code 1358 = .ok (.ireturn, 1) := by decide +kernel
theorem tc_dL_1359 : decode code 1359 = .ok (.iinc 3 7, 3) := by decide +kernel
theorem tc_dL_1362 : decode code 1362 = .ok (.goto (-1344), 3) := by decide +kernel
theorem tc_dL_1365 : decode code 1365 = .ok (.iconst 1, 1) := by decide +kernel
theorem tc_dL_1366 : decode code 1366 = .ok (.ireturn, 1) := by decide +kernel
