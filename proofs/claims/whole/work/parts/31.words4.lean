set_option maxRecDepth 100000 in
theorem WS_at_900 : (WS.drop 900).take 15 = ([1190, 1191, 1193, 1194, 1195, 1196, 1197, 1198, 1199, 1200, 1202, 1203, 1204, 1205, 1206] : List Nat).filterMap (fun i => lw_tbl[i]?) := by decide +kernel
set_option maxRecDepth 100000 in
theorem WS_at_915 : (WS.drop 915).take 15 = ([1207, 1208, 1209, 1210, 1211, 1212, 1214, 1215, 1216, 1218, 1219, 1220, 1222, 1223, 1224] : List Nat).filterMap (fun i => lw_tbl[i]?) := by decide +kernel
set_option maxRecDepth 100000 in
theorem WS_at_930 : (WS.drop 930).take 15 = ([1226, 1227, 1228, 1229, 1231, 1232, 1233, 1234, 1235, 1236, 1238, 1239, 1240, 1242, 1243] : List Nat).filterMap (fun i => lw_tbl[i]?) := by decide +kernel
set_option maxRecDepth 100000 in
theorem WS_at_945 : (WS.drop 945).take 15 = ([1244, 1245, 1246, 1247, 1248, 1250, 1251, 1252, 1253, 1255, 1256, 1257, 1259, 1260, 1261] : List Nat).filterMap (fun i => lw_tbl[i]?) := by decide +kernel
set_option maxRecDepth 100000 in
theorem WS_at_960 : (WS.drop 960).take 15 = ([1263, 1264, 1265, 1267, 1268, 1269, 1270, 1271, 1272, 1273, 1274, 1275, 1276, 1277, 1278] : List Nat).filterMap (fun i => lw_tbl[i]?) := by decide +kernel
set_option maxRecDepth 100000 in
theorem WS_at_975 : (WS.drop 975).take 15 = ([1279, 1280, 1281, 1282, 1283, 1284, 1285, 1286, 1287, 1288, 1289, 1290, 1291, 1292, 1293] : List Nat).filterMap (fun i => lw_tbl[i]?) := by decide +kernel
set_option maxRecDepth 100000 in
theorem WS_at_990 : (WS.drop 990).take 15 = ([1294, 1295, 1296, 1297, 1298, 22, 25, 24, 23, 27, 28, 32, 26, 29, 30] : List Nat).filterMap (fun i => lw_tbl[i]?) := by decide +kernel
set_option maxRecDepth 100000 in
theorem WS_at_1005 : (WS.drop 1005).take 15 = ([31, 35, 34, 36, 33, 41, 43, 50, 48, 42, 40, 39, 38, 47, 46] : List Nat).filterMap (fun i => lw_tbl[i]?) := by decide +kernel
set_option maxRecDepth 100000 in
theorem WS_at_1020 : (WS.drop 1020).take 15 = ([45, 44, 37, 49, 53, 55, 54, 58, 57, 56, 52, 62, 61, 60, 59] : List Nat).filterMap (fun i => lw_tbl[i]?) := by decide +kernel
set_option maxRecDepth 100000 in
theorem WS_at_1035 : (WS.drop 1035).take 15 = ([51, 0, 1, 2, 3, 4, 5, 19, 20, 11, 12, 13, 14, 15, 16] : List Nat).filterMap (fun i => lw_tbl[i]?) := by decide +kernel
set_option maxRecDepth 100000 in
theorem WS_at_1050 : (WS.drop 1050).take 15 = ([18, 21, 17, 6, 7, 8, 9, 10] : List Nat).filterMap (fun i => lw_tbl[i]?) := by decide +kernel
