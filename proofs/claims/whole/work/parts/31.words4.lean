set_option maxRecDepth 100000 in
theorem WS_at_828 : (WS.drop 828).take 12 = ([1103, 1104, 1105, 1107, 1108, 1109, 1110, 1111, 1112, 1113, 1114, 1116] : List Nat).filterMap (fun i => lw_tbl[i]?) := by decide +kernel
set_option maxRecDepth 100000 in
theorem WS_at_840 : (WS.drop 840).take 12 = ([1117, 1118, 1119, 1120, 1121, 1122, 1123, 1125, 1126, 1127, 1129, 1130] : List Nat).filterMap (fun i => lw_tbl[i]?) := by decide +kernel
set_option maxRecDepth 100000 in
theorem WS_at_852 : (WS.drop 852).take 12 = ([1131, 1133, 1134, 1135, 1136, 1137, 1138, 1139, 1141, 1142, 1143, 1145] : List Nat).filterMap (fun i => lw_tbl[i]?) := by decide +kernel
set_option maxRecDepth 100000 in
theorem WS_at_864 : (WS.drop 864).take 12 = ([1146, 1147, 1149, 1150, 1151, 1153, 1154, 1155, 1156, 1157, 1158, 1159] : List Nat).filterMap (fun i => lw_tbl[i]?) := by decide +kernel
set_option maxRecDepth 100000 in
theorem WS_at_876 : (WS.drop 876).take 12 = ([1160, 1161, 1162, 1163, 1164, 1166, 1167, 1168, 1169, 1171, 1172, 1173] : List Nat).filterMap (fun i => lw_tbl[i]?) := by decide +kernel
set_option maxRecDepth 100000 in
theorem WS_at_888 : (WS.drop 888).take 12 = ([1175, 1176, 1177, 1179, 1180, 1181, 1183, 1184, 1185, 1186, 1188, 1189] : List Nat).filterMap (fun i => lw_tbl[i]?) := by decide +kernel
set_option maxRecDepth 100000 in
theorem WS_at_900 : (WS.drop 900).take 12 = ([1190, 1191, 1193, 1194, 1195, 1196, 1197, 1198, 1199, 1200, 1202, 1203] : List Nat).filterMap (fun i => lw_tbl[i]?) := by decide +kernel
set_option maxRecDepth 100000 in
theorem WS_at_912 : (WS.drop 912).take 12 = ([1204, 1205, 1206, 1207, 1208, 1209, 1210, 1211, 1212, 1214, 1215, 1216] : List Nat).filterMap (fun i => lw_tbl[i]?) := by decide +kernel
set_option maxRecDepth 100000 in
theorem WS_at_924 : (WS.drop 924).take 12 = ([1218, 1219, 1220, 1222, 1223, 1224, 1226, 1227, 1228, 1229, 1231, 1232] : List Nat).filterMap (fun i => lw_tbl[i]?) := by decide +kernel
set_option maxRecDepth 100000 in
theorem WS_at_936 : (WS.drop 936).take 12 = ([1233, 1234, 1235, 1236, 1238, 1239, 1240, 1242, 1243, 1244, 1245, 1246] : List Nat).filterMap (fun i => lw_tbl[i]?) := by decide +kernel
set_option maxRecDepth 100000 in
theorem WS_at_948 : (WS.drop 948).take 12 = ([1247, 1248, 1250, 1251, 1252, 1253, 1255, 1256, 1257, 1259, 1260, 1261] : List Nat).filterMap (fun i => lw_tbl[i]?) := by decide +kernel
set_option maxRecDepth 100000 in
theorem WS_at_960 : (WS.drop 960).take 12 = ([1263, 1264, 1265, 1267, 1268, 1269, 1270, 1271, 1272, 1273, 1274, 1275] : List Nat).filterMap (fun i => lw_tbl[i]?) := by decide +kernel
set_option maxRecDepth 100000 in
theorem WS_at_972 : (WS.drop 972).take 12 = ([1276, 1277, 1278, 1279, 1280, 1281, 1282, 1283, 1284, 1285, 1286, 1287] : List Nat).filterMap (fun i => lw_tbl[i]?) := by decide +kernel
set_option maxRecDepth 100000 in
theorem WS_at_984 : (WS.drop 984).take 12 = ([1288, 1289, 1290, 1291, 1292, 1293, 1294, 1295, 1296, 1297, 1298, 22] : List Nat).filterMap (fun i => lw_tbl[i]?) := by decide +kernel
set_option maxRecDepth 100000 in
theorem WS_at_996 : (WS.drop 996).take 12 = ([25, 24, 23, 27, 28, 32, 26, 29, 30, 31, 35, 34] : List Nat).filterMap (fun i => lw_tbl[i]?) := by decide +kernel
set_option maxRecDepth 100000 in
theorem WS_at_1008 : (WS.drop 1008).take 12 = ([36, 33, 41, 43, 50, 48, 42, 40, 39, 38, 47, 46] : List Nat).filterMap (fun i => lw_tbl[i]?) := by decide +kernel
set_option maxRecDepth 100000 in
theorem WS_at_1020 : (WS.drop 1020).take 12 = ([45, 44, 37, 49, 53, 55, 54, 58, 57, 56, 52, 62] : List Nat).filterMap (fun i => lw_tbl[i]?) := by decide +kernel
set_option maxRecDepth 100000 in
theorem WS_at_1032 : (WS.drop 1032).take 12 = ([61, 60, 59, 51, 0, 1, 2, 3, 4, 5, 19, 20] : List Nat).filterMap (fun i => lw_tbl[i]?) := by decide +kernel
set_option maxRecDepth 100000 in
theorem WS_at_1044 : (WS.drop 1044).take 12 = ([11, 12, 13, 14, 15, 16, 18, 21, 17, 6, 7, 8] : List Nat).filterMap (fun i => lw_tbl[i]?) := by decide +kernel
set_option maxRecDepth 100000 in
theorem WS_at_1056 : (WS.drop 1056).take 12 = ([9, 10] : List Nat).filterMap (fun i => lw_tbl[i]?) := by decide +kernel
