set_option maxRecDepth 100000 in
theorem WS_at_720 : (WS.drop 720).take 15 = ([957, 959, 961, 963, 965, 967, 969, 971, 973, 975, 977, 979, 981, 983, 985] : List Nat).filterMap (fun i => lw_tbl[i]?) := by decide +kernel
set_option maxRecDepth 100000 in
theorem WS_at_735 : (WS.drop 735).take 15 = ([987, 989, 991, 993, 995, 997, 999, 1001, 1003, 1005, 1008, 1009, 1010, 1011, 1012] : List Nat).filterMap (fun i => lw_tbl[i]?) := by decide +kernel
set_option maxRecDepth 100000 in
theorem WS_at_750 : (WS.drop 750).take 15 = ([1013, 1014, 1015, 1016, 1017, 1018, 1019, 1020, 1021, 1022, 1023, 1024, 1025, 1027, 1028] : List Nat).filterMap (fun i => lw_tbl[i]?) := by decide +kernel
set_option maxRecDepth 100000 in
theorem WS_at_765 : (WS.drop 765).take 15 = ([1029, 1030, 1031, 1032, 1033, 1034, 1035, 1036, 1037, 1038, 1039, 1040, 1041, 1043, 1044] : List Nat).filterMap (fun i => lw_tbl[i]?) := by decide +kernel
set_option maxRecDepth 100000 in
theorem WS_at_780 : (WS.drop 780).take 15 = ([1045, 1047, 1048, 1049, 1051, 1052, 1053, 1054, 1055, 1056, 1057, 1058, 1059, 1060, 1061] : List Nat).filterMap (fun i => lw_tbl[i]?) := by decide +kernel
set_option maxRecDepth 100000 in
theorem WS_at_795 : (WS.drop 795).take 15 = ([1062, 1063, 1064, 1065, 1066, 1067, 1068, 1070, 1071, 1072, 1074, 1075, 1076, 1078, 1079] : List Nat).filterMap (fun i => lw_tbl[i]?) := by decide +kernel
set_option maxRecDepth 100000 in
theorem WS_at_810 : (WS.drop 810).take 15 = ([1080, 1082, 1083, 1084, 1086, 1087, 1088, 1090, 1091, 1092, 1094, 1095, 1096, 1097, 1098] : List Nat).filterMap (fun i => lw_tbl[i]?) := by decide +kernel
set_option maxRecDepth 100000 in
theorem WS_at_825 : (WS.drop 825).take 15 = ([1099, 1100, 1101, 1103, 1104, 1105, 1107, 1108, 1109, 1110, 1111, 1112, 1113, 1114, 1116] : List Nat).filterMap (fun i => lw_tbl[i]?) := by decide +kernel
set_option maxRecDepth 100000 in
theorem WS_at_840 : (WS.drop 840).take 15 = ([1117, 1118, 1119, 1120, 1121, 1122, 1123, 1125, 1126, 1127, 1129, 1130, 1131, 1133, 1134] : List Nat).filterMap (fun i => lw_tbl[i]?) := by decide +kernel
set_option maxRecDepth 100000 in
theorem WS_at_855 : (WS.drop 855).take 15 = ([1135, 1136, 1137, 1138, 1139, 1141, 1142, 1143, 1145, 1146, 1147, 1149, 1150, 1151, 1153] : List Nat).filterMap (fun i => lw_tbl[i]?) := by decide +kernel
set_option maxRecDepth 100000 in
theorem WS_at_870 : (WS.drop 870).take 15 = ([1154, 1155, 1156, 1157, 1158, 1159, 1160, 1161, 1162, 1163, 1164, 1166, 1167, 1168, 1169] : List Nat).filterMap (fun i => lw_tbl[i]?) := by decide +kernel
set_option maxRecDepth 100000 in
theorem WS_at_885 : (WS.drop 885).take 15 = ([1171, 1172, 1173, 1175, 1176, 1177, 1179, 1180, 1181, 1183, 1184, 1185, 1186, 1188, 1189] : List Nat).filterMap (fun i => lw_tbl[i]?) := by decide +kernel
