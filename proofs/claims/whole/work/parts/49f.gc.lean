set_option maxRecDepth 20000 in
theorem ggL_law_X9_leastStates : GoodIn wsL_law wsX9_leastStates := goodIn_r _ [1104, 104, 517, 518, 519, 98, 520, 174, 165, 166, 167, 5, 168, 169, 1105, 1106, 1107, 1108, 230, 479, 480, 481, 482, 483, 484, 485, 486, 487, 488, 403, 489, 490, 491, 492, 493, 115, 170, 171, 172, 173, 1077, 1078, 1079, 1080, 108, 109, 1415, 1416, 1417, 1418, 1419, 1420, 1421, 1422, 1423, 1424, 1425, 1426, 1427, 1428, 1429, 1430, 1431, 1466, 1467, 1468] (by decide +kernel) (by decide +kernel)
set_option maxRecDepth 20000 in
theorem gL_law_X9_leastStates : GoodIn wsL_law (wsV RL 256 RX9 yX9_leastStates wsX9_leastStates) := goodIn_app (goodIn_of _ (by decide +kernel)) ggL_law_X9_leastStates
set_option maxRecDepth 20000 in
theorem ggL_law_L_sample : GoodIn wsL_law wsL_sample := goodIn_ca (goodIn_ca (goodIn_ca (goodIn_r _ [1111, 130, 188, 189, 1112, 1113, 1114, 2, 1115, 135, 136, 194, 195, 196, 197, 34, 1039, 1040, 1041, 1116, 1117, 1118, 33, 1119, 1120, 77, 78, 210, 211, 1121, 1122, 1123, 1124, 1125, 142, 143, 1407, 1408, 1409, 1410, 1411, 1412, 1413, 1414, 1450, 1451, 1452, 1453, 1454, 1455] (by decide +kernel) (by decide +kernel)) (goodIn_sub (fun _ h => List.mem_append_left _ (List.mem_append_left _ (List.mem_append_left _ (List.mem_append_left _ (List.mem_append_right _ h))))) (by decide +kernel))) (goodIn_sub (fun _ h => List.mem_append_left _ (List.mem_append_left _ (List.mem_append_left _ (List.mem_append_right _ h)))) (by decide +kernel))) (goodIn_sub (fun _ h => List.mem_append_left _ (List.mem_append_left _ (List.mem_append_right _ h))) (by decide +kernel))
set_option maxRecDepth 20000 in
theorem gL_law_L_sample : GoodIn wsL_law (va_wsS RL 257 yL_sample wsL_sample) := goodIn_app (goodIn_of _ (by decide +kernel)) ggL_law_L_sample
set_option maxRecDepth 20000 in
theorem ggL_law_X9_sample : GoodIn wsL_law wsX9_sample := goodIn_r _ [1129, 105, 230, 50, 231, 232, 233, 98, 234, 235, 236, 237, 238, 239, 240, 241, 242, 12, 13, 243, 244, 180, 245, 246, 247, 248, 249, 250, 251, 252, 253, 254, 255, 256, 257, 258, 259, 1053, 1054, 5, 1055, 1056, 162, 163, 164, 170, 171, 172, 173, 174, 165, 166, 167, 168, 169, 260, 261, 262, 263, 179, 115, 264, 265, 266, 267, 268, 269, 270, 271, 272, 273, 274, 275, 114, 276, 277, 278, 279, 280, 281, 282, 283, 284, 285, 286, 287, 288, 289, 290, 291, 292, 293, 294, 295, 296, 297, 298, 299, 300, 301, 302, 303, 304, 305, 306, 307, 308, 309, 1415, 1416, 1417, 1418, 1419, 1420, 1421, 1422, 1423, 1424, 1425, 1426, 1427, 1428, 1429, 1430, 1431, 1469, 1470, 1471, 1472, 1466, 1467, 1468] (by decide +kernel) (by decide +kernel)
set_option maxRecDepth 20000 in
theorem gL_law_X9_sample : GoodIn wsL_law (wsV RL 260 RX9 yX9_sample wsX9_sample) := goodIn_app (goodIn_of _ (by decide +kernel)) ggL_law_X9_sample
set_option maxRecDepth 20000 in
theorem ggL_law_L_fits : GoodIn wsL_law wsL_fits := goodIn_ca (goodIn_r _ [1132, 188, 1133, 1134, 1135, 2, 1136, 194, 195, 30, 34, 1137, 1138, 1139, 33, 1140, 1120, 77, 78, 1125, 210, 211, 1141, 1043, 1044, 29, 1045, 1008, 73, 1046, 1047, 1048, 216, 217, 1407, 1408, 1409, 1410, 1411, 1412, 1413, 1414, 1447, 1448, 1449, 1450, 1451, 1452, 1453, 1454, 1455] (by decide +kernel) (by decide +kernel)) (goodIn_sub (fun _ h => List.mem_append_left _ (List.mem_append_left _ (List.mem_append_left _ (List.mem_append_right _ h)))) (by decide +kernel))
set_option maxRecDepth 20000 in
theorem gL_law_L_fits : GoodIn wsL_law (va_wsS RL 261 yL_fits wsL_fits) := goodIn_app (goodIn_of _ (by decide +kernel)) ggL_law_L_fits
set_option maxRecDepth 20000 in
theorem ggL_law_X9_fits : GoodIn wsL_law wsX9_fits := goodIn_r _ [1145, 104, 105, 230, 517, 518, 519, 98, 520, 174, 165, 166, 167, 5, 168, 169, 231, 232, 233, 234, 235, 236, 237, 238, 239, 240, 241, 242, 12, 13, 243, 244, 180, 245, 246, 247, 248, 249, 250, 251, 252, 253, 254, 255, 256, 257, 258, 259, 1057, 1058, 1059, 1060, 479, 480, 481, 482, 483, 484, 485, 486, 487, 488, 403, 489, 490, 491, 492, 493, 115, 1415, 1416, 1417, 1418, 1419, 1420, 1421, 1422, 1423, 1424, 1425, 1426, 1427, 1428, 1429, 1430, 1431, 1466, 1467, 1468, 1469, 1470, 1471, 1472] (by decide +kernel) (by decide +kernel)
set_option maxRecDepth 20000 in
theorem gL_law_X9_fits : GoodIn wsL_law (wsV RL 263 RX9 yX9_fits wsX9_fits) := goodIn_app (goodIn_of _ (by decide +kernel)) ggL_law_X9_fits
set_option maxRecDepth 20000 in
theorem ggL_law_L_fewest : GoodIn wsL_law wsL_fewest := goodIn_ca (goodIn_r _ [1148, 729, 1149, 1150, 1151, 2, 1152, 734, 735, 34, 1153, 1154, 1155, 33, 1156, 80, 1157, 1158, 1159, 1160, 1120, 79, 77, 78, 1125, 210, 211, 1161, 1047, 29, 1048, 216, 217, 1162, 1163, 1164, 1165, 142, 143, 1407, 1408, 1409, 1410, 1411, 1412, 1413, 1414, 1450, 1451, 1452, 1453, 1454, 1455] (by decide +kernel) (by decide +kernel)) (goodIn_sub (fun _ h => List.mem_append_right _ h) (by decide +kernel))
set_option maxRecDepth 20000 in
theorem gL_law_L_fewest : GoodIn wsL_law (va_wsS RL 264 yL_fewest wsL_fewest) := goodIn_app (goodIn_of _ (by decide +kernel)) ggL_law_L_fewest
set_option maxRecDepth 20000 in
theorem ggL_law_X9_fewest : GoodIn wsL_law wsX9_fewest := goodIn_r _ [1169, 1170, 1171, 1172, 5, 1173, 105, 230, 231, 232, 233, 98, 234, 235, 236, 237, 238, 239, 240, 241, 242, 12, 13, 243, 244, 180, 245, 246, 247, 248, 249, 250, 251, 252, 253, 254, 255, 256, 257, 258, 259, 1174, 1175, 1176, 165, 166, 167, 168, 169, 1415, 1416, 1417, 1418, 1419, 1420, 1421, 1422, 1423, 1424, 1425, 1426, 1427, 1428, 1429, 1430, 1431, 1469, 1470, 1471, 1472, 1466, 1467, 1468] (by decide +kernel) (by decide +kernel)
set_option maxRecDepth 20000 in
theorem gL_law_X9_fewest : GoodIn wsL_law (wsV RL 266 RX9 yX9_fewest wsX9_fewest) := goodIn_app (goodIn_of _ (by decide +kernel)) ggL_law_X9_fewest
set_option maxRecDepth 20000 in
theorem ggL_law_L_secret : GoodIn wsL_law wsL_secret := goodIn_ca (goodIn_r _ [1179, 130, 1180, 1181, 1182, 2, 1183, 135, 136, 38, 1184, 1185, 37, 1186, 1187, 1188, 1189, 1190, 1191, 1192, 84, 85, 1193, 1194, 1195, 1407, 1408, 1409, 1410, 1411, 1412, 1413, 1414, 1456, 1457, 1458] (by decide +kernel) (by decide +kernel)) (goodIn_sub (fun _ h => List.mem_append_left _ (List.mem_append_left _ (List.mem_append_left _ (List.mem_append_left _ (List.mem_append_right _ h))))) (by decide +kernel))
set_option maxRecDepth 20000 in
theorem gL_law_L_secret : GoodIn wsL_law (va_wsS RL 267 yL_secret wsL_secret) := goodIn_app (goodIn_of _ (by decide +kernel)) ggL_law_L_secret
set_option maxRecDepth 20000 in
theorem ggL_law_X9_secret : GoodIn wsL_law wsX9_secret := goodIn_r _ [1199, 106, 1200, 1201, 1202, 5, 1203, 1204, 162, 163, 164, 165, 166, 167, 168, 169, 170, 171, 172, 98, 173, 174, 175, 176, 177, 178, 179, 180, 115, 1415, 1416, 1417, 1418, 1419, 1420, 1421, 1422, 1423, 1424, 1425, 1426, 1427, 1428, 1429, 1430, 1431, 1466, 1467, 1468] (by decide +kernel) (by decide +kernel)
set_option maxRecDepth 20000 in
theorem gL_law_X9_secret : GoodIn wsL_law (wsV RL 269 RX9 yX9_secret wsX9_secret) := goodIn_app (goodIn_of _ (by decide +kernel)) ggL_law_X9_secret
set_option maxRecDepth 20000 in
theorem ggL_law_L_guess : GoodIn wsL_law wsL_guess := goodIn_ca (goodIn_ca (goodIn_r _ [1207, 130, 189, 1208, 1209, 1210, 2, 1211, 135, 136, 196, 197, 38, 1184, 1185, 37, 1186, 1212, 1213, 1214, 1215, 1191, 85, 84, 1192, 1193, 1194, 1195, 1216, 1217, 1218, 1219, 304, 278, 305, 1220, 1221, 1222, 1223, 1224, 1225, 1407, 1408, 1409, 1410, 1411, 1412, 1413, 1414, 1456, 1457, 1458] (by decide +kernel) (by decide +kernel)) (goodIn_sub (fun _ h => List.mem_append_left _ (List.mem_append_left _ (List.mem_append_left _ (List.mem_append_left _ (List.mem_append_right _ h))))) (by decide +kernel))) (goodIn_sub (fun _ h => List.mem_append_left _ (List.mem_append_left _ (List.mem_append_right _ h))) (by decide +kernel))
set_option maxRecDepth 20000 in
theorem gL_law_L_guess : GoodIn wsL_law (va_wsS RL 270 yL_guess wsL_guess) := goodIn_app (goodIn_of _ (by decide +kernel)) ggL_law_L_guess
set_option maxRecDepth 20000 in
theorem ggL_law_X9_guess : GoodIn wsL_law wsX9_guess := goodIn_r _ [1229, 106, 50, 1200, 1201, 1202, 5, 1203, 1204, 162, 163, 164, 170, 171, 172, 98, 173, 174, 165, 166, 167, 168, 169, 1230, 1231, 1232, 749, 304, 278, 305, 260, 261, 262, 263, 179, 180, 115, 264, 265, 266, 267, 268, 269, 270, 271, 272, 273, 274, 275, 114, 276, 277, 279, 280, 281, 282, 283, 284, 285, 286, 287, 288, 289, 290, 291, 292, 293, 294, 295, 296, 297, 298, 299, 300, 301, 302, 303, 306, 307, 308, 309, 1415, 1416, 1417, 1418, 1419, 1420, 1421, 1422, 1423, 1424, 1425, 1426, 1427, 1428, 1429, 1430, 1431, 1466, 1467, 1468] (by decide +kernel) (by decide +kernel)
set_option maxRecDepth 20000 in
theorem gL_law_X9_guess : GoodIn wsL_law (wsV RL 272 RX9 yX9_guess wsX9_guess) := goodIn_app (goodIn_of _ (by decide +kernel)) ggL_law_X9_guess
set_option maxRecDepth 20000 in
theorem ggL_law_X8_possible : GoodIn wsL_law wsX8_possible := goodIn_r _ [1236, 38, 1237, 791, 792, 793, 794, 795, 796, 1407, 1408, 1409, 1410, 1411, 1412, 1413, 1414, 1456, 1457, 1458] (by decide +kernel) (by decide +kernel)
set_option maxRecDepth 20000 in
theorem gL_law_X8_possible : GoodIn wsL_law (wsV RL 273 RX8 yX8_possible wsX8_possible) := goodIn_app (goodIn_of _ (by decide +kernel)) ggL_law_X8_possible
set_option maxRecDepth 20000 in
theorem ggL_law_X9_possible : GoodIn wsL_law wsX9_possible := goodIn_r _ [1241, 169, 1242, 1243, 1244, 5, 1245, 1246, 1247, 1248, 1249, 106, 230, 1201, 1202, 1203, 1204, 162, 163, 164, 231, 232, 233, 98, 234, 235, 236, 237, 238, 239, 240, 241, 242, 12, 13, 243, 244, 180, 245, 246, 247, 248, 249, 250, 251, 252, 253, 254, 255, 256, 257, 258, 259, 1230, 1231, 1232, 749, 304, 278, 305, 1415, 1416, 1417, 1418, 1419, 1420, 1421, 1422, 1423, 1424, 1425, 1426, 1427, 1428, 1429, 1430, 1431, 1469, 1470, 1471, 1472, 1466, 1467, 1468] (by decide +kernel) (by decide +kernel)
set_option maxRecDepth 20000 in
theorem gL_law_X9_possible : GoodIn wsL_law (wsV RL 276 RX9 yX9_possible wsX9_possible) := goodIn_app (goodIn_of _ (by decide +kernel)) ggL_law_X9_possible
set_option maxRecDepth 20000 in
theorem ggL_law_X8_nextCode : GoodIn wsL_law wsX8_nextCode := goodIn_r _ [1253, 38, 1254, 1255, 1256, 37, 1257, 1258, 1259, 1260, 1261, 85, 1220, 1221, 1222, 1407, 1408, 1409, 1410, 1411, 1412, 1413, 1414, 1456, 1457, 1458] (by decide +kernel) (by decide +kernel)
set_option maxRecDepth 20000 in
theorem gL_law_X8_nextCode : GoodIn wsL_law (wsV RL 277 RX8 yX8_nextCode wsX8_nextCode) := goodIn_app (goodIn_of _ (by decide +kernel)) ggL_law_X8_nextCode
set_option maxRecDepth 20000 in
theorem ggL_law_X9_nextCode : GoodIn wsL_law wsX9_nextCode := goodIn_r _ [1265, 169, 1246, 1247, 1248, 5, 1249, 106, 230, 1201, 1202, 1203, 1204, 162, 163, 164, 231, 232, 233, 98, 234, 235, 236, 237, 238, 239, 240, 241, 242, 12, 13, 243, 244, 180, 245, 246, 247, 248, 249, 250, 251, 252, 253, 254, 255, 256, 257, 258, 259, 1230, 1231, 1232, 749, 304, 278, 305, 1415, 1416, 1417, 1418, 1419, 1420, 1421, 1422, 1423, 1424, 1425, 1426, 1427, 1428, 1429, 1430, 1431, 1469, 1470, 1471, 1472, 1466, 1467, 1468] (by decide +kernel) (by decide +kernel)
set_option maxRecDepth 20000 in
theorem gL_law_X9_nextCode : GoodIn wsL_law (wsV RL 280 RX9 yX9_nextCode wsX9_nextCode) := goodIn_app (goodIn_of _ (by decide +kernel)) ggL_law_X9_nextCode
set_option maxRecDepth 20000 in
theorem ggL_law_L_things : GoodIn wsL_law wsL_things := goodIn_ca (goodIn_r _ [1268, 130, 1269, 1270, 1271, 2, 1272, 135, 136, 42, 1273, 1274, 1275, 41, 1276, 91, 89, 142, 143, 1407, 1408, 1409, 1410, 1411, 1412, 1413, 1414, 1459, 1460, 1461] (by decide +kernel) (by decide +kernel)) (goodIn_sub (fun _ h => List.mem_append_left _ (List.mem_append_left _ (List.mem_append_left _ (List.mem_append_left _ (List.mem_append_right _ h))))) (by decide +kernel))
set_option maxRecDepth 20000 in
theorem gL_law_L_things : GoodIn wsL_law (va_wsS RL 281 yL_things wsL_things) := goodIn_app (goodIn_of _ (by decide +kernel)) ggL_law_L_things
set_option maxRecDepth 20000 in
theorem ggL_law_X9_things : GoodIn wsL_law wsX9_things := goodIn_r _ [1280, 513, 1281, 107, 110, 162, 163, 5, 164, 165, 166, 167, 168, 169, 1415, 1416, 1417, 1418, 1419, 1420, 1421, 1422, 1423, 1424, 1425, 1426, 1427, 1428, 1429, 1430, 1431] (by decide +kernel) (by decide +kernel)
set_option maxRecDepth 20000 in
theorem gL_law_X9_things : GoodIn wsL_law (wsV RL 283 RX9 yX9_things wsX9_things) := goodIn_app (goodIn_of _ (by decide +kernel)) ggL_law_X9_things
set_option maxRecDepth 20000 in
theorem ggL_law_L_ahead : GoodIn wsL_law wsL_ahead := goodIn_ca (goodIn_ca (goodIn_r _ [1284, 130, 188, 1285, 1286, 1287, 2, 1288, 135, 136, 194, 195, 42, 1289, 1290, 1291, 41, 1292, 91, 1293, 1294, 1295, 1296, 89, 210, 211, 1297, 1298, 1299, 1300, 142, 143, 1301, 1302, 1303, 1304, 90, 1305, 1306, 1307, 1308, 1309, 1407, 1408, 1409, 1410, 1411, 1412, 1413, 1414, 1459, 1460, 1461] (by decide +kernel) (by decide +kernel)) (goodIn_sub (fun _ h => List.mem_append_left _ (List.mem_append_left _ (List.mem_append_left _ (List.mem_append_left _ (List.mem_append_right _ h))))) (by decide +kernel))) (goodIn_sub (fun _ h => List.mem_append_left _ (List.mem_append_left _ (List.mem_append_left _ (List.mem_append_right _ h)))) (by decide +kernel))
set_option maxRecDepth 20000 in
theorem gL_law_L_ahead : GoodIn wsL_law (va_wsS RL 284 yL_ahead wsL_ahead) := goodIn_app (goodIn_of _ (by decide +kernel)) ggL_law_L_ahead
set_option maxRecDepth 20000 in
theorem ggL_law_X9_ahead : GoodIn wsL_law wsX9_ahead := goodIn_r _ [1313, 110, 1314, 1315, 1316, 5, 1317, 107, 162, 163, 164, 1318, 1319, 1320, 1321, 165, 166, 167, 168, 169, 1415, 1416, 1417, 1418, 1419, 1420, 1421, 1422, 1423, 1424, 1425, 1426, 1427, 1428, 1429, 1430, 1431] (by decide +kernel) (by decide +kernel)
set_option maxRecDepth 20000 in
theorem gL_law_X9_ahead : GoodIn wsL_law (wsV RL 286 RX9 yX9_ahead wsX9_ahead) := goodIn_app (goodIn_of _ (by decide +kernel)) ggL_law_X9_ahead
set_option maxRecDepth 20000 in
theorem ggL_law_X8_orders : GoodIn wsL_law wsX8_orders := goodIn_r _ [1325, 42, 1326, 1302, 1303, 41, 1304, 90, 91, 142, 2, 143, 1305, 1306, 1307, 1308, 89, 210, 211, 1407, 1408, 1409, 1410, 1411, 1412, 1413, 1414, 1459, 1460, 1461] (by decide +kernel) (by decide +kernel)
set_option maxRecDepth 20000 in
theorem gL_law_X8_orders : GoodIn wsL_law (wsV RL 287 RX8 yX8_orders wsX8_orders) := goodIn_app (goodIn_of _ (by decide +kernel)) ggL_law_X8_orders
set_option maxRecDepth 20000 in
theorem ggL_law_X9_orders_ : GoodIn wsL_law wsX9_orders_ := goodIn_r _ [1330, 169, 1318, 1319, 1320, 5, 1321, 107, 110, 1415, 1416, 1417, 1418, 1419, 1420, 1421, 1422, 1423, 1424, 1425, 1426, 1427, 1428, 1429, 1430, 1431] (by decide +kernel) (by decide +kernel)
set_option maxRecDepth 20000 in
theorem gL_law_X9_orders_ : GoodIn wsL_law (wsV RL 290 RX9 yX9_orders_ wsX9_orders_) := goodIn_app (goodIn_of _ (by decide +kernel)) ggL_law_X9_orders_
set_option maxRecDepth 20000 in
theorem ggL_law_L_pair : GoodIn wsL_law wsL_pair := goodIn_ca (goodIn_r _ [1333, 729, 1334, 1335, 1336, 2, 1337, 734, 735, 42, 1326, 1302, 1303, 41, 1304, 90, 91, 142, 143, 1305, 1306, 1307, 1308, 89, 210, 211, 1338, 1339, 1340, 1341, 1342, 304, 278, 305, 1301, 1343, 1294, 1295, 1296, 1297, 1298, 1299, 1300, 1407, 1408, 1409, 1410, 1411, 1412, 1413, 1414, 1459, 1460, 1461] (by decide +kernel) (by decide +kernel)) (goodIn_sub (fun _ h => List.mem_append_right _ h) (by decide +kernel))
set_option maxRecDepth 20000 in
theorem gL_law_L_pair : GoodIn wsL_law (va_wsS RL 291 yL_pair wsL_pair) := goodIn_app (goodIn_of _ (by decide +kernel)) ggL_law_L_pair
set_option maxRecDepth 20000 in
theorem ggL_law_X9_pair : GoodIn wsL_law wsX9_pair := goodIn_r _ [1347, 107, 749, 304, 278, 305, 664, 277, 279, 1318, 1319, 1320, 5, 1321, 110, 165, 166, 167, 168, 169, 1415, 1416, 1417, 1418, 1419, 1420, 1421, 1422, 1423, 1424, 1425, 1426, 1427, 1428, 1429, 1430, 1431] (by decide +kernel) (by decide +kernel)
set_option maxRecDepth 20000 in
theorem gL_law_X9_pair : GoodIn wsL_law (wsV RL 293 RX9 yX9_pair wsX9_pair) := goodIn_app (goodIn_of _ (by decide +kernel)) ggL_law_X9_pair
set_option maxRecDepth 20000 in
theorem ggL_law_X8_checksum : GoodIn wsL_law wsX8_checksum := goodIn_r _ [1351, 1352, 18, 1353, 17, 26, 38, 42, 467, 207, 208, 48, 209, 57, 210, 2, 211, 684, 558, 559, 16, 560, 51, 974, 960, 961, 25, 962, 68, 1237, 791, 792, 793, 794, 795, 796, 1326, 1302, 1303, 41, 1304, 90, 91, 142, 143, 1305, 1306, 1307, 1308, 89, 1407, 1408, 1409, 1410, 1411, 1412, 1413, 1414, 1462, 1463, 1464, 1465, 1443, 1444, 1445, 1446, 1456, 1457, 1458, 1432, 1433, 1434, 1435, 1436, 1437, 1438, 1439, 1459, 1460, 1461] (by decide +kernel) (by decide +kernel)
set_option maxRecDepth 20000 in
theorem gL_law_X8_checksum : GoodIn wsL_law (wsV RL 294 RX8 yX8_checksum wsX8_checksum) := goodIn_app (goodIn_of _ (by decide +kernel)) ggL_law_X8_checksum
set_option maxRecDepth 20000 in
theorem ggL_law_X9_checksum : GoodIn wsL_law wsX9_checksum := goodIn_r _ [1357, 169, 1358, 99, 230, 1359, 103, 231, 232, 233, 98, 234, 235, 236, 237, 238, 239, 240, 241, 242, 12, 13, 243, 244, 180, 245, 246, 247, 248, 249, 250, 251, 252, 253, 254, 255, 256, 257, 258, 259, 1242, 1243, 1244, 5, 1245, 1246, 1247, 1248, 1249, 106, 1201, 1202, 1203, 1204, 162, 163, 164, 1230, 1231, 1232, 749, 304, 278, 305, 1318, 1319, 1320, 1321, 107, 110, 1415, 1416, 1417, 1418, 1419, 1420, 1421, 1422, 1423, 1424, 1425, 1426, 1427, 1428, 1429, 1430, 1431, 1469, 1470, 1471, 1472, 1466, 1467, 1468] (by decide +kernel) (by decide +kernel)
set_option maxRecDepth 20000 in
theorem gL_law_X9_checksum : GoodIn wsL_law (wsV RL 298 RX9 yX9_checksum wsX9_checksum) := goodIn_app (goodIn_of _ (by decide +kernel)) ggL_law_X9_checksum
set_option maxRecDepth 20000 in
theorem ggL_law_L_aliveShare : GoodIn wsL_law wsL_aliveShare := goodIn_ca (goodIn_r _ [1362, 729, 1363, 1364, 1365, 2, 1366, 734, 735, 18, 17, 705, 550, 551, 16, 552, 49, 553, 554, 555, 556, 153, 557, 558, 559, 560, 51, 210, 211, 706, 328, 329, 330, 331, 332, 333, 1407, 1408, 1409, 1410, 1411, 1412, 1413, 1414, 1462, 1463, 1464, 1465, 1432, 1433, 1434, 1435, 1436, 1437, 1438, 1439] (by decide +kernel) (by decide +kernel)) (goodIn_sub (fun _ h => List.mem_append_right _ h) (by decide +kernel))
set_option maxRecDepth 20000 in
theorem gL_law_L_aliveShare : GoodIn wsL_law (va_wsS RL 299 yL_aliveShare wsL_aliveShare) := goodIn_app (goodIn_of _ (by decide +kernel)) ggL_law_L_aliveShare
set_option maxRecDepth 20000 in
theorem ggL_law_X9_aliveShare : GoodIn wsL_law wsX9_aliveShare := goodIn_r _ [1370, 99, 517, 518, 519, 98, 520, 174, 165, 166, 167, 5, 168, 169, 619, 620, 621, 622, 230, 231, 232, 233, 234, 235, 236, 237, 238, 239, 240, 241, 242, 12, 13, 243, 244, 180, 245, 246, 247, 248, 249, 250, 251, 252, 253, 254, 255, 256, 257, 258, 259, 612, 613, 614, 615, 515, 170, 171, 172, 173, 1415, 1416, 1417, 1418, 1419, 1420, 1421, 1422, 1423, 1424, 1425, 1426, 1427, 1428, 1429, 1430, 1431, 1466, 1467, 1468, 1469, 1470, 1471, 1472] (by decide +kernel) (by decide +kernel)
set_option maxRecDepth 20000 in
theorem gL_law_X9_aliveShare : GoodIn wsL_law (wsV RL 302 RX9 yX9_aliveShare wsX9_aliveShare) := goodIn_app (goodIn_of _ (by decide +kernel)) ggL_law_X9_aliveShare
set_option maxRecDepth 20000 in
theorem ggL_law_L_meanLesson : GoodIn wsL_law wsL_meanLesson := goodIn_ca (goodIn_r _ [1373, 729, 1374, 1375, 1376, 2, 1377, 734, 735, 18, 1378, 1379, 1380, 48, 1381, 141, 1382, 830, 831, 832, 59, 327, 328, 329, 330, 331, 332, 333, 833, 834, 835, 836, 206, 207, 208, 209, 57, 210, 211, 1407, 1408, 1409, 1410, 1411, 1412, 1413, 1414, 1462, 1463, 1464, 1465] (by decide +kernel) (by decide +kernel)) (goodIn_sub (fun _ h => List.mem_append_right _ h) (by decide +kernel))
set_option maxRecDepth 20000 in
theorem gL_law_L_meanLesson : GoodIn wsL_law (va_wsS RL 303 yL_meanLesson wsL_meanLesson) := goodIn_app (goodIn_of _ (by decide +kernel)) ggL_law_L_meanLesson
set_option maxRecDepth 20000 in
theorem ggL_law_X9_meanLesson : GoodIn wsL_law wsX9_meanLesson := goodIn_r _ [1386, 99, 170, 171, 172, 98, 173, 174, 841, 842, 843, 5, 844, 100, 230, 749, 304, 278, 305, 479, 480, 481, 482, 483, 484, 485, 486, 487, 488, 403, 489, 490, 491, 492, 493, 115, 432, 328, 329, 330, 331, 332, 333, 517, 518, 519, 520, 165, 166, 167, 168, 169, 1415, 1416, 1417, 1418, 1419, 1420, 1421, 1422, 1423, 1424, 1425, 1426, 1427, 1428, 1429, 1430, 1431, 1466, 1467, 1468] (by decide +kernel) (by decide +kernel)
set_option maxRecDepth 20000 in
theorem gL_law_X9_meanLesson : GoodIn wsL_law (wsV RL 305 RX9 yX9_meanLesson wsX9_meanLesson) := goodIn_app (goodIn_of _ (by decide +kernel)) ggL_law_X9_meanLesson
set_option maxRecDepth 20000 in
theorem ggL_law_X8_isSound : GoodIn wsL_law wsX8_isSound := goodIn_r _ [1390, 22, 18, 17, 38, 1391, 1392, 1393, 21, 1394, 1395, 897, 898, 899, 853, 854, 855, 856, 64, 857, 858, 859, 860, 861, 63, 862, 574, 575, 48, 576, 141, 142, 2, 143, 210, 211, 863, 566, 567, 568, 58, 864, 570, 571, 572, 573, 865, 866, 867, 868, 869, 328, 329, 330, 331, 332, 333, 870, 871, 872, 873, 874, 304, 278, 305, 875, 277, 279, 876, 877, 878, 879, 1396, 810, 811, 812, 59, 327, 813, 787, 788, 789, 206, 207, 208, 209, 57, 790, 791, 792, 793, 794, 795, 796, 1397, 850, 851, 852, 1398, 1399, 1400, 16, 1401, 52, 152, 553, 554, 555, 556, 153, 557, 558, 559, 560, 51, 1402, 1259, 1260, 37, 1261, 85, 1407, 1408, 1409, 1410, 1411, 1412, 1413, 1414, 1456, 1457, 1458, 1462, 1463, 1464, 1465, 1440, 1441, 1442, 1432, 1433, 1434, 1435, 1436, 1437, 1438, 1439] (by decide +kernel) (by decide +kernel)
set_option maxRecDepth 20000 in
theorem gL_law_X8_isSound : GoodIn wsL_law (wsV RL 306 RX8 yX8_isSound wsX8_isSound) := goodIn_app (goodIn_of _ (by decide +kernel)) ggL_law_X8_isSound
set_option maxRecDepth 20000 in
theorem ggL_law_X9_isSound : GoodIn wsL_law wsX9_isSound := goodIn_r _ [1406, 169, 1415, 1416, 1417, 1418, 1419, 1420, 1421, 1422, 1423, 1424, 1425, 1426, 1427, 1428, 1429, 1430, 1431] (by decide +kernel) (by decide +kernel)
set_option maxRecDepth 20000 in
theorem gL_law_X9_isSound : GoodIn wsL_law (wsV RL 309 RX9 yX9_isSound wsX9_isSound) := goodIn_app (goodIn_of _ (by decide +kernel)) ggL_law_X9_isSound
