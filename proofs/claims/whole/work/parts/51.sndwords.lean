theorem inU0 : u_ws RX0 TX0 10 = ([328, 330, 332, 334, 336, 338, 340, 342, 344, 346] : List Nat).filterMap (fun i => tables_1[i]?) := by decide +kernel
theorem inU1 : u_ws RX1 TX1 6 = ([216, 218, 220, 222, 224, 226] : List Nat).filterMap (fun i => tables_1[i]?) := by decide +kernel
theorem inU2 : u_ws RX2 TX2 2 = ([403, 405] : List Nat).filterMap (fun i => tables_1[i]?) := by decide +kernel
theorem inU3 : u_ws RX3 TX3 12 = ([369, 371, 373, 375, 377, 379, 381, 383, 385, 387, 389, 391] : List Nat).filterMap (fun i => tables_1[i]?) := by decide +kernel
theorem inU4 : u_ws RX4 TX4 6 = ([281, 283, 285, 287, 289, 291] : List Nat).filterMap (fun i => tables_1[i]?) := by decide +kernel
theorem inU5 : u_ws RX5 TX5 3 = ([303, 305, 307] : List Nat).filterMap (fun i => tables_1[i]?) := by decide +kernel
theorem inU6 : u_ws RX6 TX6 5 = ([259, 261, 263, 265, 267] : List Nat).filterMap (fun i => tables_1[i]?) := by decide +kernel
theorem inU7 : u_ws RX7 TX7 16 = ([78, 80, 82, 84, 86, 88, 90, 92, 94, 96, 98, 100, 102, 104, 106, 108] : List Nat).filterMap (fun i => tables_1[i]?) := by decide +kernel
theorem inU8 : u_ws RX8 TX8 8 = ([154, 156, 158, 160, 162, 164, 166, 168] : List Nat).filterMap (fun i => tables_1[i]?) := by decide +kernel
theorem inU9 : u_ws RX9 TX9 7 = ([125, 127, 129, 131, 133, 135, 137] : List Nat).filterMap (fun i => tables_1[i]?) := by decide +kernel
theorem inU10 : u_ws RX10 TX10 6 = ([183, 185, 187, 189, 191, 193] : List Nat).filterMap (fun i => tables_1[i]?) := by decide +kernel
theorem inU11 : u_ws RX11 TX11 15 = ([423, 425, 427, 429, 431, 433, 435, 437, 439, 441, 443, 445, 447, 449, 451] : List Nat).filterMap (fun i => tables_1[i]?) := by decide +kernel
theorem inU12 : u_ws RX12 TX12 89 = ([1290, 1292, 1294, 1296, 1298, 1300, 1302, 1304, 1306, 1308, 1310, 1312, 1314, 1316, 1318, 1320, 1322, 1324, 1326, 1328, 1330, 1332, 1334, 1336, 1338, 1340, 1342, 1344, 1346, 1348, 1350, 1352, 1354, 1356, 1358, 1360, 1362, 1364, 1366, 1368, 1370, 1372, 1374, 1376, 1378, 1380, 1382, 1384, 1386, 1388, 1390, 1392, 1394, 1396, 1398, 1400, 1402, 1404, 1406, 1408, 1410, 1412, 1414, 1416, 1418, 1420, 1422, 1424, 1426, 1428, 1430, 1432, 1434, 1436, 1438, 1440, 1442, 1444, 1446, 1448, 1450, 1452, 1454, 1456, 1458, 1460, 1462, 1464, 1466] : List Nat).filterMap (fun i => tables_1[i]?) := by decide +kernel
