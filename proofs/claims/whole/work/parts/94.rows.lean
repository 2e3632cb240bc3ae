theorem wg_X9_multiply : ∀ w ∈ wl_X9_multiply, w ∈ gW := wl_in [1005, 372, 919, 80, 920, 921, 1006, 79, 1008, 22, 1015, 652, 650, 639, 640, 641] (by decide +kernel) (by decide +kernel)
theorem ok_X9_multiply : rowOK MT wl_X9_multiply mr_X9_multiply = true := by decide +kernel
theorem wg_X9_product : ∀ w ∈ wl_X9_product, w ∈ gW := wl_in [998, 999, 79, 1000, 851, 1002, 1004, 21, 372, 151, 739, 80, 629, 630] (by decide +kernel) (by decide +kernel)
theorem ok_X9_product : rowOK MT wl_X9_product mr_X9_product = true := by decide +kernel
theorem wg_X9_rival : ∀ w ∈ wl_X9_rival, w ∈ gW := wl_in [1019, 999, 79, 1000, 1020, 1002, 1004, 21, 372, 151] (by decide +kernel) (by decide +kernel)
theorem ok_X9_rival : rowOK MT wl_X9_rival mr_X9_rival = true := by decide +kernel
theorem wg_X9_leastHerd : ∀ w ∈ wl_X9_leastHerd, w ∈ gW := wl_in [1027, 1014, 79, 729, 1025, 1026] (by decide +kernel) (by decide +kernel)
theorem ok_X9_leastHerd : rowOK MT wl_X9_leastHerd mr_X9_leastHerd = true := by decide +kernel
theorem wg_X9_all : ∀ w ∈ wl_X9_all, w ∈ gW := wl_in [1024, 1025, 79, 1026] (by decide +kernel) (by decide +kernel)
theorem ok_X9_all : rowOK MT wl_X9_all mr_X9_all = true := by decide +kernel
theorem wg_X9_make : ∀ w ∈ wl_X9_make, w ∈ gW := wl_in [1031, 1015, 79, 652, 113, 114, 81, 115] (by decide +kernel) (by decide +kernel)
theorem ok_X9_make : rowOK MT wl_X9_make mr_X9_make = true := by decide +kernel
theorem wg_X9_goThrough : ∀ w ∈ wl_X9_goThrough, w ∈ gW := wl_in [1044, 580, 704, 95, 705, 706, 372, 635, 79, 637, 7] (by decide +kernel) (by decide +kernel)
theorem ok_X9_goThrough : rowOK MT wl_X9_goThrough mr_X9_goThrough = true := by decide +kernel
theorem wg_X9_tried : ∀ w ∈ wl_X9_tried, w ∈ gW := wl_in [1035, 700, 79, 702, 11, 851, 372, 371, 1036, 80, 1037, 1038, 1041, 1043, 23, 739, 629, 630, 151, 154, 157, 163, 160] (by decide +kernel) (by decide +kernel)
theorem ok_X9_tried : rowOK MT wl_X9_tried mr_X9_tried = true := by decide +kernel
theorem wg_X9_needs : ∀ w ∈ wl_X9_needs, w ∈ gW := wl_in [1048, 700, 79, 702, 11, 595, 597, 5, 372, 371, 1036, 80, 1037, 1038, 1041, 1043, 23, 140] (by decide +kernel) (by decide +kernel)
theorem ok_X9_needs : rowOK MT wl_X9_needs mr_X9_needs = true := by decide +kernel
theorem wg_X9_herd : ∀ w ∈ wl_X9_herd, w ∈ gW := wl_in [1052, 700, 79, 702, 11, 372, 371, 127, 919, 80, 920, 921, 1041, 1043, 23, 140] (by decide +kernel) (by decide +kernel)
theorem ok_X9_herd : rowOK MT wl_X9_herd mr_X9_herd = true := by decide +kernel
theorem wg_X9_walksByOrder : ∀ w ∈ wl_X9_walksByOrder, w ∈ gW := wl_in [1060, 372, 371, 1036, 80, 1037, 1038, 639, 640, 641, 151] (by decide +kernel) (by decide +kernel)
theorem ok_X9_walksByOrder : rowOK MT wl_X9_walksByOrder mr_X9_walksByOrder = true := by decide +kernel
theorem wg_X9_cheaper : ∀ w ∈ wl_X9_cheaper, w ∈ gW := wl_in [1056, 616, 79, 617, 1057, 1059, 24] (by decide +kernel) (by decide +kernel)
theorem ok_X9_cheaper : rowOK MT wl_X9_cheaper mr_X9_cheaper = true := by decide +kernel
theorem wg_X9_kids : ∀ w ∈ wl_X9_kids, w ∈ gW := wl_in [1064, 371, 127, 1014, 79, 729, 138] (by decide +kernel) (by decide +kernel)
theorem ok_X9_kids : rowOK MT wl_X9_kids mr_X9_kids = true := by decide +kernel
theorem wg_X9_isPack : ∀ w ∈ wl_X9_isPack, w ∈ gW := wl_in [1071] (by decide +kernel) (by decide +kernel)
theorem ok_X9_isPack : rowOK MT wl_X9_isPack mr_X9_isPack = true := by decide +kernel
theorem wg_X9_restByRank : ∀ w ∈ wl_X9_restByRank, w ∈ gW := wl_in [1075, 382, 371, 388, 1076, 88, 1077, 1078, 386, 387, 1083, 1084, 1085] (by decide +kernel) (by decide +kernel)
theorem ok_X9_restByRank : rowOK MT wl_X9_restByRank mr_X9_restByRank = true := by decide +kernel
theorem wg_X9_relay : ∀ w ∈ wl_X9_relay, w ∈ gW := wl_in [1068, 616, 79, 617, 1069, 1070, 1072, 1074, 25] (by decide +kernel) (by decide +kernel)
theorem ok_X9_relay : rowOK MT wl_X9_relay mr_X9_relay = true := by decide +kernel
theorem wg_X9_ranked : ∀ w ∈ wl_X9_ranked, w ∈ gW := wl_in [1122, 616, 79, 617, 1069, 1070, 1072, 1074, 25] (by decide +kernel) (by decide +kernel)
theorem ok_X9_ranked : rowOK MT wl_X9_ranked mr_X9_ranked = true := by decide +kernel
theorem wg_X9_image : ∀ w ∈ wl_X9_image, w ∈ gW := wl_in [1126, 373, 111, 112, 80, 371, 127, 119, 120, 1127, 1128, 1129, 384, 374] (by decide +kernel) (by decide +kernel)
theorem ok_X9_image : rowOK MT wl_X9_image mr_X9_image = true := by decide +kernel
theorem wg_X9_back : ∀ w ∈ wl_X9_back, w ∈ gW := wl_in [1135, 373, 371, 1127, 80, 1128, 1129, 374, 384, 375, 1136, 83, 1137, 1138] (by decide +kernel) (by decide +kernel)
theorem ok_X9_back : rowOK MT wl_X9_back mr_X9_back = true := by decide +kernel
theorem wg_X9_count : ∀ w ∈ wl_X9_count, w ∈ gW := wl_in [1143, 371, 127, 378, 376, 221, 380, 265, 375, 204] (by decide +kernel) (by decide +kernel)
theorem ok_X9_count : rowOK MT wl_X9_count mr_X9_count = true := by decide +kernel
theorem wg_X10_in : ∀ w ∈ wl_X10_in, w ∈ gW := wl_in [1461] (by decide +kernel) (by decide +kernel)
theorem ok_X10_in : rowOK MT wl_X10_in mr_X10_in = true := by decide +kernel
theorem wg_X10_has : ∀ w ∈ wl_X10_has, w ∈ gW := wl_in [1554] (by decide +kernel) (by decide +kernel)
theorem ok_X10_has : rowOK MT wl_X10_has mr_X10_has = true := by decide +kernel
theorem wg_X10_init : ∀ w ∈ wl_X10_init, w ∈ gW := wl_in [1225, 1226, 109, 110, 194, 1231, 1235, 1236, 1237, 1238, 1241, 1242, 1243, 1244, 1245, 1246, 1252, 1253, 1254, 212, 1255, 1258, 1259, 1260, 1261, 1263, 1267, 1268, 1269, 1270, 370, 1271, 1272, 1273, 1274, 1275, 1276, 1277, 1278, 1279, 1280, 1281, 1227, 114, 81, 115, 1228, 117, 118, 1230] (by decide +kernel) (by decide +kernel)
theorem ok_X10_init : rowOK MT wl_X10_init mr_X10_init = true := by decide +kernel
theorem wg_X10_thrown : ∀ w ∈ wl_X10_thrown, w ∈ gW := wl_in [1404, 1229] (by decide +kernel) (by decide +kernel)
theorem ok_X10_thrown : rowOK MT wl_X10_thrown mr_X10_thrown = true := by decide +kernel
theorem wg_X10_byteOf : ∀ w ∈ wl_X10_byteOf, w ∈ gW := wl_in [1411] (by decide +kernel) (by decide +kernel)
theorem ok_X10_byteOf : rowOK MT wl_X10_byteOf mr_X10_byteOf = true := by decide +kernel
theorem wg_X10_feed : ∀ w ∈ wl_X10_feed, w ∈ gW := wl_in [1408, 1409, 89, 1410, 1232, 1231] (by decide +kernel) (by decide +kernel)
theorem ok_X10_feed : rowOK MT wl_X10_feed mr_X10_feed = true := by decide +kernel
theorem wg_X10_end : ∀ w ∈ wl_X10_end, w ∈ gW := wl_in [1415, 1232] (by decide +kernel) (by decide +kernel)
theorem ok_X10_end : rowOK MT wl_X10_end mr_X10_end = true := by decide +kernel
theorem wg_X10_here : ∀ w ∈ wl_X10_here, w ∈ gW := wl_in [1435, 1233, 1232, 1231] (by decide +kernel) (by decide +kernel)
theorem ok_X10_here : rowOK MT wl_X10_here mr_X10_here = true := by decide +kernel
theorem wg_X10_look : ∀ w ∈ wl_X10_look, w ∈ gW := wl_in [1431, 1432, 89, 1434, 37, 1233] (by decide +kernel) (by decide +kernel)
theorem ok_X10_look : rowOK MT wl_X10_look mr_X10_look = true := by decide +kernel
theorem wg_X10_bad : ∀ w ∈ wl_X10_bad, w ∈ gW := wl_in [1439, 1234, 1233] (by decide +kernel) (by decide +kernel)
theorem ok_X10_bad : rowOK MT wl_X10_bad mr_X10_bad = true := by decide +kernel
theorem wg_X10_isDigit : ∀ w ∈ wl_X10_isDigit, w ∈ gW := wl_in [1446] (by decide +kernel) (by decide +kernel)
theorem ok_X10_isDigit : rowOK MT wl_X10_isDigit mr_X10_isDigit = true := by decide +kernel
theorem wg_X10_numeral : ∀ w ∈ wl_X10_numeral, w ∈ gW := wl_in [1443, 1428, 89, 1430, 36, 1444, 1445, 1436, 1438, 38, 1432, 1434, 37, 1233] (by decide +kernel) (by decide +kernel)
theorem ok_X10_numeral : rowOK MT wl_X10_numeral mr_X10_numeral = true := by decide +kernel
theorem wg_X10_stepOf : ∀ w ∈ wl_X10_stepOf, w ∈ gW := wl_in [1427, 1428, 89, 1430, 36, 1436, 1438, 38, 1233, 1238, 1235, 1236, 1440, 1442, 39, 1237, 1234, 1444, 1445] (by decide +kernel) (by decide +kernel)
theorem ok_X10_stepOf : rowOK MT wl_X10_stepOf mr_X10_stepOf = true := by decide +kernel
theorem wg_X10_read : ∀ w ∈ wl_X10_read, w ∈ gW := wl_in [1423, 1233, 1234, 1238, 1424, 89, 1426, 35, 1428, 1430, 36, 1436, 1438, 38] (by decide +kernel) (by decide +kernel)
theorem ok_X10_read : rowOK MT wl_X10_read mr_X10_read = true := by decide +kernel
theorem wg_X10_fault : ∀ w ∈ wl_X10_fault, w ∈ gW := wl_in [1419, 1420, 89, 1422, 34] (by decide +kernel) (by decide +kernel)
theorem ok_X10_fault : rowOK MT wl_X10_fault mr_X10_fault = true := by decide +kernel
theorem wg_X10_text : ∀ w ∈ wl_X10_text, w ∈ gW := wl_in [1450, 1239, 1420, 89, 1422, 34, 1232] (by decide +kernel) (by decide +kernel)
theorem ok_X10_text : rowOK MT wl_X10_text mr_X10_text = true := by decide +kernel
theorem wg_X10_isSum : ∀ w ∈ wl_X10_isSum, w ∈ gW := wl_in [1458, 1239, 1459, 89, 1460] (by decide +kernel) (by decide +kernel)
theorem ok_X10_isSum : rowOK MT wl_X10_isSum mr_X10_isSum = true := by decide +kernel
theorem wg_X10_step : ∀ w ∈ wl_X10_step, w ∈ gW := wl_in [1454, 1455, 89, 1457, 40, 1238, 1459, 1460, 1462, 1229, 1235, 1236, 1237] (by decide +kernel) (by decide +kernel)
theorem ok_X10_step : rowOK MT wl_X10_step mr_X10_step = true := by decide +kernel
theorem wg_X10_set : ∀ w ∈ wl_X10_set, w ∈ gW := wl_in [1466, 1467, 1459, 89, 1460, 1468, 1240, 1241, 1242, 1243] (by decide +kernel) (by decide +kernel)
theorem ok_X10_set : rowOK MT wl_X10_set mr_X10_set = true := by decide +kernel
theorem wg_X10_isRope : ∀ w ∈ wl_X10_isRope, w ∈ gW := wl_in [1476, 1230, 1459, 89, 1460] (by decide +kernel) (by decide +kernel)
theorem ok_X10_isRope : rowOK MT wl_X10_isRope mr_X10_isRope = true := by decide +kernel
theorem wg_X10_goats : ∀ w ∈ wl_X10_goats, w ∈ gW := wl_in [1472, 1473, 89, 1475, 41, 1477, 1459, 1460, 1246, 1244] (by decide +kernel) (by decide +kernel)
theorem ok_X10_goats : rowOK MT wl_X10_goats mr_X10_goats = true := by decide +kernel
theorem wg_X10_echo : ∀ w ∈ wl_X10_echo, w ∈ gW := wl_in [1481, 1468, 1459, 89, 1460, 1482, 1245] (by decide +kernel) (by decide +kernel)
theorem ok_X10_echo : rowOK MT wl_X10_echo mr_X10_echo = true := by decide +kernel
theorem wg_X10_wind : ∀ w ∈ wl_X10_wind, w ∈ gW := wl_in [1486, 1247] (by decide +kernel) (by decide +kernel)
theorem ok_X10_wind : rowOK MT wl_X10_wind mr_X10_wind = true := by decide +kernel
theorem wg_X10_draw : ∀ w ∈ wl_X10_draw, w ∈ gW := wl_in [1515, 1247, 1516, 1517, 1482] (by decide +kernel) (by decide +kernel)
theorem ok_X10_draw : rowOK MT wl_X10_draw mr_X10_draw = true := by decide +kernel
theorem wg_X10_heard : ∀ w ∈ wl_X10_heard, w ∈ gW := wl_in [1511, 1250, 1512, 89, 1514, 46, 1245] (by decide +kernel) (by decide +kernel)
theorem ok_X10_heard : rowOK MT wl_X10_heard mr_X10_heard = true := by decide +kernel
theorem wg_X10_become : ∀ w ∈ wl_X10_become, w ∈ gW := wl_in [1525, 1252, 1228, 117, 81, 118, 1251, 1244, 1227, 114, 115, 1246, 1526, 678, 679, 1241] (by decide +kernel) (by decide +kernel)
theorem ok_X10_become : rowOK MT wl_X10_become mr_X10_become = true := by decide +kernel
theorem wg_X10_drive : ∀ w ∈ wl_X10_drive, w ∈ gW := wl_in [1521, 1230, 1246, 1522, 89, 1524, 48, 1242] (by decide +kernel) (by decide +kernel)
theorem ok_X10_drive : rowOK MT wl_X10_drive mr_X10_drive = true := by decide +kernel
theorem wg_X10_digitOf : ∀ w ∈ wl_X10_digitOf, w ∈ gW := wl_in [1506, 1507] (by decide +kernel) (by decide +kernel)
theorem ok_X10_digitOf : rowOK MT wl_X10_digitOf mr_X10_digitOf = true := by decide +kernel
theorem wg_X10_highest : ∀ w ∈ wl_X10_highest, w ∈ gW := wl_in [1503, 1230, 1504, 89, 1505] (by decide +kernel) (by decide +kernel)
theorem ok_X10_highest : rowOK MT wl_X10_highest mr_X10_highest = true := by decide +kernel
theorem wg_X10_keep : ∀ w ∈ wl_X10_keep, w ∈ gW := wl_in [1499, 1254, 1257, 1246, 1255, 1247, 1256, 1227, 114, 81, 115] (by decide +kernel) (by decide +kernel)
theorem ok_X10_keep : rowOK MT wl_X10_keep mr_X10_keep = true := by decide +kernel
theorem wg_X10_addOf : ∀ w ∈ wl_X10_addOf, w ∈ gW := wl_in [1495, 1250, 1496, 89, 1498, 43, 1500, 1502, 44, 1230, 1504, 1505, 1246, 1240, 1508, 1510, 45, 1518, 1520, 47] (by decide +kernel) (by decide +kernel)
theorem ok_X10_addOf : rowOK MT wl_X10_addOf mr_X10_addOf = true := by decide +kernel
theorem wg_X10_actOf : ∀ w ∈ wl_X10_actOf, w ∈ gW := wl_in [1535, 1250, 1496, 89, 1498, 43, 1230, 1253, 1246, 1518, 1520, 47, 1522, 1524, 48] (by decide +kernel) (by decide +kernel)
theorem ok_X10_actOf : rowOK MT wl_X10_actOf mr_X10_actOf = true := by decide +kernel
theorem wg_X10_add : ∀ w ∈ wl_X10_add, w ∈ gW := wl_in [1490, 1491, 1459, 89, 1460, 1492, 1494, 42, 1246] (by decide +kernel) (by decide +kernel)
theorem ok_X10_add : rowOK MT wl_X10_add mr_X10_add = true := by decide +kernel
theorem wg_X10_act : ∀ w ∈ wl_X10_act, w ∈ gW := wl_in [1530, 1462, 1531, 1459, 89, 1460, 1532, 1534, 49, 1246] (by decide +kernel) (by decide +kernel)
theorem ok_X10_act : rowOK MT wl_X10_act mr_X10_act = true := by decide +kernel
theorem wg_X10_runOf : ∀ w ∈ wl_X10_runOf, w ∈ gW := wl_in [1543, 1238, 1237, 1235, 1236, 1492, 89, 1494, 42, 1532, 1534, 49] (by decide +kernel) (by decide +kernel)
theorem ok_X10_runOf : rowOK MT wl_X10_runOf mr_X10_runOf = true := by decide +kernel
theorem wg_X10_run : ∀ w ∈ wl_X10_run, w ∈ gW := wl_in [1539, 1455, 89, 1457, 40, 1540, 1542, 50, 1246] (by decide +kernel) (by decide +kernel)
theorem ok_X10_run : rowOK MT wl_X10_run mr_X10_run = true := by decide +kernel
theorem wg_X10_undo : ∀ w ∈ wl_X10_undo, w ∈ gW := wl_in [1547, 1256, 1257, 1246, 1254, 1255, 1247] (by decide +kernel) (by decide +kernel)
theorem ok_X10_undo : rowOK MT wl_X10_undo mr_X10_undo = true := by decide +kernel
theorem wg_X10_seen : ∀ w ∈ wl_X10_seen, w ∈ gW := wl_in [1558, 1246, 1248, 1552, 89, 1553] (by decide +kernel) (by decide +kernel)
theorem ok_X10_seen : rowOK MT wl_X10_seen mr_X10_seen = true := by decide +kernel
theorem wg_X10_rope : ∀ w ∈ wl_X10_rope, w ∈ gW := wl_in [1551, 1473, 89, 1475, 41, 1462, 1459, 1460, 1246, 1244, 1249, 1552, 1553, 1555, 1557, 51] (by decide +kernel) (by decide +kernel)
theorem ok_X10_rope : rowOK MT wl_X10_rope mr_X10_rope = true := by decide +kernel
theorem wg_X10_number : ∀ w ∈ wl_X10_number, w ∈ gW := wl_in [1562, 1230, 1507, 1246] (by decide +kernel) (by decide +kernel)
theorem ok_X10_number : rowOK MT wl_X10_number mr_X10_number = true := by decide +kernel
theorem wg_X10_told : ∀ w ∈ wl_X10_told, w ∈ gW := wl_in [1566, 1567, 1459, 89, 1460, 1246] (by decide +kernel) (by decide +kernel)
theorem ok_X10_told : rowOK MT wl_X10_told mr_X10_told = true := by decide +kernel
theorem wg_X10_workAll : ∀ w ∈ wl_X10_workAll, w ∈ gW := wl_in [1575, 1500, 89, 1502, 44, 1230, 1243, 1246, 1504, 1505, 1244, 1227, 114, 81, 115, 1228, 117, 118, 1241, 1526, 678, 679, 1242, 1258] (by decide +kernel) (by decide +kernel)
theorem ok_X10_workAll : rowOK MT wl_X10_workAll mr_X10_workAll = true := by decide +kernel
theorem wg_X10_done : ∀ w ∈ wl_X10_done, w ∈ gW := wl_in [1571, 1491, 1459, 89, 1460, 1473, 1475, 41, 1572, 1574, 52, 1230, 1258, 1228, 117, 81, 118] (by decide +kernel) (by decide +kernel)
theorem ok_X10_done : rowOK MT wl_X10_done mr_X10_done = true := by decide +kernel
theorem wg_X10_two : ∀ w ∈ wl_X10_two, w ∈ gW := wl_in [1579, 1473, 89, 1475, 41, 1248] (by decide +kernel) (by decide +kernel)
theorem ok_X10_two : rowOK MT wl_X10_two mr_X10_two = true := by decide +kernel
