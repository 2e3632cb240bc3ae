theorem wg_X10_fog : ∀ w ∈ wl_X10_fog, w ∈ gW := wl_in [1583, 1473, 89, 1475, 41, 1249, 1584, 101, 790] (by decide +kernel) (by decide +kernel)
theorem ok_X10_fog : rowOK MT wl_X10_fog mr_X10_fog = true := by decide +kernel
theorem wg_X10_ten : ∀ w ∈ wl_X10_ten, w ∈ gW := wl_in [1596, 1507] (by decide +kernel) (by decide +kernel)
theorem ok_X10_ten : rowOK MT wl_X10_ten mr_X10_ten = true := by decide +kernel
theorem wg_X10_seenNumber : ∀ w ∈ wl_X10_seenNumber, w ∈ gW := wl_in [1593, 1230, 1249, 1552, 89, 1553, 1555, 1557, 51, 1594, 1595] (by decide +kernel) (by decide +kernel)
theorem ok_X10_seenNumber : rowOK MT wl_X10_seenNumber mr_X10_seenNumber = true := by decide +kernel
theorem wg_X10_bell : ∀ w ∈ wl_X10_bell, w ∈ gW := wl_in [1588, 1462, 1589, 1459, 89, 1460, 1249, 1590, 1592, 53] (by decide +kernel) (by decide +kernel)
theorem ok_X10_bell : rowOK MT wl_X10_bell mr_X10_bell = true := by decide +kernel
theorem wg_X10_itself : ∀ w ∈ wl_X10_itself, w ∈ gW := wl_in [1612, 1245] (by decide +kernel) (by decide +kernel)
theorem ok_X10_itself : rowOK MT wl_X10_itself mr_X10_itself = true := by decide +kernel
theorem wg_X10_many : ∀ w ∈ wl_X10_many, w ∈ gW := wl_in [1604, 1507] (by decide +kernel) (by decide +kernel)
theorem ok_X10_many : rowOK MT wl_X10_many mr_X10_many = true := by decide +kernel
theorem wg_X10_rightly : ∀ w ∈ wl_X10_rightly, w ∈ gW := wl_in [1616, 1601, 89, 1603, 54, 1504, 1505, 1609, 1611, 56] (by decide +kernel) (by decide +kernel)
theorem ok_X10_rightly : rowOK MT wl_X10_rightly mr_X10_rightly = true := by decide +kernel
theorem wg_X10_alike : ∀ w ∈ wl_X10_alike, w ∈ gW := wl_in [1608, 1259, 1601, 89, 1603, 54, 1504, 1505, 1594, 1595, 1260, 1609, 1611, 56, 1245] (by decide +kernel) (by decide +kernel)
theorem ok_X10_alike : rowOK MT wl_X10_alike mr_X10_alike = true := by decide +kernel
theorem wg_X10_miss : ∀ w ∈ wl_X10_miss, w ∈ gW := wl_in [1600, 1491, 1459, 89, 1460, 1462, 1589, 1601, 1603, 54, 1594, 1595, 1605, 1607, 55, 1613, 1615, 57, 1617] (by decide +kernel) (by decide +kernel)
theorem ok_X10_miss : rowOK MT wl_X10_miss mr_X10_miss = true := by decide +kernel
theorem wg_X10_isRest : ∀ w ∈ wl_X10_isRest, w ∈ gW := wl_in [1624, 1589, 1459, 89, 1460] (by decide +kernel) (by decide +kernel)
theorem ok_X10_isRest : rowOK MT wl_X10_isRest mr_X10_isRest = true := by decide +kernel
theorem wg_X10_span : ∀ w ∈ wl_X10_span, w ∈ gW := wl_in [1621, 1622, 89, 1623, 1462, 1459, 1460, 1625, 1590, 1592, 53, 1249, 1584, 101, 790, 1594, 1595, 1230, 1552, 1553, 1626, 1627, 81, 1628, 1629, 1630, 1631] (by decide +kernel) (by decide +kernel)
theorem ok_X10_span : rowOK MT wl_X10_span mr_X10_span = true := by decide +kernel
theorem wg_X10_astray : ∀ w ∈ wl_X10_astray, w ∈ gW := wl_in [1635, 1622, 89, 1623, 1249, 1590, 1592, 53, 1230, 1555, 1557, 51, 1594, 1595] (by decide +kernel) (by decide +kernel)
theorem ok_X10_astray : rowOK MT wl_X10_astray mr_X10_astray = true := by decide +kernel
theorem wg_X10_harvest : ∀ w ∈ wl_X10_harvest, w ∈ gW := wl_in [1639, 1491, 1459, 89, 1460, 1262, 1261] (by decide +kernel) (by decide +kernel)
theorem ok_X10_harvest : rowOK MT wl_X10_harvest mr_X10_harvest = true := by decide +kernel
theorem wg_X10_walksOf : ∀ w ∈ wl_X10_walksOf, w ∈ gW := wl_in [1650, 1594, 89, 1595, 1504, 1505, 1526, 678, 81, 679] (by decide +kernel) (by decide +kernel)
theorem ok_X10_walksOf : rowOK MT wl_X10_walksOf mr_X10_walksOf = true := by decide +kernel
theorem wg_X10_sumOf : ∀ w ∈ wl_X10_sumOf, w ∈ gW := wl_in [1647, 1262, 1552, 89, 1553, 1261] (by decide +kernel) (by decide +kernel)
theorem ok_X10_sumOf : rowOK MT wl_X10_sumOf mr_X10_sumOf = true := by decide +kernel
theorem wg_X10_lookOnward : ∀ w ∈ wl_X10_lookOnward, w ∈ gW := wl_in [1654, 1262, 1263, 1552, 89, 1553, 1644, 1646, 58, 1261, 1230, 1648, 1649, 1227, 114, 81, 115] (by decide +kernel) (by decide +kernel)
theorem ok_X10_lookOnward : rowOK MT wl_X10_lookOnward mr_X10_lookOnward = true := by decide +kernel
theorem wg_X10_comes : ∀ w ∈ wl_X10_comes, w ∈ gW := wl_in [1658, 1552, 89, 1553, 1644, 1646, 58, 1261, 1230, 1648, 1649, 1263] (by decide +kernel) (by decide +kernel)
theorem ok_X10_comes : rowOK MT wl_X10_comes mr_X10_comes = true := by decide +kernel
theorem wg_X10_fewest : ∀ w ∈ wl_X10_fewest, w ∈ gW := wl_in [1643, 1262, 1625, 1459, 89, 1460, 1644, 1646, 58, 1261, 1230, 1648, 1649, 1651, 1653, 59, 1263, 1655, 1657, 60] (by decide +kernel) (by decide +kernel)
theorem ok_X10_fewest : rowOK MT wl_X10_fewest mr_X10_fewest = true := by decide +kernel
theorem wg_X10_added : ∀ w ∈ wl_X10_added, w ∈ gW := wl_in [1662, 1249, 1590, 89, 1592, 53, 1262, 1644, 1646, 58] (by decide +kernel) (by decide +kernel)
theorem ok_X10_added : rowOK MT wl_X10_added mr_X10_added = true := by decide +kernel
theorem wg_X10_near : ∀ w ∈ wl_X10_near, w ∈ gW := wl_in [1666, 1249, 1590, 89, 1592, 53, 1262, 1230, 1555, 1557, 51, 1468, 1459, 1460, 1644, 1646, 58, 1594, 1595] (by decide +kernel) (by decide +kernel)
theorem ok_X10_near : rowOK MT wl_X10_near mr_X10_near = true := by decide +kernel
theorem wg_X10_addTo : ∀ w ∈ wl_X10_addTo, w ∈ gW := wl_in [1683, 1265, 1264, 1648, 89, 1649, 1266] (by decide +kernel) (by decide +kernel)
theorem ok_X10_addTo : rowOK MT wl_X10_addTo mr_X10_addTo = true := by decide +kernel
theorem wg_X10_twice : ∀ w ∈ wl_X10_twice, w ∈ gW := wl_in [1679, 1264, 1265, 1504, 89, 1505, 1594, 1595, 1648, 1649, 1266] (by decide +kernel) (by decide +kernel)
theorem ok_X10_twice : rowOK MT wl_X10_twice mr_X10_twice = true := by decide +kernel
theorem wg_X10_multiply : ∀ w ∈ wl_X10_multiply, w ∈ gW := wl_in [1675, 1264, 1265, 1266, 1676, 89, 1678, 62, 1680, 1682, 63, 1504, 1505, 1594, 1595] (by decide +kernel) (by decide +kernel)
theorem ok_X10_multiply : rowOK MT wl_X10_multiply mr_X10_multiply = true := by decide +kernel
theorem wg_X10_product : ∀ w ∈ wl_X10_product, w ∈ gW := wl_in [1670, 1671, 1459, 89, 1460, 1462, 1625, 1672, 1674, 61, 1265, 1266, 1264] (by decide +kernel) (by decide +kernel)
theorem ok_X10_product : rowOK MT wl_X10_product mr_X10_product = true := by decide +kernel
theorem wg_X10_rival : ∀ w ∈ wl_X10_rival, w ∈ gW := wl_in [1687, 1671, 1459, 89, 1460, 1672, 1674, 61, 1265] (by decide +kernel) (by decide +kernel)
theorem ok_X10_rival : rowOK MT wl_X10_rival mr_X10_rival = true := by decide +kernel
theorem wg_X10_makes : ∀ w ∈ wl_X10_makes, w ∈ gW := wl_in [1700, 1267] (by decide +kernel) (by decide +kernel)
theorem ok_X10_makes : rowOK MT wl_X10_makes mr_X10_makes = true := by decide +kernel
theorem wg_X10_tailFrom : ∀ w ∈ wl_X10_tailFrom, w ∈ gW := wl_in [1708, 1267] (by decide +kernel) (by decide +kernel)
theorem ok_X10_tailFrom : rowOK MT wl_X10_tailFrom mr_X10_tailFrom = true := by decide +kernel
theorem wg_X10_nextRow : ∀ w ∈ wl_X10_nextRow, w ∈ gW := wl_in [1704, 1705, 89, 1707, 67, 1267] (by decide +kernel) (by decide +kernel)
theorem ok_X10_nextRow : rowOK MT wl_X10_nextRow mr_X10_nextRow = true := by decide +kernel
theorem wg_X10_isOf : ∀ w ∈ wl_X10_isOf, w ∈ gW := wl_in [1696, 1267, 1552, 89, 1553] (by decide +kernel) (by decide +kernel)
theorem ok_X10_isOf : rowOK MT wl_X10_isOf mr_X10_isOf = true := by decide +kernel
theorem wg_X10_all : ∀ w ∈ wl_X10_all, w ∈ gW := wl_in [1691, 1692, 1459, 89, 1460, 1468, 1267, 1693, 1695, 64, 1697, 1699, 65, 1701, 1703, 66] (by decide +kernel) (by decide +kernel)
theorem ok_X10_all : rowOK MT wl_X10_all mr_X10_all = true := by decide +kernel
theorem wg_X10_begin : ∀ w ∈ wl_X10_begin, w ∈ gW := wl_in [1717, 1250, 1251, 1268, 1246, 1252] (by decide +kernel) (by decide +kernel)
theorem ok_X10_begin : rowOK MT wl_X10_begin mr_X10_begin = true := by decide +kernel
theorem wg_X10_over : ∀ w ∈ wl_X10_over, w ∈ gW := wl_in [1722, 1246, 1268, 1250, 1251] (by decide +kernel) (by decide +kernel)
theorem ok_X10_over : rowOK MT wl_X10_over mr_X10_over = true := by decide +kernel
theorem wg_X10_tried : ∀ w ∈ wl_X10_tried, w ∈ gW := wl_in [1712, 1455, 89, 1457, 40, 1713, 1459, 1460, 1625, 1714, 1716, 68, 1540, 1542, 50, 1718, 1560, 1561, 1246, 1268, 1719, 1721, 69] (by decide +kernel) (by decide +kernel)
theorem ok_X10_tried : rowOK MT wl_X10_tried mr_X10_tried = true := by decide +kernel
theorem wg_X10_needs : ∀ w ∈ wl_X10_needs, w ∈ gW := wl_in [1726, 1455, 89, 1457, 40, 1473, 1475, 41, 1714, 1716, 68, 1540, 1542, 50, 1719, 1721, 69, 1252] (by decide +kernel) (by decide +kernel)
theorem ok_X10_needs : rowOK MT wl_X10_needs mr_X10_needs = true := by decide +kernel
theorem wg_X10_herd : ∀ w ∈ wl_X10_herd, w ∈ gW := wl_in [1730, 1455, 89, 1457, 40, 1714, 1716, 68, 1540, 1542, 50, 1719, 1721, 69, 1230, 1252] (by decide +kernel) (by decide +kernel)
theorem ok_X10_herd : rowOK MT wl_X10_herd mr_X10_herd = true := by decide +kernel
theorem wg_X10_cheaper : ∀ w ∈ wl_X10_cheaper, w ∈ gW := wl_in [1734, 1491, 1459, 89, 1460, 1240, 1714, 1716, 68, 1492, 1494, 42, 1246, 1268, 1719, 1721, 69] (by decide +kernel) (by decide +kernel)
theorem ok_X10_cheaper : rowOK MT wl_X10_cheaper mr_X10_cheaper = true := by decide +kernel
theorem wg_X10_standingAt : ∀ w ∈ wl_X10_standingAt, w ∈ gW := wl_in [1742, 1500, 89, 1502, 44, 1243, 1246, 1504, 1505, 1244, 1227, 114, 81, 115, 1228, 117, 118, 1526, 678, 679, 1241, 1242] (by decide +kernel) (by decide +kernel)
theorem ok_X10_standingAt : rowOK MT wl_X10_standingAt mr_X10_standingAt = true := by decide +kernel
theorem wg_X10_standing : ∀ w ∈ wl_X10_standing, w ∈ gW := wl_in [1738, 1491, 1459, 89, 1460, 1473, 1475, 41, 1671, 1739, 1741, 70] (by decide +kernel) (by decide +kernel)
theorem ok_X10_standing : rowOK MT wl_X10_standing mr_X10_standing = true := by decide +kernel
theorem wg_X10_heardAs : ∀ w ∈ wl_X10_heardAs, w ∈ gW := wl_in [1750, 1601, 89, 1603, 54, 1504, 1505, 1609, 1611, 56, 1245] (by decide +kernel) (by decide +kernel)
theorem ok_X10_heardAs : rowOK MT wl_X10_heardAs mr_X10_heardAs = true := by decide +kernel
theorem wg_X10_as : ∀ w ∈ wl_X10_as, w ∈ gW := wl_in [1746, 1491, 1459, 89, 1460, 1601, 1603, 54, 1594, 1595, 1747, 1749, 71, 1617] (by decide +kernel) (by decide +kernel)
theorem ok_X10_as : rowOK MT wl_X10_as mr_X10_as = true := by decide +kernel
theorem wg_X10_guess : ∀ w ∈ wl_X10_guess, w ∈ gW := wl_in [1754, 1491, 1459, 89, 1460, 1262, 1261, 1747, 1749, 71, 1601, 1603, 54, 1594, 1595] (by decide +kernel) (by decide +kernel)
theorem ok_X10_guess : rowOK MT wl_X10_guess mr_X10_guess = true := by decide +kernel
theorem wg_X10_safest : ∀ w ∈ wl_X10_safest, w ∈ gW := wl_in [1758, 1491, 1459, 89, 1460, 1462, 1589, 1759, 1598, 1599] (by decide +kernel) (by decide +kernel)
theorem ok_X10_safest : rowOK MT wl_X10_safest mr_X10_safest = true := by decide +kernel
theorem wg_X10_confused : ∀ w ∈ wl_X10_confused, w ∈ gW := wl_in [1763, 1262, 1261, 1747, 89, 1749, 71] (by decide +kernel) (by decide +kernel)
theorem ok_X10_confused : rowOK MT wl_X10_confused mr_X10_confused = true := by decide +kernel
theorem wg_J9_multiplyHigh_f86c9 : ∀ w ∈ wl_J9_multiplyHigh_f86c9, w ∈ gW := wl_in [1774, 1775] (by decide +kernel) (by decide +kernel)
theorem ok_J9_multiplyHigh_f86c9 : rowOK MT wl_J9_multiplyHigh_f86c9 mr_J9_multiplyHigh_f86c9 = true := by decide +kernel
theorem wg_X10_partOf : ∀ w ∈ wl_X10_partOf, w ∈ gW := wl_in [1770, 1771, 1772, 81, 1773, 1617, 1776] (by decide +kernel) (by decide +kernel)
theorem ok_X10_partOf : rowOK MT wl_X10_partOf mr_X10_partOf = true := by decide +kernel
theorem wg_X10_odds : ∀ w ∈ wl_X10_odds, w ∈ gW := wl_in [1767, 1262, 1459, 89, 1460, 1249, 1590, 1592, 53, 1261, 1747, 1749, 71, 1601, 1603, 54, 1594, 1595, 1768, 1769] (by decide +kernel) (by decide +kernel)
theorem ok_X10_odds : rowOK MT wl_X10_odds mr_X10_odds = true := by decide +kernel
theorem wg_X10_ends : ∀ w ∈ wl_X10_ends, w ∈ gW := wl_in [1792, 1275, 1270, 1269, 1273] (by decide +kernel) (by decide +kernel)
theorem ok_X10_ends : rowOK MT wl_X10_ends mr_X10_ends = true := by decide +kernel
theorem wg_X10_work : ∀ w ∈ wl_X10_work, w ∈ gW := wl_in [1788, 1269, 1271, 1789, 89, 1791, 74, 1272, 1243, 1274, 1275, 1504, 1505, 1270, 1244, 1227, 114, 81, 115, 1526, 678, 679, 1241] (by decide +kernel) (by decide +kernel)
theorem ok_X10_work : rowOK MT wl_X10_work mr_X10_work = true := by decide +kernel
theorem wg_X10_areAtRest : ∀ w ∈ wl_X10_areAtRest, w ∈ gW := wl_in [1796, 1230, 1269, 1273, 1274, 1272, 1276] (by decide +kernel) (by decide +kernel)
theorem ok_X10_areAtRest : rowOK MT wl_X10_areAtRest mr_X10_areAtRest = true := by decide +kernel
theorem wg_X10_relayOf : ∀ w ∈ wl_X10_relayOf, w ∈ gW := wl_in [1784, 1500, 89, 1502, 44, 1230, 1269, 1272, 1273, 1274, 1275, 1246, 1276, 1277, 1785, 1787, 73, 1242, 1228, 117, 81, 118, 1793, 1795, 75] (by decide +kernel) (by decide +kernel)
theorem ok_X10_relayOf : rowOK MT wl_X10_relayOf mr_X10_relayOf = true := by decide +kernel
theorem wg_X10_relay : ∀ w ∈ wl_X10_relay, w ∈ gW := wl_in [1780, 1491, 1459, 89, 1460, 1468, 1781, 1783, 72] (by decide +kernel) (by decide +kernel)
theorem ok_X10_relay : rowOK MT wl_X10_relay mr_X10_relay = true := by decide +kernel
theorem wg_X10_ranked : ∀ w ∈ wl_X10_ranked, w ∈ gW := wl_in [1800, 1491, 1459, 89, 1460, 1468, 1781, 1783, 72] (by decide +kernel) (by decide +kernel)
theorem ok_X10_ranked : rowOK MT wl_X10_ranked mr_X10_ranked = true := by decide +kernel
theorem wg_X10_walksTwice : ∀ w ∈ wl_X10_walksTwice, w ∈ gW := wl_in [1816, 1504, 89, 1505, 1594, 1595, 1648, 1649] (by decide +kernel) (by decide +kernel)
theorem ok_X10_walksTwice : rowOK MT wl_X10_walksTwice mr_X10_walksTwice = true := by decide +kernel
theorem wg_X10_relax : ∀ w ∈ wl_X10_relax, w ∈ gW := wl_in [1813, 1278] (by decide +kernel) (by decide +kernel)
theorem ok_X10_relax : rowOK MT wl_X10_relax mr_X10_relax = true := by decide +kernel
theorem wg_X10_makeAll : ∀ w ∈ wl_X10_makeAll, w ∈ gW := wl_in [1809, 1278, 1279, 1594, 89, 1595, 1648, 1649, 1810, 1812, 77, 1814, 1815] (by decide +kernel) (by decide +kernel)
theorem ok_X10_makeAll : rowOK MT wl_X10_makeAll mr_X10_makeAll = true := by decide +kernel
theorem wg_X10_make : ∀ w ∈ wl_X10_make, w ∈ gW := wl_in [1804, 1805, 1459, 89, 1460, 1806, 1808, 76, 1278] (by decide +kernel) (by decide +kernel)
theorem ok_X10_make : rowOK MT wl_X10_make mr_X10_make = true := by decide +kernel
theorem wg_X10_kids : ∀ w ∈ wl_X10_kids, w ∈ gW := wl_in [1820, 1230, 1552, 89, 1553, 1244] (by decide +kernel) (by decide +kernel)
theorem ok_X10_kids : rowOK MT wl_X10_kids mr_X10_kids = true := by decide +kernel
theorem wg_X10_image : ∀ w ∈ wl_X10_image, w ∈ gW := wl_in [1824, 1280, 1246, 1281, 1244, 1248, 1282, 1249, 1283, 1247, 1284, 1285] (by decide +kernel) (by decide +kernel)
theorem ok_X10_image : rowOK MT wl_X10_image mr_X10_image = true := by decide +kernel
theorem wg_X10_back : ∀ w ∈ wl_X10_back, w ∈ gW := wl_in [1828, 1285, 1246, 1280, 1244, 1281, 1282, 1248, 1283, 1249, 1284, 1247, 1256] (by decide +kernel) (by decide +kernel)
theorem ok_X10_back : rowOK MT wl_X10_back mr_X10_back = true := by decide +kernel
theorem wg_X10_count : ∀ w ∈ wl_X10_count, w ∈ gW := wl_in [1832, 1230, 1239, 1232, 1262, 1256] (by decide +kernel) (by decide +kernel)
theorem ok_X10_count : rowOK MT wl_X10_count mr_X10_count = true := by decide +kernel
theorem wg_L_cell : ∀ w ∈ wl_L_cell, w ∈ gW := wl_in [1146] (by decide +kernel) (by decide +kernel)
theorem ok_L_cell : rowOK MT wl_L_cell mr_L_cell = true := by decide +kernel
