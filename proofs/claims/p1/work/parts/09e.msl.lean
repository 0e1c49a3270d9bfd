/-! all methods -/
def m_X0_init : pM := (yX0_init, cX0_init, 1, none, 0, 2, 0, (603, 602, 0, 238), tb_X0_init)
def m_X0_clear : pM := (yX0_clear, cX0_clear, 2, none, 1, 0, 0, (1561, 1559, 1560, 238), tb_X0_clear)
def m_X0_see : pM := (yX0_see, cX0_see, 8, none, 2, 0, 0, (1612, 1610, 1611, 238), tb_X0_see)
def m_X0_noteRace : pM := (yX0_noteRace, cX0_noteRace, 4, none, 3, 0, 0, (1628, 1627, 78, 238), tb_X0_noteRace)
def m_X0_findRace : pM := (yX0_findRace, cX0_findRace, 5, (some .int), 2, 0, 0, (1784, 1782, 1783, 238), tb_X0_findRace)
def m_X0_noteTaking : pM := (yX0_noteTaking, cX0_noteTaking, 6, none, 2, 0, 0, (1668, 1666, 1667, 238), tb_X0_noteTaking)
def m_X0_crossed : pM := (yX0_crossed, cX0_crossed, 3, (some .int), 0, 0, 0, (1796, 1794, 1795, 238), tb_X0_crossed)
def m_X0_seeStuck : pM := (yX0_seeStuck, cX0_seeStuck, 5, none, 2, 0, 0, (1636, 1634, 1635, 238), tb_X0_seeStuck)
def m_X0_noteStuck : pM := (yX0_noteStuck, cX0_noteStuck, 4, none, 3, 0, 0, (1648, 1647, 81, 238), tb_X0_noteStuck)
def m_X0_leastInRing : pM := (yX0_leastInRing, cX0_leastInRing, 6, (some .int), 1, 0, 0, (1640, 1639, 80, 238), tb_X0_leastInRing)
def m_X1_init : pM := (yX1_init, cX1_init, 1, none, 0, 2, 1, (833, 832, 0, 242), tb_X1_init)
def m_X1_arrange : pM := (yX1_arrange, cX1_arrange, 4, (some .int), 2, 0, 1, (1500, 1498, 1499, 242), tb_X1_arrange)
def m_X1_gather : pM := (yX1_gather, cX1_gather, 5, (some .boolean), 1, 0, 1, (1504, 1503, 66, 242), tb_X1_gather)
def m_X1_addCall : pM := (yX1_addCall, cX1_addCall, 5, none, 4, 0, 1, (1513, 1512, 67, 242), tb_X1_addCall)
def m_X1_extend : pM := (yX1_extend, cX1_extend, 4, (some .boolean), 2, 0, 1, (1517, 1516, 68, 242), tb_X1_extend)
def m_X1_place : pM := (yX1_place, cX1_place, 5, (some .boolean), 3, 0, 1, (1525, 1524, 70, 242), tb_X1_place)
def m_X1_mayBeNext : pM := (yX1_mayBeNext, cX1_mayBeNext, 5, (some .boolean), 2, 0, 1, (1521, 1520, 69, 242), tb_X1_mayBeNext)
def m_X1_perform : pM := (yX1_perform, cX1_perform, 8, (some .int), 2, 0, 1, (1529, 1528, 71, 242), tb_X1_perform)
def m_X2_init : pM := (yX2_init, cX2_init, 3, none, 2, 2, 2, (751, 750, 0, 240), tb_X2_init)
def m_X2_holds : pM := (yX2_holds, cX2_holds, 4, (some .boolean), 3, 0, 2, (1817, 1815, 1816, 240), tb_X2_holds)
def m_X2_flag : pM := (yX2_flag, cX2_flag, 8, none, 2, 0, 2, (1821, 1820, 93, 240), tb_X2_flag)
def m_X2_isTrue : pM := (yX2_isTrue, cX2_isTrue, 4, (some .boolean), 3, 0, 2, (1826, 1825, 94, 240), tb_X2_isTrue)
def m_X2_least : pM := (yX2_least, cX2_least, 4, (some .int), 2, 0, 2, (1831, 1830, 95, 240), tb_X2_least)
def m_X2_isWanted : pM := (yX2_isWanted, cX2_isWanted, 2, (some .boolean), 1, 0, 2, (1840, 1839, 97, 240), tb_X2_isWanted)
def m_X2_findReached : pM := (yX2_findReached, cX2_findReached, 4, none, 0, 0, 2, (1868, 1867, 102, 240), tb_X2_findReached)
def m_X2_comeTo : pM := (yX2_comeTo, cX2_comeTo, 2, none, 1, 0, 2, (1872, 1871, 103, 240), tb_X2_comeTo)
def m_X2_findLacking : pM := (yX2_findLacking, cX2_findLacking, 3, none, 1, 0, 2, (1835, 1834, 96, 240), tb_X2_findLacking)
def m_X2_enter : pM := (yX2_enter, cX2_enter, 2, none, 1, 0, 2, (1848, 1847, 99, 240), tb_X2_enter)
def m_X2_walkFrom : pM := (yX2_walkFrom, cX2_walkFrom, 6, none, 2, 0, 2, (1844, 1843, 98, 240), tb_X2_walkFrom)
def m_X2_follow : pM := (yX2_follow, cX2_follow, 3, none, 2, 0, 2, (1854, 1853, 100, 240), tb_X2_follow)
def m_X2_close : pM := (yX2_close, cX2_close, 11, none, 2, 0, 2, (1859, 1858, 101, 240), tb_X2_close)
def m_X3_init : pM := (yX3_init, cX3_init, 1, none, 0, 2, 3, (538, 537, 0, 237), tb_X3_init)
def m_X3_localSlot : pM := (yX3_localSlot, cX3_localSlot, 2, (some .int), 2, 1, 3, (1210, 1209, 0, 237), tb_X3_localSlot)
def m_X3_enterFirst : pM := (yX3_enterFirst, cX3_enterFirst, 4, none, 2, 0, 3, (1256, 1254, 1255, 237), tb_X3_enterFirst)
def m_X3_go : pM := (yX3_go, cX3_go, 3, none, 2, 0, 3, (1261, 1260, 35, 237), tb_X3_go)
def m_X3_pickSlots : pM := (yX3_pickSlots, cX3_pickSlots, 2, none, 0, 0, 3, (1549, 1547, 1548, 237), tb_X3_pickSlots)
def m_X3_pick : pM := (yX3_pick, cX3_pick, 4, none, 2, 0, 3, (1553, 1552, 72, 237), tb_X3_pick)
def m_X3_makeEven : pM := (yX3_makeEven, cX3_makeEven, 1, none, 0, 0, 3, (1557, 1556, 73, 237), tb_X3_makeEven)
def m_X3_pack : pM := (yX3_pack, cX3_pack, 3, none, 1, 0, 3, (1571, 1569, 1570, 237), tb_X3_pack)
def m_X3_unpack : pM := (yX3_unpack, cX3_unpack, 6, none, 2, 0, 3, (1602, 1600, 1601, 237), tb_X3_unpack)
def m_X3_keep : pM := (yX3_keep, cX3_keep, 1, none, 0, 0, 3, (1606, 1604, 1605, 237), tb_X3_keep)
def m_X3_comeBack : pM := (yX3_comeBack, cX3_comeBack, 1, none, 0, 0, 3, (1664, 1662, 1663, 237), tb_X3_comeBack)
def m_X3_listReady : pM := (yX3_listReady, cX3_listReady, 4, (some .int), 0, 0, 3, (1265, 1263, 1264, 237), tb_X3_listReady)
def m_X3_isReady : pM := (yX3_isReady, cX3_isReady, 3, (some .boolean), 2, 0, 3, (1314, 1312, 1313, 237), tb_X3_isReady)
def m_X3_choices : pM := (yX3_choices, cX3_choices, 6, (some .int), 1, 0, 3, (1269, 1267, 1268, 237), tb_X3_choices)
def m_X3_needsEmptyQueue : pM := (yX3_needsEmptyQueue, cX3_needsEmptyQueue, 3, (some .boolean), 2, 0, 3, (1273, 1272, 36, 237), tb_X3_needsEmptyQueue)
def m_X3_hasRoom : pM := (yX3_hasRoom, cX3_hasRoom, 8, (some .boolean), 3, 0, 3, (1285, 1284, 38, 237), tb_X3_hasRoom)
def m_X3_waitsFor : pM := (yX3_waitsFor, cX3_waitsFor, 3, (some .boolean), 2, 0, 3, (1301, 1300, 41, 237), tb_X3_waitsFor)
def m_X3_waiters : pM := (yX3_waiters, cX3_waiters, 4, (some .int), 1, 0, 3, (1297, 1296, 40, 237), tb_X3_waiters)
def m_X3_sort : pM := (yX3_sort, cX3_sort, 4, (some .int), 0, 0, 3, (1575, 1573, 1574, 237), tb_X3_sort)
def m_X3_locksOf : pM := (yX3_locksOf, cX3_locksOf, 4, (some .int), 1, 0, 3, (1621, 1619, 1620, 237), tb_X3_locksOf)
def m_X3_lockAhead : pM := (yX3_lockAhead, cX3_lockAhead, 4, (some .int), 1, 0, 3, (1644, 1642, 1643, 237), tb_X3_lockAhead)
def m_X3_take : pM := (yX3_take, cX3_take, 5, none, 2, 0, 3, (1322, 1320, 1321, 237), tb_X3_take)
def m_X3_workOut : pM := (yX3_workOut, cX3_workOut, 2, (some .int), 1, 0, 3, (1359, 1358, 49, 237), tb_X3_workOut)
def m_X3_setLocal : pM := (yX3_setLocal, cX3_setLocal, 4, none, 2, 0, 3, (1346, 1345, 46, 237), tb_X3_setLocal)
def m_X3_touch : pM := (yX3_touch, cX3_touch, 7, (some .int), 3, 0, 3, (1338, 1337, 45, 237), tb_X3_touch)
def m_X3_swapIf : pM := (yX3_swapIf, cX3_swapIf, 6, none, 4, 0, 3, (1371, 1370, 52, 237), tb_X3_swapIf)
def m_X3_addTo : pM := (yX3_addTo, cX3_addTo, 5, (some .int), 3, 0, 3, (1379, 1378, 54, 237), tb_X3_addTo)
def m_X3_useLock : pM := (yX3_useLock, cX3_useLock, 4, (some .int), 3, 0, 3, (1383, 1382, 55, 237), tb_X3_useLock)
def m_X3_leave : pM := (yX3_leave, cX3_leave, 3, none, 2, 0, 3, (1387, 1386, 56, 237), tb_X3_leave)
def m_X3_wake : pM := (yX3_wake, cX3_wake, 5, none, 2, 0, 3, (1391, 1390, 57, 237), tb_X3_wake)
def m_X3_takeBack : pM := (yX3_takeBack, cX3_takeBack, 3, none, 2, 0, 3, (1330, 1329, 43, 237), tb_X3_takeBack)
def m_X3_meet : pM := (yX3_meet, cX3_meet, 3, (some .int), 2, 0, 3, (1395, 1394, 58, 237), tb_X3_meet)
def m_X3_begins : pM := (yX3_begins, cX3_begins, 3, (some .int), 2, 0, 3, (1399, 1398, 59, 237), tb_X3_begins)
def m_X3_tell : pM := (yX3_tell, cX3_tell, 2, (some .int), 0, 0, 3, (1403, 1402, 60, 237), tb_X3_tell)
def m_X3_mayLoad : pM := (yX3_mayLoad, cX3_mayLoad, 4, (some .boolean), 2, 0, 3, (1453, 1451, 1452, 237), tb_X3_mayLoad)
def m_X3_loadable : pM := (yX3_loadable, cX3_loadable, 6, (some .int), 2, 0, 3, (1342, 1340, 1341, 237), tb_X3_loadable)
def m_X3_store : pM := (yX3_store, cX3_store, 4, none, 3, 0, 3, (1363, 1362, 50, 237), tb_X3_store)
def m_X3_flush : pM := (yX3_flush, cX3_flush, 4, none, 1, 0, 3, (1326, 1325, 42, 237), tb_X3_flush)
def m_X3_write : pM := (yX3_write, cX3_write, 6, none, 4, 0, 3, (1367, 1366, 51, 237), tb_X3_write)
def m_X3_viewed : pM := (yX3_viewed, cX3_viewed, 3, (some .int), 2, 0, 3, (1281, 1280, 37, 237), tb_X3_viewed)
def m_X3_view : pM := (yX3_view, cX3_view, 4, none, 3, 0, 3, (1355, 1354, 48, 237), tb_X3_view)
def m_X3_look : pM := (yX3_look, cX3_look, 4, none, 3, 0, 3, (1351, 1350, 47, 237), tb_X3_look)
def m_X3_lookAtLast : pM := (yX3_lookAtLast, cX3_lookAtLast, 4, none, 2, 0, 3, (1375, 1374, 53, 237), tb_X3_lookAtLast)
def m_X3_learn : pM := (yX3_learn, cX3_learn, 6, none, 2, 0, 3, (1334, 1333, 44, 237), tb_X3_learn)
def m_X4_init : pM := (yX4_init, cX4_init, 2, none, 1, 2, 4, (362, 361, 0, 233), tb_X4_init)
def m_X4_put : pM := (yX4_put, cX4_put, 3, none, 2, 0, 4, (1198, 1196, 1197, 233), tb_X4_put)
def m_X4_set : pM := (yX4_set, cX4_set, 4, none, 3, 0, 4, (1202, 1200, 1201, 233), tb_X4_set)
def m_X4_workOut : pM := (yX4_workOut, cX4_workOut, 8, (some .int), 3, 0, 4, (1289, 1287, 1288, 233), tb_X4_workOut)
def m_X4_apply : pM := (yX4_apply, cX4_apply, 7, (some .int), 4, 0, 4, (1293, 1292, 39, 233), tb_X4_apply)
def m_X5_init : pM := (yX5_init, cX5_init, 2, none, 1, 2, 5, (388, 387, 0, 234), tb_X5_init)
def m_X5_clear : pM := (yX5_clear, cX5_clear, 1, none, 0, 0, 5, (941, 939, 940, 234), tb_X5_clear)
def m_X5_copy : pM := (yX5_copy, cX5_copy, 3, none, 1, 0, 5, (1884, 1882, 1883, 234), tb_X5_copy)
def m_X5_find : pM := (yX5_find, cX5_find, 6, (some .int), 4, 1, 5, (1079, 1078, 0, 234), tb_X5_find)
def m_X5_named : pM := (yX5_named, cX5_named, 4, (some .int), 1, 0, 5, (1083, 1081, 1082, 234), tb_X5_named)
def m_X5_isCell : pM := (yX5_isCell, cX5_isCell, 1, (some .boolean), 1, 1, 5, (1141, 1140, 0, 234), tb_X5_isCell)
def m_X5_isLock : pM := (yX5_isLock, cX5_isLock, 1, (some .boolean), 1, 1, 5, (1119, 1118, 0, 234), tb_X5_isLock)
def m_X5_isThread : pM := (yX5_isThread, cX5_isThread, 1, (some .boolean), 1, 1, 5, (1122, 1121, 0, 234), tb_X5_isThread)
def m_X5_localOf : pM := (yX5_localOf, cX5_localOf, 4, (some .int), 2, 0, 5, (1076, 1074, 1075, 234), tb_X5_localOf)
def m_X5_isTold : pM := (yX5_isTold, cX5_isTold, 4, (some .boolean), 1, 0, 5, (1072, 1070, 1071, 234), tb_X5_isTold)
def m_X5_hasCell : pM := (yX5_hasCell, cX5_hasCell, 2, (some .boolean), 1, 0, 5, (1445, 1443, 1444, 234), tb_X5_hasCell)
def m_X5_hasLock : pM := (yX5_hasLock, cX5_hasLock, 2, (some .boolean), 1, 0, 5, (1462, 1460, 1461, 234), tb_X5_hasLock)
def m_X5_hasThread : pM := (yX5_hasThread, cX5_hasThread, 2, (some .boolean), 1, 0, 5, (1436, 1434, 1435, 234), tb_X5_hasThread)
def m_X5_hasLocal : pM := (yX5_hasLocal, cX5_hasLocal, 3, (some .boolean), 2, 0, 5, (1432, 1430, 1431, 234), tb_X5_hasLocal)
def m_X5_isVolatile : pM := (yX5_isVolatile, cX5_isVolatile, 2, (some .boolean), 1, 0, 5, (1277, 1275, 1276, 234), tb_X5_isVolatile)
def m_X5_addCell : pM := (yX5_addCell, cX5_addCell, 3, (some .int), 1, 0, 5, (1087, 1085, 1086, 234), tb_X5_addCell)
def m_X5_addLock : pM := (yX5_addLock, cX5_addLock, 3, none, 1, 0, 5, (1099, 1097, 1098, 234), tb_X5_addLock)
def m_X5_addThread : pM := (yX5_addThread, cX5_addThread, 3, (some .int), 1, 0, 5, (1107, 1105, 1106, 234), tb_X5_addThread)
def m_X5_addLocal : pM := (yX5_addLocal, cX5_addLocal, 4, (some .int), 2, 0, 5, (1154, 1152, 1153, 234), tb_X5_addLocal)
def m_X5_addLine : pM := (yX5_addLine, cX5_addLine, 7, (some .int), 4, 0, 5, (1126, 1124, 1125, 234), tb_X5_addLine)
def m_X5_link : pM := (yX5_link, cX5_link, 4, none, 2, 0, 5, (1130, 1128, 1129, 234), tb_X5_link)
def m_X5_layWays : pM := (yX5_layWays, cX5_layWays, 4, none, 0, 0, 5, (1229, 1227, 1228, 234), tb_X5_layWays)
def m_X5_behind : pM := (yX5_behind, cX5_behind, 4, (some .int), 1, 0, 5, (1233, 1232, 34, 234), tb_X5_behind)
def m_X5_touches : pM := (yX5_touches, cX5_touches, 2, (some .boolean), 1, 0, 5, (1616, 1614, 1615, 234), tb_X5_touches)
def m_X5_clash : pM := (yX5_clash, cX5_clash, 5, (some .boolean), 2, 0, 5, (1491, 1489, 1490, 234), tb_X5_clash)
def m_X5_change : pM := (yX5_change, cX5_change, 4, (some .boolean), 2, 0, 5, (1889, 1887, 1888, 234), tb_X5_change)
def m_X5_ahead : pM := (yX5_ahead, cX5_ahead, 6, (some .int), 1, 0, 5, (1897, 1896, 105, 234), tb_X5_ahead)
def m_X5_swap : pM := (yX5_swap, cX5_swap, 3, (some .boolean), 1, 0, 5, (1893, 1892, 104, 234), tb_X5_swap)
def m_X5_leaveOut : pM := (yX5_leaveOut, cX5_leaveOut, 4, (some .boolean), 1, 0, 5, (1902, 1901, 106, 234), tb_X5_leaveOut)
def m_X5_unlink : pM := (yX5_unlink, cX5_unlink, 4, none, 3, 0, 5, (1906, 1905, 107, 234), tb_X5_unlink)
def m_X5_empty : pM := (yX5_empty, cX5_empty, 3, none, 1, 0, 5, (1910, 1909, 108, 234), tb_X5_empty)
def m_X5_reuse : pM := (yX5_reuse, cX5_reuse, 4, (some .boolean), 1, 0, 5, (1914, 1913, 109, 234), tb_X5_reuse)
def m_X6_init : pM := (yX6_init, cX6_init, 4, none, 3, 2, 6, (473, 472, 0, 235), tb_X6_init)
def m_X6_open : pM := (yX6_open, cX6_open, 3, none, 2, 0, 6, (951, 950, 0, 235), tb_X6_open)
def m_X6_blame : pM := (yX6_blame, cX6_blame, 2, none, 1, 0, 6, (1068, 1067, 10, 235), tb_X6_blame)
def m_X6_need : pM := (yX6_need, cX6_need, 2, none, 1, 0, 6, (1091, 1090, 11, 235), tb_X6_need)
def m_X6_skip : pM := (yX6_skip, cX6_skip, 3, (some .boolean), 1, 0, 6, (1055, 1054, 7, 235), tb_X6_skip)
def m_X6_readProgram : pM := (yX6_readProgram, cX6_readProgram, 2, none, 0, 0, 6, (937, 935, 936, 235), tb_X6_readProgram)
def m_X6_isNewName : pM := (yX6_isNewName, cX6_isNewName, 3, (some .boolean), 2, 0, 6, (1064, 1063, 9, 235), tb_X6_isNewName)
def m_X6_readCell : pM := (yX6_readCell, cX6_readCell, 4, none, 0, 0, 6, (1060, 1059, 8, 235), tb_X6_readCell)
def m_X6_readLock : pM := (yX6_readLock, cX6_readLock, 1, none, 0, 0, 6, (1095, 1094, 12, 235), tb_X6_readLock)
def m_X6_readThread : pM := (yX6_readThread, cX6_readThread, 1, none, 0, 0, 6, (1103, 1102, 13, 235), tb_X6_readThread)
def m_X6_readBlock : pM := (yX6_readBlock, cX6_readBlock, 7, none, 3, 0, 6, (1111, 1110, 14, 235), tb_X6_readBlock)
def m_X6_mayBegin : pM := (yX6_mayBegin, cX6_mayBegin, 3, (some .boolean), 0, 0, 6, (1115, 1114, 15, 235), tb_X6_mayBegin)
def m_X6_readStatement : pM := (yX6_readStatement, cX6_readStatement, 5, none, 2, 0, 6, (1134, 1133, 16, 235), tb_X6_readStatement)
def m_X6_hasExp : pM := (yX6_hasExp, cX6_hasExp, 2, (some .boolean), 1, 0, 6, (1166, 1165, 22, 235), tb_X6_hasExp)
def m_X6_readTarget : pM := (yX6_readTarget, cX6_readTarget, 4, (some .int), 1, 0, 6, (1138, 1137, 17, 235), tb_X6_readTarget)
def m_X6_readLocal : pM := (yX6_readLocal, cX6_readLocal, 3, none, 1, 0, 6, (1145, 1144, 18, 235), tb_X6_readLocal)
def m_X6_localHere : pM := (yX6_localHere, cX6_localHere, 2, (some .int), 0, 0, 6, (1149, 1148, 19, 235), tb_X6_localHere)
def m_X6_readObject : pM := (yX6_readObject, cX6_readObject, 4, none, 2, 0, 6, (1158, 1157, 20, 235), tb_X6_readObject)
def m_X6_needName : pM := (yX6_needName, cX6_needName, 4, none, 3, 0, 6, (1162, 1161, 21, 235), tb_X6_needName)
def m_X6_readInto : pM := (yX6_readInto, cX6_readInto, 2, none, 1, 0, 6, (1221, 1220, 32, 235), tb_X6_readInto)
def m_X6_aimThreads : pM := (yX6_aimThreads, cX6_aimThreads, 4, none, 0, 0, 6, (1225, 1224, 33, 235), tb_X6_aimThreads)
def m_X6_levelOf : pM := (yX6_levelOf, cX6_levelOf, 1, (some .int), 1, 1, 6, (1217, 1216, 0, 235), tb_X6_levelOf)
def m_X6_readLevel : pM := (yX6_readLevel, cX6_readLevel, 5, none, 2, 0, 6, (1170, 1169, 23, 235), tb_X6_readLevel)
def m_X6_readSide : pM := (yX6_readSide, cX6_readSide, 3, none, 2, 0, 6, (1174, 1173, 24, 235), tb_X6_readSide)
def m_X6_countNode : pM := (yX6_countNode, cX6_countNode, 1, (some .boolean), 0, 0, 6, (1190, 1189, 28, 235), tb_X6_countNode)
def m_X6_beginsOne : pM := (yX6_beginsOne, cX6_beginsOne, 2, (some .boolean), 1, 0, 6, (1182, 1181, 26, 235), tb_X6_beginsOne)
def m_X6_isStray : pM := (yX6_isStray, cX6_isStray, 2, (some .boolean), 0, 0, 6, (1186, 1185, 27, 235), tb_X6_isStray)
def m_X6_readOne : pM := (yX6_readOne, cX6_readOne, 3, none, 1, 0, 6, (1178, 1177, 25, 235), tb_X6_readOne)
def m_X6_readNode : pM := (yX6_readNode, cX6_readNode, 4, none, 2, 0, 6, (1194, 1193, 29, 235), tb_X6_readNode)
def m_X6_readLaw : pM := (yX6_readLaw, cX6_readLaw, 1, none, 0, 0, 6, (1809, 1807, 1808, 235), tb_X6_readLaw)
def m_X6_readFact : pM := (yX6_readFact, cX6_readFact, 2, none, 1, 0, 6, (1813, 1812, 92, 235), tb_X6_readFact)
def m_X6_readAsked : pM := (yX6_readAsked, cX6_readAsked, 5, none, 1, 0, 6, (1214, 1213, 31, 235), tb_X6_readAsked)
def m_X6_readCellOrLocal : pM := (yX6_readCellOrLocal, cX6_readCellOrLocal, 4, none, 0, 0, 6, (1206, 1205, 30, 235), tb_X6_readCellOrLocal)
def m_X7_init : pM := (yX7_init, cX7_init, 4, none, 3, 2, 7, (636, 635, 0, 239), tb_X7_init)
def m_X7_clear : pM := (yX7_clear, cX7_clear, 3, none, 2, 0, 7, (1566, 1564, 1565, 239), tb_X7_clear)
def m_X7_placeOf : pM := (yX7_placeOf, cX7_placeOf, 7, (some .int), 2, 0, 7, (1584, 1583, 74, 239), tb_X7_placeOf)
def m_X7_isSame : pM := (yX7_isSame, cX7_isSame, 5, (some .boolean), 3, 0, 7, (1589, 1588, 75, 239), tb_X7_isSame)
def m_X7_numberOf : pM := (yX7_numberOf, cX7_numberOf, 3, (some .int), 2, 0, 7, (1772, 1770, 1771, 239), tb_X7_numberOf)
def m_X7_put : pM := (yX7_put, cX7_put, 4, (some .int), 2, 0, 7, (1580, 1578, 1579, 239), tb_X7_put)
def m_X7_refer : pM := (yX7_refer, cX7_refer, 3, (some .int), 1, 0, 7, (1652, 1650, 1651, 239), tb_X7_refer)
def m_X7_name : pM := (yX7_name, cX7_name, 3, none, 2, 0, 7, (1594, 1593, 76, 239), tb_X7_name)
def m_X8_init : pM := (yX8_init, cX8_init, 1, none, 0, 2, 8, (801, 800, 0, 241), tb_X8_init)
def m_X8_start : pM := (yX8_start, cX8_start, 3, none, 2, 0, 8, (1252, 1250, 1251, 241), tb_X8_start)
def m_X8_take : pM := (yX8_take, cX8_take, 5, none, 2, 0, 8, (1318, 1316, 1317, 241), tb_X8_take)
def m_X8_putAhead : pM := (yX8_putAhead, cX8_putAhead, 4, none, 2, 0, 8, (1420, 1419, 64, 241), tb_X8_putAhead)
def m_X8_isAhead : pM := (yX8_isAhead, cX8_isAhead, 3, (some .boolean), 2, 0, 8, (1474, 1472, 1473, 241), tb_X8_isAhead)
def m_X8_leadsTo : pM := (yX8_leadsTo, cX8_leadsTo, 7, (some .boolean), 2, 0, 8, (1407, 1406, 61, 241), tb_X8_leadsTo)
def m_X8_tells : pM := (yX8_tells, cX8_tells, 3, (some .boolean), 1, 0, 8, (1411, 1410, 62, 241), tb_X8_tells)
def m_X8_hears : pM := (yX8_hears, cX8_hears, 3, (some .boolean), 1, 0, 8, (1416, 1415, 63, 241), tb_X8_hears)
def m_X8_touches : pM := (yX8_touches, cX8_touches, 2, (some .boolean), 1, 0, 8, (1486, 1485, 65, 241), tb_X8_touches)
def m_X8_findRace : pM := (yX8_findRace, cX8_findRace, 6, (some .int), 2, 0, 8, (1482, 1480, 1481, 241), tb_X8_findRace)
def m_X9_init : pM := (yX9_init, cX9_init, 1, none, 0, 2, 9, (260, 259, 0, 228), tb_X9_init)
def m_X9_codes : pM := (yX9_codes, cX9_codes, 6, (some (.array .long)), 2, 1, 9, (265, 264, 0, 228), tb_X9_codes)
def m_X9_append : pM := (yX9_append, cX9_append, 3, none, 1, 0, 9, (925, 923, 924, 228), tb_X9_append)
def m_X9_cut : pM := (yX9_cut, cX9_cut, 2, none, 0, 0, 9, (955, 953, 954, 228), tb_X9_cut)
def m_X9_advance : pM := (yX9_advance, cX9_advance, 1, none, 0, 0, 9, (1051, 1049, 1050, 228), tb_X9_advance)
def m_X9_byteAt : pM := (yX9_byteAt, cX9_byteAt, 2, (some .int), 1, 0, 9, (967, 966, 3, 228), tb_X9_byteAt)
def m_X9_isLetter : pM := (yX9_isLetter, cX9_isLetter, 1, (some .boolean), 1, 1, 9, (970, 969, 0, 228), tb_X9_isLetter)
def m_X9_isDigit : pM := (yX9_isDigit, cX9_isDigit, 1, (some .boolean), 1, 1, 9, (977, 976, 0, 228), tb_X9_isDigit)
def m_X9_skipBlanks : pM := (yX9_skipBlanks, cX9_skipBlanks, 3, none, 0, 0, 9, (959, 958, 1, 228), tb_X9_skipBlanks)
def m_X9_cutOne : pM := (yX9_cutOne, cX9_cutOne, 2, none, 0, 0, 9, (963, 962, 2, 228), tb_X9_cutOne)
def m_X9_cutWord : pM := (yX9_cutWord, cX9_cutWord, 2, none, 0, 0, 9, (974, 973, 4, 228), tb_X9_cutWord)
def m_X9_cutNumber : pM := (yX9_cutNumber, cX9_cutNumber, 1, none, 0, 0, 9, (981, 980, 5, 228), tb_X9_cutNumber)
def m_X9_cutSign : pM := (yX9_cutSign, cX9_cutSign, 3, none, 1, 0, 9, (987, 986, 6, 228), tb_X9_cutSign)
def m_X10_init : pM := (yX10_init, cX10_init, 1, none, 0, 2, 10, (532, 531, 0, 236), tb_X10_init)
def m_X10_tryAll : pM := (yX10_tryAll, cX10_tryAll, 10, (some .int), 3, 0, 10, (1544, 1542, 1543, 236), tb_X10_tryAll)
def m_X10_lookAround : pM := (yX10_lookAround, cX10_lookAround, 4, (some .int), 1, 0, 10, (1598, 1597, 77, 236), tb_X10_lookAround)
def m_X10_quietStep : pM := (yX10_quietStep, cX10_quietStep, 3, (some .int), 0, 0, 10, (1656, 1655, 82, 236), tb_X10_quietStep)
def m_X10_tryStep : pM := (yX10_tryStep, cX10_tryStep, 8, (some .boolean), 2, 0, 10, (1660, 1659, 83, 236), tb_X10_tryStep)
def m_X10_isWhile : pM := (yX10_isWhile, cX10_isWhile, 2, (some .boolean), 1, 0, 10, (1673, 1672, 84, 236), tb_X10_isWhile)
def m_X10_noteEnd : pM := (yX10_noteEnd, cX10_noteEnd, 2, none, 1, 0, 10, (1632, 1631, 79, 236), tb_X10_noteEnd)
def m_X10_hasState : pM := (yX10_hasState, cX10_hasState, 2, (some .boolean), 1, 0, 10, (1735, 1733, 1734, 236), tb_X10_hasState)
def m_X10_hasOutcome : pM := (yX10_hasOutcome, cX10_hasOutcome, 2, (some .boolean), 1, 0, 10, (1685, 1683, 1684, 236), tb_X10_hasOutcome)
def m_X10_stateOfOutcome : pM := (yX10_stateOfOutcome, cX10_stateOfOutcome, 2, (some .int), 1, 0, 10, (1693, 1691, 1692, 236), tb_X10_stateOfOutcome)
def m_X10_slotOfOutcome : pM := (yX10_slotOfOutcome, cX10_slotOfOutcome, 3, (some .int), 2, 0, 10, (1689, 1687, 1688, 236), tb_X10_slotOfOutcome)
def m_X10_stateOf : pM := (yX10_stateOf, cX10_stateOf, 1, (some .int), 1, 1, 10, (1705, 1704, 0, 236), tb_X10_stateOf)
def m_X10_threadOf : pM := (yX10_threadOf, cX10_threadOf, 1, (some .int), 1, 1, 10, (1708, 1707, 0, 236), tb_X10_threadOf)
def m_X10_readyThreads : pM := (yX10_readyThreads, cX10_readyThreads, 2, (some .int), 1, 0, 10, (1863, 1861, 1862, 236), tb_X10_readyThreads)
def m_X10_scheduleLength : pM := (yX10_scheduleLength, cX10_scheduleLength, 5, (some .int), 1, 0, 10, (1739, 1737, 1738, 236), tb_X10_scheduleLength)
def m_X10_scheduledStep : pM := (yX10_scheduledStep, cX10_scheduledStep, 5, (some .int), 2, 0, 10, (1743, 1741, 1742, 236), tb_X10_scheduledStep)
def m_X10_fewestSwitches : pM := (yX10_fewestSwitches, cX10_fewestSwitches, 6, (some .int), 1, 0, 10, (1697, 1695, 1696, 236), tb_X10_fewestSwitches)
def m_X10_countSwitches : pM := (yX10_countSwitches, cX10_countSwitches, 3, none, 0, 0, 10, (1701, 1700, 85, 236), tb_X10_countSwitches)
def m_X10_leaveFrom : pM := (yX10_leaveFrom, cX10_leaveFrom, 8, none, 2, 0, 10, (1716, 1715, 87, 236), tb_X10_leaveFrom)
def m_X10_reach : pM := (yX10_reach, cX10_reach, 4, none, 3, 0, 10, (1712, 1711, 86, 236), tb_X10_reach)
def m_X10_countChances : pM := (yX10_countChances, cX10_countChances, 11, (some .int), 3, 0, 10, (1755, 1753, 1754, 236), tb_X10_countChances)
def m_X10_drawnOutcome : pM := (yX10_drawnOutcome, cX10_drawnOutcome, 6, (some .int), 3, 0, 10, (1759, 1758, 88, 236), tb_X10_drawnOutcome)
def m_X10_arrange : pM := (yX10_arrange, cX10_arrange, 6, none, 1, 0, 10, (1763, 1762, 89, 236), tb_X10_arrange)
def m_X10_firstReady : pM := (yX10_firstReady, cX10_firstReady, 2, (some .int), 0, 0, 10, (1767, 1766, 90, 236), tb_X10_firstReady)
def m_X10_lower : pM := (yX10_lower, cX10_lower, 4, none, 1, 0, 10, (1776, 1775, 91, 236), tb_X10_lower)
def m_X11_init : pM := (yX11_init, cX11_init, 3, none, 0, 2, 11, (252, 251, 0, 227), tb_X11_init)
def m_X11_feed : pM := (yX11_feed, cX11_feed, 6, (some .int), 5, 0, 11, (921, 919, 920, 227), tb_X11_feed)
def m_X11_end : pM := (yX11_end, cX11_end, 2, (some .int), 1, 0, 11, (929, 927, 928, 227), tb_X11_end)
def m_X11_program : pM := (yX11_program, cX11_program, 1, (some .int), 0, 0, 11, (933, 931, 932, 227), tb_X11_program)
def m_X11_count : pM := (yX11_count, cX11_count, 2, (some .int), 1, 0, 11, (1237, 1235, 1236, 227), tb_X11_count)
def m_X11_line : pM := (yX11_line, cX11_line, 3, (some .int), 2, 0, 11, (1241, 1239, 1240, 227), tb_X11_line)
def m_X11_begin : pM := (yX11_begin, cX11_begin, 2, (some .int), 1, 0, 11, (1245, 1243, 1244, 227), tb_X11_begin)
def m_X11_ready : pM := (yX11_ready, cX11_ready, 3, (some .int), 1, 0, 11, (1306, 1304, 1305, 227), tb_X11_ready)
def m_X11_turn : pM := (yX11_turn, cX11_turn, 3, (some .int), 2, 0, 11, (1310, 1308, 1309, 227), tb_X11_turn)
def m_X11_thread : pM := (yX11_thread, cX11_thread, 4, (some .int), 2, 0, 11, (1424, 1422, 1423, 227), tb_X11_thread)
def m_X11_local : pM := (yX11_local, cX11_local, 3, (some .int), 2, 0, 11, (1428, 1426, 1427, 227), tb_X11_local)
def m_X11_cell : pM := (yX11_cell, cX11_cell, 2, (some .int), 1, 0, 11, (1441, 1439, 1440, 227), tb_X11_cell)
def m_X11_seen : pM := (yX11_seen, cX11_seen, 3, (some .int), 2, 0, 11, (1449, 1447, 1448, 227), tb_X11_seen)
def m_X11_held : pM := (yX11_held, cX11_held, 4, (some .int), 2, 0, 11, (1458, 1456, 1457, 227), tb_X11_held)
def m_X11_step : pM := (yX11_step, cX11_step, 3, (some .int), 2, 0, 11, (1466, 1464, 1465, 227), tb_X11_step)
def m_X11_before : pM := (yX11_before, cX11_before, 3, (some .int), 2, 0, 11, (1470, 1468, 1469, 227), tb_X11_before)
def m_X11_runRace : pM := (yX11_runRace, cX11_runRace, 3, (some .int), 2, 0, 11, (1478, 1476, 1477, 227), tb_X11_runRace)
def m_X11_linear : pM := (yX11_linear, cX11_linear, 2, (some .int), 1, 0, 11, (1496, 1494, 1495, 227), tb_X11_linear)
def m_X11_ordered : pM := (yX11_ordered, cX11_ordered, 2, (some .int), 1, 0, 11, (1536, 1534, 1535, 227), tb_X11_ordered)
def m_X11_explore : pM := (yX11_explore, cX11_explore, 3, (some .int), 2, 0, 11, (1540, 1538, 1539, 227), tb_X11_explore)
def m_X11_explored : pM := (yX11_explored, cX11_explored, 2, (some .int), 1, 0, 11, (1677, 1675, 1676, 227), tb_X11_explored)
def m_X11_outcome : pM := (yX11_outcome, cX11_outcome, 3, (some .int), 2, 0, 11, (1681, 1679, 1680, 227), tb_X11_outcome)
def m_X11_outcomeCell : pM := (yX11_outcomeCell, cX11_outcomeCell, 3, (some .int), 2, 0, 11, (1723, 1721, 1722, 227), tb_X11_outcomeCell)
def m_X11_outcomeLocal : pM := (yX11_outcomeLocal, cX11_outcomeLocal, 4, (some .int), 3, 0, 11, (1727, 1725, 1726, 227), tb_X11_outcomeLocal)
def m_X11_schedule : pM := (yX11_schedule, cX11_schedule, 4, (some .int), 2, 0, 11, (1731, 1729, 1730, 227), tb_X11_schedule)
def m_X11_replay : pM := (yX11_replay, cX11_replay, 5, (some .int), 1, 0, 11, (1747, 1745, 1746, 227), tb_X11_replay)
def m_X11_chances : pM := (yX11_chances, cX11_chances, 4, (some .int), 3, 0, 11, (1751, 1749, 1750, 227), tb_X11_chances)
def m_X11_race : pM := (yX11_race, cX11_race, 3, (some .int), 2, 0, 11, (1780, 1778, 1779, 227), tb_X11_race)
def m_X11_guard : pM := (yX11_guard, cX11_guard, 2, (some .int), 1, 0, 11, (1788, 1786, 1787, 227), tb_X11_guard)
def m_X11_ring : pM := (yX11_ring, cX11_ring, 2, (some .int), 1, 0, 11, (1792, 1790, 1791, 227), tb_X11_ring)
def m_X11_order : pM := (yX11_order, cX11_order, 3, (some .int), 2, 0, 11, (1801, 1799, 1800, 227), tb_X11_order)
def m_X11_judge : pM := (yX11_judge, cX11_judge, 3, (some .int), 0, 0, 11, (1805, 1803, 1804, 227), tb_X11_judge)
def m_X11_where : pM := (yX11_where, cX11_where, 1, (some .int), 0, 0, 11, (1876, 1874, 1875, 227), tb_X11_where)
def m_X11_rewrite : pM := (yX11_rewrite, cX11_rewrite, 3, (some .int), 2, 0, 11, (1880, 1878, 1879, 227), tb_X11_rewrite)
def m_X11_drop : pM := (yX11_drop, cX11_drop, 1, (some .int), 0, 0, 11, (1925, 1923, 1924, 227), tb_X11_drop)
def m_X11_sound : pM := (yX11_sound, cX11_sound, 4, (some .int), 1, 0, 11, (1929, 1927, 1928, 227), tb_X11_sound)
def m_X11_gained : pM := (yX11_gained, cX11_gained, 1, (some .int), 0, 0, 11, (1936, 1934, 1935, 227), tb_X11_gained)
def m_X11_isWay : pM := (yX11_isWay, cX11_isWay, 1, (some .boolean), 1, 1, 11, (1248, 1247, 0, 227), tb_X11_isWay)
def m_X11_forgetRewritten : pM := (yX11_forgetRewritten, cX11_forgetRewritten, 1, none, 0, 0, 11, (1921, 1920, 110, 227), tb_X11_forgetRewritten)
def m_X12_init : pM := (yX12_init, cX12_init, 1, none, 0, 2, 12, (1941, 1940, 0, 243), tb_X12_init)
def m_X12_feed : pM := (yX12_feed, cX12_feed, 8, (some .int), 5, 0, 12, (2420, 2418, 2419, 243), tb_X12_feed)
def m_X12_end : pM := (yX12_end, cX12_end, 2, (some .int), 1, 0, 12, (2424, 2422, 2423, 243), tb_X12_end)
def m_X12_good : pM := (yX12_good, cX12_good, 1, (some .boolean), 0, 0, 12, (2440, 2439, 113, 243), tb_X12_good)
def m_X12_fail : pM := (yX12_fail, cX12_fail, 3, none, 2, 0, 12, (2454, 2453, 115, 243), tb_X12_fail)
def m_X12_need : pM := (yX12_need, cX12_need, 3, none, 2, 0, 12, (2450, 2449, 114, 243), tb_X12_need)
def m_X12_isLetter : pM := (yX12_isLetter, cX12_isLetter, 1, (some .boolean), 1, 1, 12, (2443, 2442, 0, 243), tb_X12_isLetter)
def m_X12_isFigure : pM := (yX12_isFigure, cX12_isFigure, 1, (some .boolean), 1, 1, 12, (2446, 2445, 0, 243), tb_X12_isFigure)
def m_X12_byteAt : pM := (yX12_byteAt, cX12_byteAt, 2, (some .int), 1, 0, 12, (2458, 2457, 116, 243), tb_X12_byteAt)
def m_X12_next : pM := (yX12_next, cX12_next, 6, none, 0, 0, 12, (2436, 2435, 112, 243), tb_X12_next)
def m_X12_beginReading : pM := (yX12_beginReading, cX12_beginReading, 1, none, 0, 0, 12, (2432, 2431, 111, 243), tb_X12_beginReading)
def m_X12_endReading : pM := (yX12_endReading, cX12_endReading, 1, none, 0, 0, 12, (2673, 2672, 151, 243), tb_X12_endReading)
def m_X12_must : pM := (yX12_must, cX12_must, 2, none, 1, 0, 12, (2571, 2570, 127, 243), tb_X12_must)
def m_X12_isReserved : pM := (yX12_isReserved, cX12_isReserved, 3, (some .boolean), 1, 1, 12, (2479, 2478, 0, 243), tb_X12_isReserved)
def m_X12_isName : pM := (yX12_isName, cX12_isName, 1, (some .boolean), 0, 0, 12, (2476, 2475, 120, 243), tb_X12_isName)
def m_X12_isWord : pM := (yX12_isWord, cX12_isWord, 3, (some .boolean), 1, 0, 12, (2464, 2463, 117, 243), tb_X12_isWord)
def m_X12_cellOf : pM := (yX12_cellOf, cX12_cellOf, 4, (some .int), 1, 0, 12, (2551, 2550, 122, 243), tb_X12_cellOf)
def m_X12_lockOf : pM := (yX12_lockOf, cX12_lockOf, 4, (some .int), 1, 0, 12, (2555, 2554, 123, 243), tb_X12_lockOf)
def m_X12_threadOf : pM := (yX12_threadOf, cX12_threadOf, 4, (some .int), 1, 0, 12, (2559, 2558, 124, 243), tb_X12_threadOf)
def m_X12_localOf : pM := (yX12_localOf, cX12_localOf, 5, (some .int), 2, 0, 12, (2567, 2566, 126, 243), tb_X12_localOf)
def m_X12_isTold : pM := (yX12_isTold, cX12_isTold, 3, (some .boolean), 1, 0, 12, (2547, 2546, 121, 243), tb_X12_isTold)
def m_X12_takeLocal : pM := (yX12_takeLocal, cX12_takeLocal, 3, (some .int), 0, 0, 12, (2599, 2598, 134, 243), tb_X12_takeLocal)
def m_X12_emit : pM := (yX12_emit, cX12_emit, 3, none, 2, 0, 12, (2635, 2634, 143, 243), tb_X12_emit)
def m_X12_countNode : pM := (yX12_countNode, cX12_countNode, 1, none, 0, 0, 12, (2627, 2626, 141, 243), tb_X12_countNode)
def m_X12_rankOf : pM := (yX12_rankOf, cX12_rankOf, 1, (some .int), 1, 1, 12, (2650, 2649, 0, 243), tb_X12_rankOf)
def m_X12_operatorAtHand : pM := (yX12_operatorAtHand, cX12_operatorAtHand, 1, (some .int), 0, 0, 12, (2654, 2653, 147, 243), tb_X12_operatorAtHand)
def m_X12_settle : pM := (yX12_settle, cX12_settle, 2, none, 1, 0, 12, (2647, 2646, 146, 243), tb_X12_settle)
def m_X12_lastRank : pM := (yX12_lastRank, cX12_lastRank, 1, (some .int), 1, 1, 12, (2657, 2656, 0, 243), tb_X12_lastRank)
def m_X12_readExp : pM := (yX12_readExp, cX12_readExp, 9, (some .int), 0, 0, 12, (2615, 2614, 138, 243), tb_X12_readExp)
def m_X12_endPrefixes : pM := (yX12_endPrefixes, cX12_endPrefixes, 2, (some .int), 0, 0, 12, (2643, 2642, 145, 243), tb_X12_endPrefixes)
def m_X12_isFactWord : pM := (yX12_isFactWord, cX12_isFactWord, 1, (some .boolean), 0, 0, 12, (2619, 2618, 139, 243), tb_X12_isFactWord)
def m_X12_checkWord : pM := (yX12_checkWord, cX12_checkWord, 1, none, 0, 0, 12, (2623, 2622, 140, 243), tb_X12_checkWord)
def m_X12_takeOperand : pM := (yX12_takeOperand, cX12_takeOperand, 2, none, 0, 0, 12, (2631, 2630, 142, 243), tb_X12_takeOperand)
def m_X12_takeFact : pM := (yX12_takeFact, cX12_takeFact, 4, none, 0, 0, 12, (2639, 2638, 144, 243), tb_X12_takeFact)
def m_X12_openBlock : pM := (yX12_openBlock, cX12_openBlock, 3, none, 2, 0, 12, (2579, 2578, 129, 243), tb_X12_openBlock)
def m_X12_newLine : pM := (yX12_newLine, cX12_newLine, 4, (some .int), 1, 0, 12, (2603, 2602, 135, 243), tb_X12_newLine)
def m_X12_takeExp : pM := (yX12_takeExp, cX12_takeExp, 2, none, 1, 0, 12, (2611, 2610, 137, 243), tb_X12_takeExp)
def m_X12_keywordAtHand : pM := (yX12_keywordAtHand, cX12_keywordAtHand, 3, (some .int), 0, 0, 12, (2591, 2590, 132, 243), tb_X12_keywordAtHand)
def m_X12_readStatement : pM := (yX12_readStatement, cX12_readStatement, 3, none, 0, 0, 12, (2587, 2586, 131, 243), tb_X12_readStatement)
def m_X12_readRest : pM := (yX12_readRest, cX12_readRest, 3, none, 2, 0, 12, (2661, 2660, 148, 243), tb_X12_readRest)
def m_X12_takeExpGood : pM := (yX12_takeExpGood, cX12_takeExpGood, 2, none, 1, 0, 12, (2607, 2606, 136, 243), tb_X12_takeExpGood)
def m_X12_takeCell : pM := (yX12_takeCell, cX12_takeCell, 2, none, 1, 0, 12, (2665, 2664, 149, 243), tb_X12_takeCell)
def m_X12_takeInto : pM := (yX12_takeInto, cX12_takeInto, 2, none, 1, 0, 12, (2669, 2668, 150, 243), tb_X12_takeInto)
def m_X12_readAssignment : pM := (yX12_readAssignment, cX12_readAssignment, 4, none, 0, 0, 12, (2595, 2594, 133, 243), tb_X12_readAssignment)
def m_X12_readBlocks : pM := (yX12_readBlocks, cX12_readBlocks, 3, none, 0, 0, 12, (2583, 2582, 130, 243), tb_X12_readBlocks)
def m_X12_isLocalOfSome : pM := (yX12_isLocalOfSome, cX12_isLocalOfSome, 3, (some .boolean), 0, 0, 12, (2563, 2562, 125, 243), tb_X12_isLocalOfSome)
def m_X12_checkName : pM := (yX12_checkName, cX12_checkName, 2, none, 1, 0, 12, (2472, 2471, 119, 243), tb_X12_checkName)
def m_X12_readCell : pM := (yX12_readCell, cX12_readCell, 2, none, 0, 0, 12, (2468, 2467, 118, 243), tb_X12_readCell)
def m_X12_readThread : pM := (yX12_readThread, cX12_readThread, 1, none, 0, 0, 12, (2575, 2574, 128, 243), tb_X12_readThread)
def m_X12_program : pM := (yX12_program, cX12_program, 2, (some .int), 0, 0, 12, (2428, 2426, 2427, 243), tb_X12_program)
def m_X12_count : pM := (yX12_count, cX12_count, 2, (some .int), 1, 0, 12, (2681, 2679, 2680, 243), tb_X12_count)
def m_X12_line : pM := (yX12_line, cX12_line, 3, (some .int), 2, 0, 12, (2685, 2683, 2684, 243), tb_X12_line)
def m_X12_layFlow : pM := (yX12_layFlow, cX12_layFlow, 5, none, 1, 0, 12, (2677, 2676, 152, 243), tb_X12_layFlow)
def m_X12_copyProgram : pM := (yX12_copyProgram, cX12_copyProgram, 6, none, 2, 0, 12, (2697, 2696, 154, 243), tb_X12_copyProgram)
def m_X12_truth : pM := (yX12_truth, cX12_truth, 1, (some .int), 1, 1, 12, (2761, 2760, 0, 243), tb_X12_truth)
def m_X12_isValue : pM := (yX12_isValue, cX12_isValue, 1, (some .boolean), 1, 1, 12, (2768, 2767, 0, 243), tb_X12_isValue)
def m_X12_worked : pM := (yX12_worked, cX12_worked, 8, (some .int), 3, 0, 12, (2755, 2754, 167, 243), tb_X12_worked)
def m_X12_joined : pM := (yX12_joined, cX12_joined, 3, (some .int), 3, 1, 12, (2758, 2757, 0, 243), tb_X12_joined)
def m_X12_factOf : pM := (yX12_factOf, cX12_factOf, 3, (some .int), 2, 0, 12, (2765, 2764, 168, 243), tb_X12_factOf)
def m_X12_widthOf : pM := (yX12_widthOf, cX12_widthOf, 1, (some .int), 1, 1, 12, (2704, 2703, 0, 243), tb_X12_widthOf)
def m_X12_firstState : pM := (yX12_firstState, cX12_firstState, 4, none, 2, 0, 12, (2701, 2700, 155, 243), tb_X12_firstState)
def m_X12_beginThread : pM := (yX12_beginThread, cX12_beginThread, 2, none, 1, 0, 12, (2708, 2707, 156, 243), tb_X12_beginThread)
def m_X12_goTo : pM := (yX12_goTo, cX12_goTo, 3, none, 2, 0, 12, (2712, 2711, 157, 243), tb_X12_goTo)
def m_X12_lineOf : pM := (yX12_lineOf, cX12_lineOf, 2, (some .int), 1, 0, 12, (2736, 2735, 163, 243), tb_X12_lineOf)
def m_X12_viewOf : pM := (yX12_viewOf, cX12_viewOf, 2, (some .int), 2, 1, 12, (2747, 2746, 0, 243), tb_X12_viewOf)
def m_X12_withView : pM := (yX12_withView, cX12_withView, 3, (some .int), 3, 1, 12, (2814, 2813, 0, 243), tb_X12_withView)
def m_X12_joinOf : pM := (yX12_joinOf, cX12_joinOf, 6, (some .int), 2, 1, 12, (2811, 2810, 0, 243), tb_X12_joinOf)
def m_X12_lastWrite : pM := (yX12_lastWrite, cX12_lastWrite, 2, (some .int), 1, 0, 12, (2744, 2743, 165, 243), tb_X12_lastWrite)
def m_X12_write : pM := (yX12_write, cX12_write, 6, none, 4, 0, 12, (2838, 2837, 182, 243), tb_X12_write)
def m_X12_seeLast : pM := (yX12_seeLast, cX12_seeLast, 5, (some .int), 3, 0, 12, (2830, 2829, 180, 243), tb_X12_seeLast)
def m_X12_isEmpty : pM := (yX12_isEmpty, cX12_isEmpty, 2, (some .boolean), 1, 0, 12, (2740, 2739, 164, 243), tb_X12_isEmpty)
def m_X12_waitingFor : pM := (yX12_waitingFor, cX12_waitingFor, 4, (some .int), 1, 0, 12, (2772, 2771, 169, 243), tb_X12_waitingFor)
def m_X12_choices : pM := (yX12_choices, cX12_choices, 7, (some .int), 1, 0, 12, (2732, 2731, 162, 243), tb_X12_choices)
def m_X12_wouldWrite : pM := (yX12_wouldWrite, cX12_wouldWrite, 6, (some .boolean), 2, 0, 12, (2751, 2750, 166, 243), tb_X12_wouldWrite)
def m_X12_hasFlush : pM := (yX12_hasFlush, cX12_hasFlush, 2, (some .boolean), 1, 0, 12, (2776, 2775, 170, 243), tb_X12_hasFlush)
def m_X12_lookReady : pM := (yX12_lookReady, cX12_lookReady, 4, none, 0, 0, 12, (2728, 2727, 161, 243), tb_X12_lookReady)
def m_X12_isReadyStep : pM := (yX12_isReadyStep, cX12_isReadyStep, 5, (some .boolean), 2, 0, 12, (2788, 2787, 171, 243), tb_X12_isReadyStep)
def m_X12_goWrong : pM := (yX12_goWrong, cX12_goWrong, 3, none, 2, 0, 12, (2818, 2817, 177, 243), tb_X12_goWrong)
def m_X12_takeLock : pM := (yX12_takeLock, cX12_takeLock, 5, none, 3, 0, 12, (2804, 2803, 175, 243), tb_X12_takeLock)
def m_X12_joinView : pM := (yX12_joinView, cX12_joinView, 3, none, 2, 0, 12, (2808, 2807, 176, 243), tb_X12_joinView)
def m_X12_flush : pM := (yX12_flush, cX12_flush, 4, none, 1, 0, 12, (2800, 2799, 174, 243), tb_X12_flush)
def m_X12_loaded : pM := (yX12_loaded, cX12_loaded, 6, (some .int), 3, 0, 12, (2826, 2825, 179, 243), tb_X12_loaded)
def m_X12_storeNow : pM := (yX12_storeNow, cX12_storeNow, 5, none, 3, 0, 12, (2834, 2833, 181, 243), tb_X12_storeNow)
def m_X12_setLocal : pM := (yX12_setLocal, cX12_setLocal, 4, none, 3, 0, 12, (2822, 2821, 178, 243), tb_X12_setLocal)
def m_X12_doStep : pM := (yX12_doStep, cX12_doStep, 9, none, 2, 0, 12, (2796, 2795, 173, 243), tb_X12_doStep)
def m_X12_atOnce : pM := (yX12_atOnce, cX12_atOnce, 10, none, 4, 0, 12, (2842, 2841, 183, 243), tb_X12_atOnce)
def m_X12_beginOther : pM := (yX12_beginOther, cX12_beginOther, 3, none, 2, 0, 12, (2846, 2845, 184, 243), tb_X12_beginOther)
def m_X12_doLock : pM := (yX12_doLock, cX12_doLock, 8, none, 3, 0, 12, (2850, 2849, 185, 243), tb_X12_doLock)
def m_X12_keepRun : pM := (yX12_keepRun, cX12_keepRun, 2, none, 0, 0, 12, (2716, 2715, 158, 243), tb_X12_keepRun)
def m_X12_takeRun : pM := (yX12_takeRun, cX12_takeRun, 2, none, 0, 0, 12, (2724, 2723, 160, 243), tb_X12_takeRun)
def m_X12_beginRun : pM := (yX12_beginRun, cX12_beginRun, 3, none, 2, 0, 12, (2693, 2692, 153, 243), tb_X12_beginRun)
def m_X12_readyNow : pM := (yX12_readyNow, cX12_readyNow, 1, (some .int), 0, 0, 12, (2720, 2719, 159, 243), tb_X12_readyNow)
def m_X12_begin : pM := (yX12_begin, cX12_begin, 2, (some .int), 1, 0, 12, (2689, 2687, 2688, 243), tb_X12_begin)
def m_X12_ready : pM := (yX12_ready, cX12_ready, 3, (some .int), 1, 0, 12, (2780, 2778, 2779, 243), tb_X12_ready)
def m_X12_stepRun : pM := (yX12_stepRun, cX12_stepRun, 4, none, 2, 0, 12, (2792, 2791, 172, 243), tb_X12_stepRun)
def m_X12_turn : pM := (yX12_turn, cX12_turn, 4, (some .int), 2, 0, 12, (2784, 2782, 2783, 243), tb_X12_turn)
def m_X12_isThread : pM := (yX12_isThread, cX12_isThread, 2, (some .boolean), 1, 0, 12, (2858, 2857, 186, 243), tb_X12_isThread)
def m_X12_thread : pM := (yX12_thread, cX12_thread, 3, (some .int), 2, 0, 12, (2854, 2852, 2853, 243), tb_X12_thread)
def m_X12_local : pM := (yX12_local, cX12_local, 3, (some .int), 2, 0, 12, (2862, 2860, 2861, 243), tb_X12_local)
def m_X12_cell : pM := (yX12_cell, cX12_cell, 2, (some .int), 1, 0, 12, (2866, 2864, 2865, 243), tb_X12_cell)
def m_X12_seen : pM := (yX12_seen, cX12_seen, 3, (some .int), 2, 0, 12, (2870, 2868, 2869, 243), tb_X12_seen)
def m_X12_held : pM := (yX12_held, cX12_held, 3, (some .int), 2, 0, 12, (2874, 2872, 2873, 243), tb_X12_held)
def m_X12_step : pM := (yX12_step, cX12_step, 3, (some .int), 2, 0, 12, (2878, 2876, 2877, 243), tb_X12_step)
def m_X12_isAtOnce : pM := (yX12_isAtOnce, cX12_isAtOnce, 1, (some .boolean), 1, 1, 12, (2893, 2892, 0, 243), tb_X12_isAtOnce)
def m_X12_isDirect : pM := (yX12_isDirect, cX12_isDirect, 8, (some .boolean), 2, 0, 12, (2890, 2889, 188, 243), tb_X12_isDirect)
def m_X12_layBefore : pM := (yX12_layBefore, cX12_layBefore, 4, none, 0, 0, 12, (2886, 2885, 187, 243), tb_X12_layBefore)
def m_X12_before : pM := (yX12_before, cX12_before, 3, (some .int), 2, 0, 12, (2882, 2880, 2881, 243), tb_X12_before)
def m_X12_areRacing : pM := (yX12_areRacing, cX12_areRacing, 4, (some .boolean), 2, 1, 12, (2900, 2899, 0, 243), tb_X12_areRacing)
def m_X12_runRace : pM := (yX12_runRace, cX12_runRace, 7, (some .int), 2, 0, 12, (2897, 2895, 2896, 243), tb_X12_runRace)
def m_X12_doesOf : pM := (yX12_doesOf, cX12_doesOf, 7, (some .int), 2, 1, 12, (2911, 2910, 0, 243), tb_X12_doesOf)
def m_X12_layCalls : pM := (yX12_layCalls, cX12_layCalls, 6, (some .boolean), 1, 0, 12, (2908, 2907, 189, 243), tb_X12_layCalls)
def m_X12_given : pM := (yX12_given, cX12_given, 10, (some .int), 2, 0, 12, (2933, 2932, 191, 243), tb_X12_given)
def m_X12_canBeNext : pM := (yX12_canBeNext, cX12_canBeNext, 5, (some .boolean), 2, 0, 12, (2929, 2928, 190, 243), tb_X12_canBeNext)
def m_X12_linear : pM := (yX12_linear, cX12_linear, 8, (some .int), 1, 0, 12, (2904, 2902, 2903, 243), tb_X12_linear)
def m_X12_ordered : pM := (yX12_ordered, cX12_ordered, 2, (some .int), 1, 0, 12, (2937, 2935, 2936, 243), tb_X12_ordered)
def m_X12_hashOfState : pM := (yX12_hashOfState, cX12_hashOfState, 3, (some .int), 0, 0, 12, (2953, 2952, 194, 243), tb_X12_hashOfState)
def m_X12_isStateAt : pM := (yX12_isStateAt, cX12_isStateAt, 5, (some .boolean), 1, 0, 12, (2958, 2957, 195, 243), tb_X12_isStateAt)
def m_X12_loadState : pM := (yX12_loadState, cX12_loadState, 4, none, 1, 0, 12, (2963, 2962, 196, 243), tb_X12_loadState)
def m_X12_numberOf : pM := (yX12_numberOf, cX12_numberOf, 6, (some .int), 3, 0, 12, (2949, 2948, 193, 243), tb_X12_numberOf)
def m_X12_sortOfEnd : pM := (yX12_sortOfEnd, cX12_sortOfEnd, 4, (some .int), 0, 0, 12, (2979, 2978, 200, 243), tb_X12_sortOfEnd)
def m_X12_isOutcome : pM := (yX12_isOutcome, cX12_isOutcome, 5, (some .boolean), 1, 0, 12, (2975, 2974, 199, 243), tb_X12_isOutcome)
def m_X12_outcomeOf : pM := (yX12_outcomeOf, cX12_outcomeOf, 4, (some .int), 1, 0, 12, (2971, 2970, 198, 243), tb_X12_outcomeOf)
def m_X12_isQuiet : pM := (yX12_isQuiet, cX12_isQuiet, 1, (some .boolean), 1, 1, 12, (2986, 2985, 0, 243), tb_X12_isQuiet)
def m_X12_quietThread : pM := (yX12_quietThread, cX12_quietThread, 2, (some .int), 0, 0, 12, (2983, 2982, 201, 243), tb_X12_quietThread)
def m_X12_findIn : pM := (yX12_findIn, cX12_findIn, 11, none, 1, 0, 12, (2967, 2966, 197, 243), tb_X12_findIn)
def m_X12_tryAll : pM := (yX12_tryAll, cX12_tryAll, 9, (some .int), 2, 0, 12, (2945, 2944, 192, 243), tb_X12_tryAll)
def m_X12_explore : pM := (yX12_explore, cX12_explore, 3, (some .int), 2, 0, 12, (2941, 2939, 2940, 243), tb_X12_explore)
def m_X12_explored : pM := (yX12_explored, cX12_explored, 2, (some .int), 1, 0, 12, (2991, 2989, 2990, 243), tb_X12_explored)
def m_X12_isExploredOutcome : pM := (yX12_isExploredOutcome, cX12_isExploredOutcome, 2, (some .boolean), 1, 0, 12, (2999, 2998, 202, 243), tb_X12_isExploredOutcome)
def m_X12_widthExplored : pM := (yX12_widthExplored, cX12_widthExplored, 1, (some .int), 0, 0, 12, (3014, 3013, 204, 243), tb_X12_widthExplored)
def m_X12_outcome : pM := (yX12_outcome, cX12_outcome, 3, (some .int), 2, 0, 12, (2995, 2993, 2994, 243), tb_X12_outcome)
def m_X12_outcomeCell : pM := (yX12_outcomeCell, cX12_outcomeCell, 3, (some .int), 2, 0, 12, (3010, 3008, 3009, 243), tb_X12_outcomeCell)
def m_X12_outcomeLocal : pM := (yX12_outcomeLocal, cX12_outcomeLocal, 4, (some .int), 3, 0, 12, (3018, 3016, 3017, 243), tb_X12_outcomeLocal)
def m_X12_layWays : pM := (yX12_layWays, cX12_layWays, 10, none, 0, 0, 12, (3003, 3002, 203, 243), tb_X12_layWays)
def m_X12_layPath : pM := (yX12_layPath, cX12_layPath, 4, none, 1, 0, 12, (3030, 3029, 206, 243), tb_X12_layPath)
def m_X12_isState : pM := (yX12_isState, cX12_isState, 2, (some .boolean), 1, 0, 12, (3026, 3025, 205, 243), tb_X12_isState)
def m_X12_schedule : pM := (yX12_schedule, cX12_schedule, 3, (some .int), 2, 0, 12, (3022, 3020, 3021, 243), tb_X12_schedule)
def m_X12_replay : pM := (yX12_replay, cX12_replay, 3, (some .int), 1, 0, 12, (3034, 3032, 3033, 243), tb_X12_replay)
def m_X12_endsWith : pM := (yX12_endsWith, cX12_endsWith, 7, (some .boolean), 1, 0, 12, (3046, 3045, 208, 243), tb_X12_endsWith)
def m_X12_chances : pM := (yX12_chances, cX12_chances, 9, (some .int), 3, 0, 12, (3038, 3036, 3037, 243), tb_X12_chances)
def m_X12_layOrder : pM := (yX12_layOrder, cX12_layOrder, 7, none, 1, 0, 12, (3042, 3041, 207, 243), tb_X12_layOrder)
def m_X12_race : pM := (yX12_race, cX12_race, 5, (some .int), 2, 0, 12, (3050, 3048, 3049, 243), tb_X12_race)
def m_X12_guard : pM := (yX12_guard, cX12_guard, 2, (some .int), 1, 0, 12, (3054, 3052, 3053, 243), tb_X12_guard)
def m_X12_takeState : pM := (yX12_takeState, cX12_takeState, 2, none, 1, 0, 12, (3066, 3065, 210, 243), tb_X12_takeState)
def m_X12_blockedBy : pM := (yX12_blockedBy, cX12_blockedBy, 4, (some .int), 1, 0, 12, (3074, 3073, 212, 243), tb_X12_blockedBy)
def m_X12_leastInRing : pM := (yX12_leastInRing, cX12_leastInRing, 4, (some .int), 0, 0, 12, (3070, 3069, 211, 243), tb_X12_leastInRing)
def m_X12_isLostEnd : pM := (yX12_isLostEnd, cX12_isLostEnd, 3, (some .boolean), 0, 0, 12, (3078, 3077, 213, 243), tb_X12_isLostEnd)
def m_X12_areCrossed : pM := (yX12_areCrossed, cX12_areCrossed, 6, (some .boolean), 0, 0, 12, (3062, 3061, 209, 243), tb_X12_areCrossed)
def m_X12_ring : pM := (yX12_ring, cX12_ring, 9, (some .int), 1, 0, 12, (3058, 3056, 3057, 243), tb_X12_ring)
def m_X12_order : pM := (yX12_order, cX12_order, 3, (some .int), 2, 0, 12, (3082, 3080, 3081, 243), tb_X12_order)
def m_X12_layFacts : pM := (yX12_layFacts, cX12_layFacts, 7, none, 3, 0, 12, (3090, 3089, 214, 243), tb_X12_layFacts)
def m_X12_leastWith : pM := (yX12_leastWith, cX12_leastWith, 3, (some .int), 1, 0, 12, (3094, 3093, 215, 243), tb_X12_leastWith)
def m_X12_judge : pM := (yX12_judge, cX12_judge, 7, (some .int), 0, 0, 12, (3086, 3084, 3085, 243), tb_X12_judge)
def m_X12_where : pM := (yX12_where, cX12_where, 1, (some .int), 0, 0, 12, (3110, 3108, 3109, 243), tb_X12_where)
def m_X12_lookWays : pM := (yX12_lookWays, cX12_lookWays, 8, (some .int), 2, 0, 12, (3098, 3097, 216, 243), tb_X12_lookWays)
def m_X12_layParts : pM := (yX12_layParts, cX12_layParts, 7, none, 0, 0, 12, (3102, 3101, 217, 243), tb_X12_layParts)
def m_X12_isLasting : pM := (yX12_isLasting, cX12_isLasting, 5, (some .boolean), 2, 0, 12, (3106, 3105, 218, 243), tb_X12_isLasting)
def m_X12_forgetOther : pM := (yX12_forgetOther, cX12_forgetOther, 1, none, 0, 0, 12, (3138, 3137, 224, 243), tb_X12_forgetOther)
def m_X12_rewrite : pM := (yX12_rewrite, cX12_rewrite, 4, (some .int), 2, 0, 12, (3114, 3112, 3113, 243), tb_X12_rewrite)
def m_X12_lineBefore : pM := (yX12_lineBefore, cX12_lineBefore, 4, (some .int), 1, 0, 12, (3122, 3121, 220, 243), tb_X12_lineBefore)
def m_X12_linkBehind : pM := (yX12_linkBehind, cX12_linkBehind, 4, none, 3, 0, 12, (3126, 3125, 221, 243), tb_X12_linkBehind)
def m_X12_exchange : pM := (yX12_exchange, cX12_exchange, 6, (some .boolean), 1, 0, 12, (3118, 3117, 219, 243), tb_X12_exchange)
def m_X12_leaveOut : pM := (yX12_leaveOut, cX12_leaveOut, 2, (some .boolean), 1, 0, 12, (3130, 3129, 222, 243), tb_X12_leaveOut)
def m_X12_copyLoad : pM := (yX12_copyLoad, cX12_copyLoad, 3, (some .boolean), 1, 0, 12, (3134, 3133, 223, 243), tb_X12_copyLoad)
def m_X12_drop : pM := (yX12_drop, cX12_drop, 2, (some .int), 0, 0, 12, (3142, 3140, 3141, 243), tb_X12_drop)
def m_X12_sound : pM := (yX12_sound, cX12_sound, 5, (some .int), 1, 0, 12, (3146, 3144, 3145, 243), tb_X12_sound)
def m_X12_wasThere : pM := (yX12_wasThere, cX12_wasThere, 6, (some .boolean), 1, 0, 12, (3150, 3149, 225, 243), tb_X12_wasThere)
def m_X12_gained : pM := (yX12_gained, cX12_gained, 1, (some .int), 0, 0, 12, (3154, 3152, 3153, 243), tb_X12_gained)
def m_J11_isValidCodePoint_9a6ad : pM := (yJ11_isValidCodePoint_9a6ad, cJ11_isValidCodePoint_9a6ad, 2, (some .boolean), 1, 1, 99, (1039, 1038, 0, 246), tb_J11_isValidCodePoint_9a6ad)
def m_J11_highSurrogate_5068e : pM := (yJ11_highSurrogate_5068e, cJ11_highSurrogate_5068e, 1, (some .char), 1, 1, 99, (1042, 1041, 0, 246), tb_J11_highSurrogate_5068e)
def m_J11_lowSurrogate_5068e : pM := (yJ11_lowSurrogate_5068e, cJ11_lowSurrogate_5068e, 1, (some .char), 1, 1, 99, (1046, 1045, 0, 246), tb_J11_lowSurrogate_5068e)
def m_J9_max_7cf53 : pM := (yJ9_max_7cf53, cJ9_max_7cf53, 2, (some .int), 2, 1, 99, (1006, 1005, 0, 245), tb_J9_max_7cf53)
def m_J9_min_7cf53 : pM := (yJ9_min_7cf53, cJ9_min_7cf53, 2, (some .int), 2, 1, 99, (1009, 1008, 0, 245), tb_J9_min_7cf53)
def m_J0_length_8abf5 : pM := (yJ0_length_8abf5, cJ0_length_8abf5, 1, (some .int), 0, 0, 13, (269, 267, 268, 229), tb_J0_length_8abf5)
def m_J0_charAt_5068e : pM := (yJ0_charAt_5068e, cJ0_charAt_5068e, 2, (some .char), 1, 0, 13, (279, 277, 278, 229), tb_J0_charAt_5068e)
def m_J0_indexOf_0f7a4 : pM := (yJ0_indexOf_0f7a4, cJ0_indexOf_0f7a4, 2, (some .int), 1, 0, 13, (992, 990, 991, 229), tb_J0_indexOf_0f7a4)
def m_J0_indexOf_7cf53 : pM := (yJ0_indexOf_7cf53, cJ0_indexOf_7cf53, 3, (some .int), 2, 0, 13, (996, 994, 995, 229), tb_J0_indexOf_7cf53)
def m_J0_coder_7d493 : pM := (yJ0_coder_7d493, cJ0_coder_7d493, 1, (some .byte), 0, 0, 13, (273, 271, 272, 229), tb_J0_coder_7d493)
def m_J0_isLatin1_aae02 : pM := (yJ0_isLatin1_aae02, cJ0_isLatin1_aae02, 1, (some .boolean), 0, 0, 13, (283, 281, 282, 229), tb_J0_isLatin1_aae02)
def m_J0_checkIndex_df160 : pM := (yJ0_checkIndex_df160, cJ0_checkIndex_df160, 2, none, 2, 1, 13, (289, 288, 0, 229), tb_J0_checkIndex_df160)
def m_J0_checkBoundsBeginEnd_23922 : pM := (yJ0_checkBoundsBeginEnd_23922, cJ0_checkBoundsBeginEnd_23922, 3, none, 3, 1, 13, (1027, 1026, 0, 229), tb_J0_checkBoundsBeginEnd_23922)
def m_J1_charAt_3b067 : pM := (yJ1_charAt_3b067, cJ1_charAt_3b067, 2, (some .char), 2, 1, 99, (286, 285, 0, 230), tb_J1_charAt_3b067)
def m_J1_canEncode_9a6ad : pM := (yJ1_canEncode_9a6ad, cJ1_canEncode_9a6ad, 1, (some .boolean), 1, 1, 99, (1003, 1002, 0, 230), tb_J1_canEncode_9a6ad)
def m_J1_indexOf_4cfef : pM := (yJ1_indexOf_4cfef, cJ1_indexOf_4cfef, 4, (some .int), 4, 1, 99, (1000, 999, 0, 230), tb_J1_indexOf_4cfef)
def m_J1_indexOfChar_4cfef : pM := (yJ1_indexOfChar_4cfef, cJ1_indexOfChar_4cfef, 6, (some .int), 4, 1, 99, (1012, 1011, 0, 230), tb_J1_indexOfChar_4cfef)
def m_J2_getChar_3b067 : pM := (yJ2_getChar_3b067, cJ2_getChar_3b067, 2, (some .char), 2, 1, 99, (307, 306, 0, 232), tb_J2_getChar_3b067)
def m_J2_length_9d52b : pM := (yJ2_length_9d52b, cJ2_length_9d52b, 1, (some .int), 1, 1, 99, (303, 302, 0, 232), tb_J2_length_9d52b)
def m_J2_indexOf_4cfef : pM := (yJ2_indexOf_4cfef, cJ2_indexOf_4cfef, 4, (some .int), 4, 1, 99, (1015, 1014, 0, 232), tb_J2_indexOf_4cfef)
def m_J2_indexOfChar_4cfef : pM := (yJ2_indexOfChar_4cfef, cJ2_indexOfChar_4cfef, 4, (some .int), 4, 1, 99, (1021, 1020, 0, 232), tb_J2_indexOfChar_4cfef)
def m_J2_indexOfCharUnsafe_4cfef : pM := (yJ2_indexOfCharUnsafe_4cfef, cJ2_indexOfCharUnsafe_4cfef, 5, (some .int), 4, 1, 99, (1033, 1032, 0, 232), tb_J2_indexOfCharUnsafe_4cfef)
def m_J2_indexOfSupplementary_4cfef : pM := (yJ2_indexOfSupplementary_4cfef, cJ2_indexOfSupplementary_4cfef, 7, (some .int), 4, 1, 99, (1036, 1035, 0, 232), tb_J2_indexOfSupplementary_4cfef)
def m_J2_charAt_3b067 : pM := (yJ2_charAt_3b067, cJ2_charAt_3b067, 2, (some .char), 2, 1, 99, (297, 296, 0, 232), tb_J2_charAt_3b067)
def m_J2_checkIndex_2214a : pM := (yJ2_checkIndex_2214a, cJ2_checkIndex_2214a, 2, none, 2, 1, 99, (300, 299, 0, 232), tb_J2_checkIndex_2214a)
def m_J2_checkBoundsBeginEnd_d044e : pM := (yJ2_checkBoundsBeginEnd_d044e, cJ2_checkBoundsBeginEnd_d044e, 3, none, 3, 1, 99, (1024, 1023, 0, 232), tb_J2_checkBoundsBeginEnd_d044e)
def m_J7_fill_d0a16 : pM := (yJ7_fill_d0a16, cJ7_fill_d0a16, 5, none, 2, 1, 99, (944, 943, 0, 244), tb_J7_fill_d0a16)
def m_J7_fill_53178 : pM := (yJ7_fill_53178, cJ7_fill_53178, 4, none, 2, 1, 99, (947, 946, 0, 244), tb_J7_fill_53178)
def m_J3_checkIndex_8e157 : pM := (yJ3_checkIndex_8e157, cJ3_checkIndex_8e157, 3, (some .int), 3, 1, 99, (294, 293, 0, 231), tb_J3_checkIndex_8e157)
def m_J3_checkFromToIndex_8c36e : pM := (yJ3_checkFromToIndex_8c36e, cJ3_checkFromToIndex_8c36e, 4, (some .int), 4, 1, 99, (1030, 1029, 0, 231), tb_J3_checkFromToIndex_8c36e)
def msL_0 : List pM := [m_X0_init, m_X0_clear, m_X0_see, m_X0_noteRace, m_X0_findRace, m_X0_noteTaking, m_X0_crossed, m_X0_seeStuck, m_X0_noteStuck, m_X0_leastInRing, m_X1_init, m_X1_arrange, m_X1_gather, m_X1_addCall, m_X1_extend, m_X1_place, m_X1_mayBeNext, m_X1_perform, m_X2_init, m_X2_holds, m_X2_flag, m_X2_isTrue, m_X2_least, m_X2_isWanted, m_X2_findReached, m_X2_comeTo, m_X2_findLacking, m_X2_enter, m_X2_walkFrom, m_X2_follow, m_X2_close, m_X3_init, m_X3_localSlot, m_X3_enterFirst, m_X3_go, m_X3_pickSlots, m_X3_pick, m_X3_makeEven, m_X3_pack, m_X3_unpack]
def msL_1 : List pM := [m_X3_keep, m_X3_comeBack, m_X3_listReady, m_X3_isReady, m_X3_choices, m_X3_needsEmptyQueue, m_X3_hasRoom, m_X3_waitsFor, m_X3_waiters, m_X3_sort, m_X3_locksOf, m_X3_lockAhead, m_X3_take, m_X3_workOut, m_X3_setLocal, m_X3_touch, m_X3_swapIf, m_X3_addTo, m_X3_useLock, m_X3_leave, m_X3_wake, m_X3_takeBack, m_X3_meet, m_X3_begins, m_X3_tell, m_X3_mayLoad, m_X3_loadable, m_X3_store, m_X3_flush, m_X3_write, m_X3_viewed, m_X3_view, m_X3_look, m_X3_lookAtLast, m_X3_learn, m_X4_init, m_X4_put, m_X4_set, m_X4_workOut, m_X4_apply]
def msL_2 : List pM := [m_X5_init, m_X5_clear, m_X5_copy, m_X5_find, m_X5_named, m_X5_isCell, m_X5_isLock, m_X5_isThread, m_X5_localOf, m_X5_isTold, m_X5_hasCell, m_X5_hasLock, m_X5_hasThread, m_X5_hasLocal, m_X5_isVolatile, m_X5_addCell, m_X5_addLock, m_X5_addThread, m_X5_addLocal, m_X5_addLine, m_X5_link, m_X5_layWays, m_X5_behind, m_X5_touches, m_X5_clash, m_X5_change, m_X5_ahead, m_X5_swap, m_X5_leaveOut, m_X5_unlink, m_X5_empty, m_X5_reuse, m_X6_init, m_X6_open, m_X6_blame, m_X6_need, m_X6_skip, m_X6_readProgram, m_X6_isNewName, m_X6_readCell]
def msL_3 : List pM := [m_X6_readLock, m_X6_readThread, m_X6_readBlock, m_X6_mayBegin, m_X6_readStatement, m_X6_hasExp, m_X6_readTarget, m_X6_readLocal, m_X6_localHere, m_X6_readObject, m_X6_needName, m_X6_readInto, m_X6_aimThreads, m_X6_levelOf, m_X6_readLevel, m_X6_readSide, m_X6_countNode, m_X6_beginsOne, m_X6_isStray, m_X6_readOne, m_X6_readNode, m_X6_readLaw, m_X6_readFact, m_X6_readAsked, m_X6_readCellOrLocal, m_X7_init, m_X7_clear, m_X7_placeOf, m_X7_isSame, m_X7_numberOf, m_X7_put, m_X7_refer, m_X7_name, m_X8_init, m_X8_start, m_X8_take, m_X8_putAhead, m_X8_isAhead, m_X8_leadsTo, m_X8_tells]
def msL_4 : List pM := [m_X8_hears, m_X8_touches, m_X8_findRace, m_X9_init, m_X9_codes, m_X9_append, m_X9_cut, m_X9_advance, m_X9_byteAt, m_X9_isLetter, m_X9_isDigit, m_X9_skipBlanks, m_X9_cutOne, m_X9_cutWord, m_X9_cutNumber, m_X9_cutSign, m_X10_init, m_X10_tryAll, m_X10_lookAround, m_X10_quietStep, m_X10_tryStep, m_X10_isWhile, m_X10_noteEnd, m_X10_hasState, m_X10_hasOutcome, m_X10_stateOfOutcome, m_X10_slotOfOutcome, m_X10_stateOf, m_X10_threadOf, m_X10_readyThreads, m_X10_scheduleLength, m_X10_scheduledStep, m_X10_fewestSwitches, m_X10_countSwitches, m_X10_leaveFrom, m_X10_reach, m_X10_countChances, m_X10_drawnOutcome, m_X10_arrange, m_X10_firstReady]
def msL_5 : List pM := [m_X10_lower, m_X11_init, m_X11_feed, m_X11_end, m_X11_program, m_X11_count, m_X11_line, m_X11_begin, m_X11_ready, m_X11_turn, m_X11_thread, m_X11_local, m_X11_cell, m_X11_seen, m_X11_held, m_X11_step, m_X11_before, m_X11_runRace, m_X11_linear, m_X11_ordered, m_X11_explore, m_X11_explored, m_X11_outcome, m_X11_outcomeCell, m_X11_outcomeLocal, m_X11_schedule, m_X11_replay, m_X11_chances, m_X11_race, m_X11_guard, m_X11_ring, m_X11_order, m_X11_judge, m_X11_where, m_X11_rewrite, m_X11_drop, m_X11_sound, m_X11_gained, m_X11_isWay, m_X11_forgetRewritten]
def msL_6 : List pM := [m_X12_init, m_X12_feed, m_X12_end, m_X12_good, m_X12_fail, m_X12_need, m_X12_isLetter, m_X12_isFigure, m_X12_byteAt, m_X12_next, m_X12_beginReading, m_X12_endReading, m_X12_must, m_X12_isReserved, m_X12_isName, m_X12_isWord, m_X12_cellOf, m_X12_lockOf, m_X12_threadOf, m_X12_localOf, m_X12_isTold, m_X12_takeLocal, m_X12_emit, m_X12_countNode, m_X12_rankOf, m_X12_operatorAtHand, m_X12_settle, m_X12_lastRank, m_X12_readExp, m_X12_endPrefixes, m_X12_isFactWord, m_X12_checkWord, m_X12_takeOperand, m_X12_takeFact, m_X12_openBlock, m_X12_newLine, m_X12_takeExp, m_X12_keywordAtHand, m_X12_readStatement, m_X12_readRest]
def msL_7 : List pM := [m_X12_takeExpGood, m_X12_takeCell, m_X12_takeInto, m_X12_readAssignment, m_X12_readBlocks, m_X12_isLocalOfSome, m_X12_checkName, m_X12_readCell, m_X12_readThread, m_X12_program, m_X12_count, m_X12_line, m_X12_layFlow, m_X12_copyProgram, m_X12_truth, m_X12_isValue, m_X12_worked, m_X12_joined, m_X12_factOf, m_X12_widthOf, m_X12_firstState, m_X12_beginThread, m_X12_goTo, m_X12_lineOf, m_X12_viewOf, m_X12_withView, m_X12_joinOf, m_X12_lastWrite, m_X12_write, m_X12_seeLast, m_X12_isEmpty, m_X12_waitingFor, m_X12_choices, m_X12_wouldWrite, m_X12_hasFlush, m_X12_lookReady, m_X12_isReadyStep, m_X12_goWrong, m_X12_takeLock, m_X12_joinView]
def msL_8 : List pM := [m_X12_flush, m_X12_loaded, m_X12_storeNow, m_X12_setLocal, m_X12_doStep, m_X12_atOnce, m_X12_beginOther, m_X12_doLock, m_X12_keepRun, m_X12_takeRun, m_X12_beginRun, m_X12_readyNow, m_X12_begin, m_X12_ready, m_X12_stepRun, m_X12_turn, m_X12_isThread, m_X12_thread, m_X12_local, m_X12_cell, m_X12_seen, m_X12_held, m_X12_step, m_X12_isAtOnce, m_X12_isDirect, m_X12_layBefore, m_X12_before, m_X12_areRacing, m_X12_runRace, m_X12_doesOf, m_X12_layCalls, m_X12_given, m_X12_canBeNext, m_X12_linear, m_X12_ordered, m_X12_hashOfState, m_X12_isStateAt, m_X12_loadState, m_X12_numberOf, m_X12_sortOfEnd]
def msL_9 : List pM := [m_X12_isOutcome, m_X12_outcomeOf, m_X12_isQuiet, m_X12_quietThread, m_X12_findIn, m_X12_tryAll, m_X12_explore, m_X12_explored, m_X12_isExploredOutcome, m_X12_widthExplored, m_X12_outcome, m_X12_outcomeCell, m_X12_outcomeLocal, m_X12_layWays, m_X12_layPath, m_X12_isState, m_X12_schedule, m_X12_replay, m_X12_endsWith, m_X12_chances, m_X12_layOrder, m_X12_race, m_X12_guard, m_X12_takeState, m_X12_blockedBy, m_X12_leastInRing, m_X12_isLostEnd, m_X12_areCrossed, m_X12_ring, m_X12_order, m_X12_layFacts, m_X12_leastWith, m_X12_judge, m_X12_where, m_X12_lookWays, m_X12_layParts, m_X12_isLasting, m_X12_forgetOther, m_X12_rewrite, m_X12_lineBefore]
def msL_10 : List pM := [m_X12_linkBehind, m_X12_exchange, m_X12_leaveOut, m_X12_copyLoad, m_X12_drop, m_X12_sound, m_X12_wasThere, m_X12_gained, m_J11_isValidCodePoint_9a6ad, m_J11_highSurrogate_5068e, m_J11_lowSurrogate_5068e, m_J9_max_7cf53, m_J9_min_7cf53, m_J0_length_8abf5, m_J0_charAt_5068e, m_J0_indexOf_0f7a4, m_J0_indexOf_7cf53, m_J0_coder_7d493, m_J0_isLatin1_aae02, m_J0_checkIndex_df160, m_J0_checkBoundsBeginEnd_23922, m_J1_charAt_3b067, m_J1_canEncode_9a6ad, m_J1_indexOf_4cfef, m_J1_indexOfChar_4cfef, m_J2_getChar_3b067, m_J2_length_9d52b, m_J2_indexOf_4cfef, m_J2_indexOfChar_4cfef, m_J2_indexOfCharUnsafe_4cfef, m_J2_indexOfSupplementary_4cfef, m_J2_charAt_3b067, m_J2_checkIndex_2214a, m_J2_checkBoundsBeginEnd_d044e, m_J7_fill_d0a16, m_J7_fill_53178, m_J3_checkIndex_8e157, m_J3_checkFromToIndex_8c36e]
def msL : List pM := msL_0 ++ (msL_1 ++ (msL_2 ++ (msL_3 ++ (msL_4 ++ (msL_5 ++ (msL_6 ++ (msL_7 ++ (msL_8 ++ (msL_9 ++ (msL_10))))))))))
set_option maxRecDepth 100000 in
theorem ix_X0_init : msL[0]? = some m_X0_init := rfl
set_option maxRecDepth 100000 in
theorem ix_X0_clear : msL[1]? = some m_X0_clear := rfl
set_option maxRecDepth 100000 in
theorem ix_X0_see : msL[2]? = some m_X0_see := rfl
set_option maxRecDepth 100000 in
theorem ix_X0_noteRace : msL[3]? = some m_X0_noteRace := rfl
set_option maxRecDepth 100000 in
theorem ix_X0_findRace : msL[4]? = some m_X0_findRace := rfl
set_option maxRecDepth 100000 in
theorem ix_X0_noteTaking : msL[5]? = some m_X0_noteTaking := rfl
set_option maxRecDepth 100000 in
theorem ix_X0_crossed : msL[6]? = some m_X0_crossed := rfl
set_option maxRecDepth 100000 in
theorem ix_X0_seeStuck : msL[7]? = some m_X0_seeStuck := rfl
set_option maxRecDepth 100000 in
theorem ix_X0_noteStuck : msL[8]? = some m_X0_noteStuck := rfl
set_option maxRecDepth 100000 in
theorem ix_X0_leastInRing : msL[9]? = some m_X0_leastInRing := rfl
set_option maxRecDepth 100000 in
theorem ix_X1_init : msL[10]? = some m_X1_init := rfl
set_option maxRecDepth 100000 in
theorem ix_X1_arrange : msL[11]? = some m_X1_arrange := rfl
set_option maxRecDepth 100000 in
theorem ix_X1_gather : msL[12]? = some m_X1_gather := rfl
set_option maxRecDepth 100000 in
theorem ix_X1_addCall : msL[13]? = some m_X1_addCall := rfl
set_option maxRecDepth 100000 in
theorem ix_X1_extend : msL[14]? = some m_X1_extend := rfl
set_option maxRecDepth 100000 in
theorem ix_X1_place : msL[15]? = some m_X1_place := rfl
set_option maxRecDepth 100000 in
theorem ix_X1_mayBeNext : msL[16]? = some m_X1_mayBeNext := rfl
set_option maxRecDepth 100000 in
theorem ix_X1_perform : msL[17]? = some m_X1_perform := rfl
set_option maxRecDepth 100000 in
theorem ix_X2_init : msL[18]? = some m_X2_init := rfl
set_option maxRecDepth 100000 in
theorem ix_X2_holds : msL[19]? = some m_X2_holds := rfl
set_option maxRecDepth 100000 in
theorem ix_X2_flag : msL[20]? = some m_X2_flag := rfl
set_option maxRecDepth 100000 in
theorem ix_X2_isTrue : msL[21]? = some m_X2_isTrue := rfl
set_option maxRecDepth 100000 in
theorem ix_X2_least : msL[22]? = some m_X2_least := rfl
set_option maxRecDepth 100000 in
theorem ix_X2_isWanted : msL[23]? = some m_X2_isWanted := rfl
set_option maxRecDepth 100000 in
theorem ix_X2_findReached : msL[24]? = some m_X2_findReached := rfl
set_option maxRecDepth 100000 in
theorem ix_X2_comeTo : msL[25]? = some m_X2_comeTo := rfl
set_option maxRecDepth 100000 in
theorem ix_X2_findLacking : msL[26]? = some m_X2_findLacking := rfl
set_option maxRecDepth 100000 in
theorem ix_X2_enter : msL[27]? = some m_X2_enter := rfl
set_option maxRecDepth 100000 in
theorem ix_X2_walkFrom : msL[28]? = some m_X2_walkFrom := rfl
set_option maxRecDepth 100000 in
theorem ix_X2_follow : msL[29]? = some m_X2_follow := rfl
set_option maxRecDepth 100000 in
theorem ix_X2_close : msL[30]? = some m_X2_close := rfl
set_option maxRecDepth 100000 in
theorem ix_X3_init : msL[31]? = some m_X3_init := rfl
set_option maxRecDepth 100000 in
theorem ix_X3_localSlot : msL[32]? = some m_X3_localSlot := rfl
set_option maxRecDepth 100000 in
theorem ix_X3_enterFirst : msL[33]? = some m_X3_enterFirst := rfl
set_option maxRecDepth 100000 in
theorem ix_X3_go : msL[34]? = some m_X3_go := rfl
set_option maxRecDepth 100000 in
theorem ix_X3_pickSlots : msL[35]? = some m_X3_pickSlots := rfl
set_option maxRecDepth 100000 in
theorem ix_X3_pick : msL[36]? = some m_X3_pick := rfl
set_option maxRecDepth 100000 in
theorem ix_X3_makeEven : msL[37]? = some m_X3_makeEven := rfl
set_option maxRecDepth 100000 in
theorem ix_X3_pack : msL[38]? = some m_X3_pack := rfl
set_option maxRecDepth 100000 in
theorem ix_X3_unpack : msL[39]? = some m_X3_unpack := rfl
set_option maxRecDepth 100000 in
theorem ix_X3_keep : msL[40]? = some m_X3_keep := rfl
set_option maxRecDepth 100000 in
theorem ix_X3_comeBack : msL[41]? = some m_X3_comeBack := rfl
set_option maxRecDepth 100000 in
theorem ix_X3_listReady : msL[42]? = some m_X3_listReady := rfl
set_option maxRecDepth 100000 in
theorem ix_X3_isReady : msL[43]? = some m_X3_isReady := rfl
set_option maxRecDepth 100000 in
theorem ix_X3_choices : msL[44]? = some m_X3_choices := rfl
set_option maxRecDepth 100000 in
theorem ix_X3_needsEmptyQueue : msL[45]? = some m_X3_needsEmptyQueue := rfl
set_option maxRecDepth 100000 in
theorem ix_X3_hasRoom : msL[46]? = some m_X3_hasRoom := rfl
set_option maxRecDepth 100000 in
theorem ix_X3_waitsFor : msL[47]? = some m_X3_waitsFor := rfl
set_option maxRecDepth 100000 in
theorem ix_X3_waiters : msL[48]? = some m_X3_waiters := rfl
set_option maxRecDepth 100000 in
theorem ix_X3_sort : msL[49]? = some m_X3_sort := rfl
set_option maxRecDepth 100000 in
theorem ix_X3_locksOf : msL[50]? = some m_X3_locksOf := rfl
set_option maxRecDepth 100000 in
theorem ix_X3_lockAhead : msL[51]? = some m_X3_lockAhead := rfl
set_option maxRecDepth 100000 in
theorem ix_X3_take : msL[52]? = some m_X3_take := rfl
set_option maxRecDepth 100000 in
theorem ix_X3_workOut : msL[53]? = some m_X3_workOut := rfl
set_option maxRecDepth 100000 in
theorem ix_X3_setLocal : msL[54]? = some m_X3_setLocal := rfl
set_option maxRecDepth 100000 in
theorem ix_X3_touch : msL[55]? = some m_X3_touch := rfl
set_option maxRecDepth 100000 in
theorem ix_X3_swapIf : msL[56]? = some m_X3_swapIf := rfl
set_option maxRecDepth 100000 in
theorem ix_X3_addTo : msL[57]? = some m_X3_addTo := rfl
set_option maxRecDepth 100000 in
theorem ix_X3_useLock : msL[58]? = some m_X3_useLock := rfl
set_option maxRecDepth 100000 in
theorem ix_X3_leave : msL[59]? = some m_X3_leave := rfl
set_option maxRecDepth 100000 in
theorem ix_X3_wake : msL[60]? = some m_X3_wake := rfl
set_option maxRecDepth 100000 in
theorem ix_X3_takeBack : msL[61]? = some m_X3_takeBack := rfl
set_option maxRecDepth 100000 in
theorem ix_X3_meet : msL[62]? = some m_X3_meet := rfl
set_option maxRecDepth 100000 in
theorem ix_X3_begins : msL[63]? = some m_X3_begins := rfl
set_option maxRecDepth 100000 in
theorem ix_X3_tell : msL[64]? = some m_X3_tell := rfl
set_option maxRecDepth 100000 in
theorem ix_X3_mayLoad : msL[65]? = some m_X3_mayLoad := rfl
set_option maxRecDepth 100000 in
theorem ix_X3_loadable : msL[66]? = some m_X3_loadable := rfl
set_option maxRecDepth 100000 in
theorem ix_X3_store : msL[67]? = some m_X3_store := rfl
set_option maxRecDepth 100000 in
theorem ix_X3_flush : msL[68]? = some m_X3_flush := rfl
set_option maxRecDepth 100000 in
theorem ix_X3_write : msL[69]? = some m_X3_write := rfl
set_option maxRecDepth 100000 in
theorem ix_X3_viewed : msL[70]? = some m_X3_viewed := rfl
set_option maxRecDepth 100000 in
theorem ix_X3_view : msL[71]? = some m_X3_view := rfl
set_option maxRecDepth 100000 in
theorem ix_X3_look : msL[72]? = some m_X3_look := rfl
set_option maxRecDepth 100000 in
theorem ix_X3_lookAtLast : msL[73]? = some m_X3_lookAtLast := rfl
set_option maxRecDepth 100000 in
theorem ix_X3_learn : msL[74]? = some m_X3_learn := rfl
set_option maxRecDepth 100000 in
theorem ix_X4_init : msL[75]? = some m_X4_init := rfl
set_option maxRecDepth 100000 in
theorem ix_X4_put : msL[76]? = some m_X4_put := rfl
set_option maxRecDepth 100000 in
theorem ix_X4_set : msL[77]? = some m_X4_set := rfl
set_option maxRecDepth 100000 in
theorem ix_X4_workOut : msL[78]? = some m_X4_workOut := rfl
set_option maxRecDepth 100000 in
theorem ix_X4_apply : msL[79]? = some m_X4_apply := rfl
set_option maxRecDepth 100000 in
theorem ix_X5_init : msL[80]? = some m_X5_init := rfl
set_option maxRecDepth 100000 in
theorem ix_X5_clear : msL[81]? = some m_X5_clear := rfl
set_option maxRecDepth 100000 in
theorem ix_X5_copy : msL[82]? = some m_X5_copy := rfl
set_option maxRecDepth 100000 in
theorem ix_X5_find : msL[83]? = some m_X5_find := rfl
set_option maxRecDepth 100000 in
theorem ix_X5_named : msL[84]? = some m_X5_named := rfl
set_option maxRecDepth 100000 in
theorem ix_X5_isCell : msL[85]? = some m_X5_isCell := rfl
set_option maxRecDepth 100000 in
theorem ix_X5_isLock : msL[86]? = some m_X5_isLock := rfl
set_option maxRecDepth 100000 in
theorem ix_X5_isThread : msL[87]? = some m_X5_isThread := rfl
set_option maxRecDepth 100000 in
theorem ix_X5_localOf : msL[88]? = some m_X5_localOf := rfl
set_option maxRecDepth 100000 in
theorem ix_X5_isTold : msL[89]? = some m_X5_isTold := rfl
set_option maxRecDepth 100000 in
theorem ix_X5_hasCell : msL[90]? = some m_X5_hasCell := rfl
set_option maxRecDepth 100000 in
theorem ix_X5_hasLock : msL[91]? = some m_X5_hasLock := rfl
set_option maxRecDepth 100000 in
theorem ix_X5_hasThread : msL[92]? = some m_X5_hasThread := rfl
set_option maxRecDepth 100000 in
theorem ix_X5_hasLocal : msL[93]? = some m_X5_hasLocal := rfl
set_option maxRecDepth 100000 in
theorem ix_X5_isVolatile : msL[94]? = some m_X5_isVolatile := rfl
set_option maxRecDepth 100000 in
theorem ix_X5_addCell : msL[95]? = some m_X5_addCell := rfl
set_option maxRecDepth 100000 in
theorem ix_X5_addLock : msL[96]? = some m_X5_addLock := rfl
set_option maxRecDepth 100000 in
theorem ix_X5_addThread : msL[97]? = some m_X5_addThread := rfl
set_option maxRecDepth 100000 in
theorem ix_X5_addLocal : msL[98]? = some m_X5_addLocal := rfl
set_option maxRecDepth 100000 in
theorem ix_X5_addLine : msL[99]? = some m_X5_addLine := rfl
set_option maxRecDepth 100000 in
theorem ix_X5_link : msL[100]? = some m_X5_link := rfl
set_option maxRecDepth 100000 in
theorem ix_X5_layWays : msL[101]? = some m_X5_layWays := rfl
set_option maxRecDepth 100000 in
theorem ix_X5_behind : msL[102]? = some m_X5_behind := rfl
set_option maxRecDepth 100000 in
theorem ix_X5_touches : msL[103]? = some m_X5_touches := rfl
set_option maxRecDepth 100000 in
theorem ix_X5_clash : msL[104]? = some m_X5_clash := rfl
set_option maxRecDepth 100000 in
theorem ix_X5_change : msL[105]? = some m_X5_change := rfl
set_option maxRecDepth 100000 in
theorem ix_X5_ahead : msL[106]? = some m_X5_ahead := rfl
set_option maxRecDepth 100000 in
theorem ix_X5_swap : msL[107]? = some m_X5_swap := rfl
set_option maxRecDepth 100000 in
theorem ix_X5_leaveOut : msL[108]? = some m_X5_leaveOut := rfl
set_option maxRecDepth 100000 in
theorem ix_X5_unlink : msL[109]? = some m_X5_unlink := rfl
set_option maxRecDepth 100000 in
theorem ix_X5_empty : msL[110]? = some m_X5_empty := rfl
set_option maxRecDepth 100000 in
theorem ix_X5_reuse : msL[111]? = some m_X5_reuse := rfl
set_option maxRecDepth 100000 in
theorem ix_X6_init : msL[112]? = some m_X6_init := rfl
set_option maxRecDepth 100000 in
theorem ix_X6_open : msL[113]? = some m_X6_open := rfl
set_option maxRecDepth 100000 in
theorem ix_X6_blame : msL[114]? = some m_X6_blame := rfl
set_option maxRecDepth 100000 in
theorem ix_X6_need : msL[115]? = some m_X6_need := rfl
set_option maxRecDepth 100000 in
theorem ix_X6_skip : msL[116]? = some m_X6_skip := rfl
set_option maxRecDepth 100000 in
theorem ix_X6_readProgram : msL[117]? = some m_X6_readProgram := rfl
set_option maxRecDepth 100000 in
theorem ix_X6_isNewName : msL[118]? = some m_X6_isNewName := rfl
set_option maxRecDepth 100000 in
theorem ix_X6_readCell : msL[119]? = some m_X6_readCell := rfl
set_option maxRecDepth 100000 in
theorem ix_X6_readLock : msL[120]? = some m_X6_readLock := rfl
set_option maxRecDepth 100000 in
theorem ix_X6_readThread : msL[121]? = some m_X6_readThread := rfl
set_option maxRecDepth 100000 in
theorem ix_X6_readBlock : msL[122]? = some m_X6_readBlock := rfl
set_option maxRecDepth 100000 in
theorem ix_X6_mayBegin : msL[123]? = some m_X6_mayBegin := rfl
set_option maxRecDepth 100000 in
theorem ix_X6_readStatement : msL[124]? = some m_X6_readStatement := rfl
set_option maxRecDepth 100000 in
theorem ix_X6_hasExp : msL[125]? = some m_X6_hasExp := rfl
set_option maxRecDepth 100000 in
theorem ix_X6_readTarget : msL[126]? = some m_X6_readTarget := rfl
set_option maxRecDepth 100000 in
theorem ix_X6_readLocal : msL[127]? = some m_X6_readLocal := rfl
set_option maxRecDepth 100000 in
theorem ix_X6_localHere : msL[128]? = some m_X6_localHere := rfl
set_option maxRecDepth 100000 in
theorem ix_X6_readObject : msL[129]? = some m_X6_readObject := rfl
set_option maxRecDepth 100000 in
theorem ix_X6_needName : msL[130]? = some m_X6_needName := rfl
set_option maxRecDepth 100000 in
theorem ix_X6_readInto : msL[131]? = some m_X6_readInto := rfl
set_option maxRecDepth 100000 in
theorem ix_X6_aimThreads : msL[132]? = some m_X6_aimThreads := rfl
set_option maxRecDepth 100000 in
theorem ix_X6_levelOf : msL[133]? = some m_X6_levelOf := rfl
set_option maxRecDepth 100000 in
theorem ix_X6_readLevel : msL[134]? = some m_X6_readLevel := rfl
set_option maxRecDepth 100000 in
theorem ix_X6_readSide : msL[135]? = some m_X6_readSide := rfl
set_option maxRecDepth 100000 in
theorem ix_X6_countNode : msL[136]? = some m_X6_countNode := rfl
set_option maxRecDepth 100000 in
theorem ix_X6_beginsOne : msL[137]? = some m_X6_beginsOne := rfl
set_option maxRecDepth 100000 in
theorem ix_X6_isStray : msL[138]? = some m_X6_isStray := rfl
set_option maxRecDepth 100000 in
theorem ix_X6_readOne : msL[139]? = some m_X6_readOne := rfl
set_option maxRecDepth 100000 in
theorem ix_X6_readNode : msL[140]? = some m_X6_readNode := rfl
set_option maxRecDepth 100000 in
theorem ix_X6_readLaw : msL[141]? = some m_X6_readLaw := rfl
set_option maxRecDepth 100000 in
theorem ix_X6_readFact : msL[142]? = some m_X6_readFact := rfl
set_option maxRecDepth 100000 in
theorem ix_X6_readAsked : msL[143]? = some m_X6_readAsked := rfl
set_option maxRecDepth 100000 in
theorem ix_X6_readCellOrLocal : msL[144]? = some m_X6_readCellOrLocal := rfl
set_option maxRecDepth 100000 in
theorem ix_X7_init : msL[145]? = some m_X7_init := rfl
set_option maxRecDepth 100000 in
theorem ix_X7_clear : msL[146]? = some m_X7_clear := rfl
set_option maxRecDepth 100000 in
theorem ix_X7_placeOf : msL[147]? = some m_X7_placeOf := rfl
set_option maxRecDepth 100000 in
theorem ix_X7_isSame : msL[148]? = some m_X7_isSame := rfl
set_option maxRecDepth 100000 in
theorem ix_X7_numberOf : msL[149]? = some m_X7_numberOf := rfl
set_option maxRecDepth 100000 in
theorem ix_X7_put : msL[150]? = some m_X7_put := rfl
set_option maxRecDepth 100000 in
theorem ix_X7_refer : msL[151]? = some m_X7_refer := rfl
set_option maxRecDepth 100000 in
theorem ix_X7_name : msL[152]? = some m_X7_name := rfl
set_option maxRecDepth 100000 in
theorem ix_X8_init : msL[153]? = some m_X8_init := rfl
set_option maxRecDepth 100000 in
theorem ix_X8_start : msL[154]? = some m_X8_start := rfl
set_option maxRecDepth 100000 in
theorem ix_X8_take : msL[155]? = some m_X8_take := rfl
set_option maxRecDepth 100000 in
theorem ix_X8_putAhead : msL[156]? = some m_X8_putAhead := rfl
set_option maxRecDepth 100000 in
theorem ix_X8_isAhead : msL[157]? = some m_X8_isAhead := rfl
set_option maxRecDepth 100000 in
theorem ix_X8_leadsTo : msL[158]? = some m_X8_leadsTo := rfl
set_option maxRecDepth 100000 in
theorem ix_X8_tells : msL[159]? = some m_X8_tells := rfl
set_option maxRecDepth 100000 in
theorem ix_X8_hears : msL[160]? = some m_X8_hears := rfl
set_option maxRecDepth 100000 in
theorem ix_X8_touches : msL[161]? = some m_X8_touches := rfl
set_option maxRecDepth 100000 in
theorem ix_X8_findRace : msL[162]? = some m_X8_findRace := rfl
set_option maxRecDepth 100000 in
theorem ix_X9_init : msL[163]? = some m_X9_init := rfl
set_option maxRecDepth 100000 in
theorem ix_X9_codes : msL[164]? = some m_X9_codes := rfl
set_option maxRecDepth 100000 in
theorem ix_X9_append : msL[165]? = some m_X9_append := rfl
set_option maxRecDepth 100000 in
theorem ix_X9_cut : msL[166]? = some m_X9_cut := rfl
set_option maxRecDepth 100000 in
theorem ix_X9_advance : msL[167]? = some m_X9_advance := rfl
set_option maxRecDepth 100000 in
theorem ix_X9_byteAt : msL[168]? = some m_X9_byteAt := rfl
set_option maxRecDepth 100000 in
theorem ix_X9_isLetter : msL[169]? = some m_X9_isLetter := rfl
set_option maxRecDepth 100000 in
theorem ix_X9_isDigit : msL[170]? = some m_X9_isDigit := rfl
set_option maxRecDepth 100000 in
theorem ix_X9_skipBlanks : msL[171]? = some m_X9_skipBlanks := rfl
set_option maxRecDepth 100000 in
theorem ix_X9_cutOne : msL[172]? = some m_X9_cutOne := rfl
set_option maxRecDepth 100000 in
theorem ix_X9_cutWord : msL[173]? = some m_X9_cutWord := rfl
set_option maxRecDepth 100000 in
theorem ix_X9_cutNumber : msL[174]? = some m_X9_cutNumber := rfl
set_option maxRecDepth 100000 in
theorem ix_X9_cutSign : msL[175]? = some m_X9_cutSign := rfl
set_option maxRecDepth 100000 in
theorem ix_X10_init : msL[176]? = some m_X10_init := rfl
set_option maxRecDepth 100000 in
theorem ix_X10_tryAll : msL[177]? = some m_X10_tryAll := rfl
set_option maxRecDepth 100000 in
theorem ix_X10_lookAround : msL[178]? = some m_X10_lookAround := rfl
set_option maxRecDepth 100000 in
theorem ix_X10_quietStep : msL[179]? = some m_X10_quietStep := rfl
set_option maxRecDepth 100000 in
theorem ix_X10_tryStep : msL[180]? = some m_X10_tryStep := rfl
set_option maxRecDepth 100000 in
theorem ix_X10_isWhile : msL[181]? = some m_X10_isWhile := rfl
set_option maxRecDepth 100000 in
theorem ix_X10_noteEnd : msL[182]? = some m_X10_noteEnd := rfl
set_option maxRecDepth 100000 in
theorem ix_X10_hasState : msL[183]? = some m_X10_hasState := rfl
set_option maxRecDepth 100000 in
theorem ix_X10_hasOutcome : msL[184]? = some m_X10_hasOutcome := rfl
set_option maxRecDepth 100000 in
theorem ix_X10_stateOfOutcome : msL[185]? = some m_X10_stateOfOutcome := rfl
set_option maxRecDepth 100000 in
theorem ix_X10_slotOfOutcome : msL[186]? = some m_X10_slotOfOutcome := rfl
set_option maxRecDepth 100000 in
theorem ix_X10_stateOf : msL[187]? = some m_X10_stateOf := rfl
set_option maxRecDepth 100000 in
theorem ix_X10_threadOf : msL[188]? = some m_X10_threadOf := rfl
set_option maxRecDepth 100000 in
theorem ix_X10_readyThreads : msL[189]? = some m_X10_readyThreads := rfl
set_option maxRecDepth 100000 in
theorem ix_X10_scheduleLength : msL[190]? = some m_X10_scheduleLength := rfl
set_option maxRecDepth 100000 in
theorem ix_X10_scheduledStep : msL[191]? = some m_X10_scheduledStep := rfl
set_option maxRecDepth 100000 in
theorem ix_X10_fewestSwitches : msL[192]? = some m_X10_fewestSwitches := rfl
set_option maxRecDepth 100000 in
theorem ix_X10_countSwitches : msL[193]? = some m_X10_countSwitches := rfl
set_option maxRecDepth 100000 in
theorem ix_X10_leaveFrom : msL[194]? = some m_X10_leaveFrom := rfl
set_option maxRecDepth 100000 in
theorem ix_X10_reach : msL[195]? = some m_X10_reach := rfl
set_option maxRecDepth 100000 in
theorem ix_X10_countChances : msL[196]? = some m_X10_countChances := rfl
set_option maxRecDepth 100000 in
theorem ix_X10_drawnOutcome : msL[197]? = some m_X10_drawnOutcome := rfl
set_option maxRecDepth 100000 in
theorem ix_X10_arrange : msL[198]? = some m_X10_arrange := rfl
set_option maxRecDepth 100000 in
theorem ix_X10_firstReady : msL[199]? = some m_X10_firstReady := rfl
set_option maxRecDepth 100000 in
theorem ix_X10_lower : msL[200]? = some m_X10_lower := rfl
set_option maxRecDepth 100000 in
theorem ix_X11_init : msL[201]? = some m_X11_init := rfl
set_option maxRecDepth 100000 in
theorem ix_X11_feed : msL[202]? = some m_X11_feed := rfl
set_option maxRecDepth 100000 in
theorem ix_X11_end : msL[203]? = some m_X11_end := rfl
set_option maxRecDepth 100000 in
theorem ix_X11_program : msL[204]? = some m_X11_program := rfl
set_option maxRecDepth 100000 in
theorem ix_X11_count : msL[205]? = some m_X11_count := rfl
set_option maxRecDepth 100000 in
theorem ix_X11_line : msL[206]? = some m_X11_line := rfl
set_option maxRecDepth 100000 in
theorem ix_X11_begin : msL[207]? = some m_X11_begin := rfl
set_option maxRecDepth 100000 in
theorem ix_X11_ready : msL[208]? = some m_X11_ready := rfl
set_option maxRecDepth 100000 in
theorem ix_X11_turn : msL[209]? = some m_X11_turn := rfl
set_option maxRecDepth 100000 in
theorem ix_X11_thread : msL[210]? = some m_X11_thread := rfl
set_option maxRecDepth 100000 in
theorem ix_X11_local : msL[211]? = some m_X11_local := rfl
set_option maxRecDepth 100000 in
theorem ix_X11_cell : msL[212]? = some m_X11_cell := rfl
set_option maxRecDepth 100000 in
theorem ix_X11_seen : msL[213]? = some m_X11_seen := rfl
set_option maxRecDepth 100000 in
theorem ix_X11_held : msL[214]? = some m_X11_held := rfl
set_option maxRecDepth 100000 in
theorem ix_X11_step : msL[215]? = some m_X11_step := rfl
set_option maxRecDepth 100000 in
theorem ix_X11_before : msL[216]? = some m_X11_before := rfl
set_option maxRecDepth 100000 in
theorem ix_X11_runRace : msL[217]? = some m_X11_runRace := rfl
set_option maxRecDepth 100000 in
theorem ix_X11_linear : msL[218]? = some m_X11_linear := rfl
set_option maxRecDepth 100000 in
theorem ix_X11_ordered : msL[219]? = some m_X11_ordered := rfl
set_option maxRecDepth 100000 in
theorem ix_X11_explore : msL[220]? = some m_X11_explore := rfl
set_option maxRecDepth 100000 in
theorem ix_X11_explored : msL[221]? = some m_X11_explored := rfl
set_option maxRecDepth 100000 in
theorem ix_X11_outcome : msL[222]? = some m_X11_outcome := rfl
set_option maxRecDepth 100000 in
theorem ix_X11_outcomeCell : msL[223]? = some m_X11_outcomeCell := rfl
set_option maxRecDepth 100000 in
theorem ix_X11_outcomeLocal : msL[224]? = some m_X11_outcomeLocal := rfl
set_option maxRecDepth 100000 in
theorem ix_X11_schedule : msL[225]? = some m_X11_schedule := rfl
set_option maxRecDepth 100000 in
theorem ix_X11_replay : msL[226]? = some m_X11_replay := rfl
set_option maxRecDepth 100000 in
theorem ix_X11_chances : msL[227]? = some m_X11_chances := rfl
set_option maxRecDepth 100000 in
theorem ix_X11_race : msL[228]? = some m_X11_race := rfl
set_option maxRecDepth 100000 in
theorem ix_X11_guard : msL[229]? = some m_X11_guard := rfl
set_option maxRecDepth 100000 in
theorem ix_X11_ring : msL[230]? = some m_X11_ring := rfl
set_option maxRecDepth 100000 in
theorem ix_X11_order : msL[231]? = some m_X11_order := rfl
set_option maxRecDepth 100000 in
theorem ix_X11_judge : msL[232]? = some m_X11_judge := rfl
set_option maxRecDepth 100000 in
theorem ix_X11_where : msL[233]? = some m_X11_where := rfl
set_option maxRecDepth 100000 in
theorem ix_X11_rewrite : msL[234]? = some m_X11_rewrite := rfl
set_option maxRecDepth 100000 in
theorem ix_X11_drop : msL[235]? = some m_X11_drop := rfl
set_option maxRecDepth 100000 in
theorem ix_X11_sound : msL[236]? = some m_X11_sound := rfl
set_option maxRecDepth 100000 in
theorem ix_X11_gained : msL[237]? = some m_X11_gained := rfl
set_option maxRecDepth 100000 in
theorem ix_X11_isWay : msL[238]? = some m_X11_isWay := rfl
set_option maxRecDepth 100000 in
theorem ix_X11_forgetRewritten : msL[239]? = some m_X11_forgetRewritten := rfl
set_option maxRecDepth 100000 in
theorem ix_X12_init : msL[240]? = some m_X12_init := rfl
set_option maxRecDepth 100000 in
theorem ix_X12_feed : msL[241]? = some m_X12_feed := rfl
set_option maxRecDepth 100000 in
theorem ix_X12_end : msL[242]? = some m_X12_end := rfl
set_option maxRecDepth 100000 in
theorem ix_X12_good : msL[243]? = some m_X12_good := rfl
set_option maxRecDepth 100000 in
theorem ix_X12_fail : msL[244]? = some m_X12_fail := rfl
set_option maxRecDepth 100000 in
theorem ix_X12_need : msL[245]? = some m_X12_need := rfl
set_option maxRecDepth 100000 in
theorem ix_X12_isLetter : msL[246]? = some m_X12_isLetter := rfl
set_option maxRecDepth 100000 in
theorem ix_X12_isFigure : msL[247]? = some m_X12_isFigure := rfl
set_option maxRecDepth 100000 in
theorem ix_X12_byteAt : msL[248]? = some m_X12_byteAt := rfl
set_option maxRecDepth 100000 in
theorem ix_X12_next : msL[249]? = some m_X12_next := rfl
set_option maxRecDepth 100000 in
theorem ix_X12_beginReading : msL[250]? = some m_X12_beginReading := rfl
set_option maxRecDepth 100000 in
theorem ix_X12_endReading : msL[251]? = some m_X12_endReading := rfl
set_option maxRecDepth 100000 in
theorem ix_X12_must : msL[252]? = some m_X12_must := rfl
set_option maxRecDepth 100000 in
theorem ix_X12_isReserved : msL[253]? = some m_X12_isReserved := rfl
set_option maxRecDepth 100000 in
theorem ix_X12_isName : msL[254]? = some m_X12_isName := rfl
set_option maxRecDepth 100000 in
theorem ix_X12_isWord : msL[255]? = some m_X12_isWord := rfl
set_option maxRecDepth 100000 in
theorem ix_X12_cellOf : msL[256]? = some m_X12_cellOf := rfl
set_option maxRecDepth 100000 in
theorem ix_X12_lockOf : msL[257]? = some m_X12_lockOf := rfl
set_option maxRecDepth 100000 in
theorem ix_X12_threadOf : msL[258]? = some m_X12_threadOf := rfl
set_option maxRecDepth 100000 in
theorem ix_X12_localOf : msL[259]? = some m_X12_localOf := rfl
set_option maxRecDepth 100000 in
theorem ix_X12_isTold : msL[260]? = some m_X12_isTold := rfl
set_option maxRecDepth 100000 in
theorem ix_X12_takeLocal : msL[261]? = some m_X12_takeLocal := rfl
set_option maxRecDepth 100000 in
theorem ix_X12_emit : msL[262]? = some m_X12_emit := rfl
set_option maxRecDepth 100000 in
theorem ix_X12_countNode : msL[263]? = some m_X12_countNode := rfl
set_option maxRecDepth 100000 in
theorem ix_X12_rankOf : msL[264]? = some m_X12_rankOf := rfl
set_option maxRecDepth 100000 in
theorem ix_X12_operatorAtHand : msL[265]? = some m_X12_operatorAtHand := rfl
set_option maxRecDepth 100000 in
theorem ix_X12_settle : msL[266]? = some m_X12_settle := rfl
set_option maxRecDepth 100000 in
theorem ix_X12_lastRank : msL[267]? = some m_X12_lastRank := rfl
set_option maxRecDepth 100000 in
theorem ix_X12_readExp : msL[268]? = some m_X12_readExp := rfl
set_option maxRecDepth 100000 in
theorem ix_X12_endPrefixes : msL[269]? = some m_X12_endPrefixes := rfl
set_option maxRecDepth 100000 in
theorem ix_X12_isFactWord : msL[270]? = some m_X12_isFactWord := rfl
set_option maxRecDepth 100000 in
theorem ix_X12_checkWord : msL[271]? = some m_X12_checkWord := rfl
set_option maxRecDepth 100000 in
theorem ix_X12_takeOperand : msL[272]? = some m_X12_takeOperand := rfl
set_option maxRecDepth 100000 in
theorem ix_X12_takeFact : msL[273]? = some m_X12_takeFact := rfl
set_option maxRecDepth 100000 in
theorem ix_X12_openBlock : msL[274]? = some m_X12_openBlock := rfl
set_option maxRecDepth 100000 in
theorem ix_X12_newLine : msL[275]? = some m_X12_newLine := rfl
set_option maxRecDepth 100000 in
theorem ix_X12_takeExp : msL[276]? = some m_X12_takeExp := rfl
set_option maxRecDepth 100000 in
theorem ix_X12_keywordAtHand : msL[277]? = some m_X12_keywordAtHand := rfl
set_option maxRecDepth 100000 in
theorem ix_X12_readStatement : msL[278]? = some m_X12_readStatement := rfl
set_option maxRecDepth 100000 in
theorem ix_X12_readRest : msL[279]? = some m_X12_readRest := rfl
set_option maxRecDepth 100000 in
theorem ix_X12_takeExpGood : msL[280]? = some m_X12_takeExpGood := rfl
set_option maxRecDepth 100000 in
theorem ix_X12_takeCell : msL[281]? = some m_X12_takeCell := rfl
set_option maxRecDepth 100000 in
theorem ix_X12_takeInto : msL[282]? = some m_X12_takeInto := rfl
set_option maxRecDepth 100000 in
theorem ix_X12_readAssignment : msL[283]? = some m_X12_readAssignment := rfl
set_option maxRecDepth 100000 in
theorem ix_X12_readBlocks : msL[284]? = some m_X12_readBlocks := rfl
set_option maxRecDepth 100000 in
theorem ix_X12_isLocalOfSome : msL[285]? = some m_X12_isLocalOfSome := rfl
set_option maxRecDepth 100000 in
theorem ix_X12_checkName : msL[286]? = some m_X12_checkName := rfl
set_option maxRecDepth 100000 in
theorem ix_X12_readCell : msL[287]? = some m_X12_readCell := rfl
set_option maxRecDepth 100000 in
theorem ix_X12_readThread : msL[288]? = some m_X12_readThread := rfl
set_option maxRecDepth 100000 in
theorem ix_X12_program : msL[289]? = some m_X12_program := rfl
set_option maxRecDepth 100000 in
theorem ix_X12_count : msL[290]? = some m_X12_count := rfl
set_option maxRecDepth 100000 in
theorem ix_X12_line : msL[291]? = some m_X12_line := rfl
set_option maxRecDepth 100000 in
theorem ix_X12_layFlow : msL[292]? = some m_X12_layFlow := rfl
set_option maxRecDepth 100000 in
theorem ix_X12_copyProgram : msL[293]? = some m_X12_copyProgram := rfl
set_option maxRecDepth 100000 in
theorem ix_X12_truth : msL[294]? = some m_X12_truth := rfl
set_option maxRecDepth 100000 in
theorem ix_X12_isValue : msL[295]? = some m_X12_isValue := rfl
set_option maxRecDepth 100000 in
theorem ix_X12_worked : msL[296]? = some m_X12_worked := rfl
set_option maxRecDepth 100000 in
theorem ix_X12_joined : msL[297]? = some m_X12_joined := rfl
set_option maxRecDepth 100000 in
theorem ix_X12_factOf : msL[298]? = some m_X12_factOf := rfl
set_option maxRecDepth 100000 in
theorem ix_X12_widthOf : msL[299]? = some m_X12_widthOf := rfl
set_option maxRecDepth 100000 in
theorem ix_X12_firstState : msL[300]? = some m_X12_firstState := rfl
set_option maxRecDepth 100000 in
theorem ix_X12_beginThread : msL[301]? = some m_X12_beginThread := rfl
set_option maxRecDepth 100000 in
theorem ix_X12_goTo : msL[302]? = some m_X12_goTo := rfl
set_option maxRecDepth 100000 in
theorem ix_X12_lineOf : msL[303]? = some m_X12_lineOf := rfl
set_option maxRecDepth 100000 in
theorem ix_X12_viewOf : msL[304]? = some m_X12_viewOf := rfl
set_option maxRecDepth 100000 in
theorem ix_X12_withView : msL[305]? = some m_X12_withView := rfl
set_option maxRecDepth 100000 in
theorem ix_X12_joinOf : msL[306]? = some m_X12_joinOf := rfl
set_option maxRecDepth 100000 in
theorem ix_X12_lastWrite : msL[307]? = some m_X12_lastWrite := rfl
set_option maxRecDepth 100000 in
theorem ix_X12_write : msL[308]? = some m_X12_write := rfl
set_option maxRecDepth 100000 in
theorem ix_X12_seeLast : msL[309]? = some m_X12_seeLast := rfl
set_option maxRecDepth 100000 in
theorem ix_X12_isEmpty : msL[310]? = some m_X12_isEmpty := rfl
set_option maxRecDepth 100000 in
theorem ix_X12_waitingFor : msL[311]? = some m_X12_waitingFor := rfl
set_option maxRecDepth 100000 in
theorem ix_X12_choices : msL[312]? = some m_X12_choices := rfl
set_option maxRecDepth 100000 in
theorem ix_X12_wouldWrite : msL[313]? = some m_X12_wouldWrite := rfl
set_option maxRecDepth 100000 in
theorem ix_X12_hasFlush : msL[314]? = some m_X12_hasFlush := rfl
set_option maxRecDepth 100000 in
theorem ix_X12_lookReady : msL[315]? = some m_X12_lookReady := rfl
set_option maxRecDepth 100000 in
theorem ix_X12_isReadyStep : msL[316]? = some m_X12_isReadyStep := rfl
set_option maxRecDepth 100000 in
theorem ix_X12_goWrong : msL[317]? = some m_X12_goWrong := rfl
set_option maxRecDepth 100000 in
theorem ix_X12_takeLock : msL[318]? = some m_X12_takeLock := rfl
set_option maxRecDepth 100000 in
theorem ix_X12_joinView : msL[319]? = some m_X12_joinView := rfl
set_option maxRecDepth 100000 in
theorem ix_X12_flush : msL[320]? = some m_X12_flush := rfl
set_option maxRecDepth 100000 in
theorem ix_X12_loaded : msL[321]? = some m_X12_loaded := rfl
set_option maxRecDepth 100000 in
theorem ix_X12_storeNow : msL[322]? = some m_X12_storeNow := rfl
set_option maxRecDepth 100000 in
theorem ix_X12_setLocal : msL[323]? = some m_X12_setLocal := rfl
set_option maxRecDepth 100000 in
theorem ix_X12_doStep : msL[324]? = some m_X12_doStep := rfl
set_option maxRecDepth 100000 in
theorem ix_X12_atOnce : msL[325]? = some m_X12_atOnce := rfl
set_option maxRecDepth 100000 in
theorem ix_X12_beginOther : msL[326]? = some m_X12_beginOther := rfl
set_option maxRecDepth 100000 in
theorem ix_X12_doLock : msL[327]? = some m_X12_doLock := rfl
set_option maxRecDepth 100000 in
theorem ix_X12_keepRun : msL[328]? = some m_X12_keepRun := rfl
set_option maxRecDepth 100000 in
theorem ix_X12_takeRun : msL[329]? = some m_X12_takeRun := rfl
set_option maxRecDepth 100000 in
theorem ix_X12_beginRun : msL[330]? = some m_X12_beginRun := rfl
set_option maxRecDepth 100000 in
theorem ix_X12_readyNow : msL[331]? = some m_X12_readyNow := rfl
set_option maxRecDepth 100000 in
theorem ix_X12_begin : msL[332]? = some m_X12_begin := rfl
set_option maxRecDepth 100000 in
theorem ix_X12_ready : msL[333]? = some m_X12_ready := rfl
set_option maxRecDepth 100000 in
theorem ix_X12_stepRun : msL[334]? = some m_X12_stepRun := rfl
set_option maxRecDepth 100000 in
theorem ix_X12_turn : msL[335]? = some m_X12_turn := rfl
set_option maxRecDepth 100000 in
theorem ix_X12_isThread : msL[336]? = some m_X12_isThread := rfl
set_option maxRecDepth 100000 in
theorem ix_X12_thread : msL[337]? = some m_X12_thread := rfl
set_option maxRecDepth 100000 in
theorem ix_X12_local : msL[338]? = some m_X12_local := rfl
set_option maxRecDepth 100000 in
theorem ix_X12_cell : msL[339]? = some m_X12_cell := rfl
set_option maxRecDepth 100000 in
theorem ix_X12_seen : msL[340]? = some m_X12_seen := rfl
set_option maxRecDepth 100000 in
theorem ix_X12_held : msL[341]? = some m_X12_held := rfl
set_option maxRecDepth 100000 in
theorem ix_X12_step : msL[342]? = some m_X12_step := rfl
set_option maxRecDepth 100000 in
theorem ix_X12_isAtOnce : msL[343]? = some m_X12_isAtOnce := rfl
set_option maxRecDepth 100000 in
theorem ix_X12_isDirect : msL[344]? = some m_X12_isDirect := rfl
set_option maxRecDepth 100000 in
theorem ix_X12_layBefore : msL[345]? = some m_X12_layBefore := rfl
set_option maxRecDepth 100000 in
theorem ix_X12_before : msL[346]? = some m_X12_before := rfl
set_option maxRecDepth 100000 in
theorem ix_X12_areRacing : msL[347]? = some m_X12_areRacing := rfl
set_option maxRecDepth 100000 in
theorem ix_X12_runRace : msL[348]? = some m_X12_runRace := rfl
set_option maxRecDepth 100000 in
theorem ix_X12_doesOf : msL[349]? = some m_X12_doesOf := rfl
set_option maxRecDepth 100000 in
theorem ix_X12_layCalls : msL[350]? = some m_X12_layCalls := rfl
set_option maxRecDepth 100000 in
theorem ix_X12_given : msL[351]? = some m_X12_given := rfl
set_option maxRecDepth 100000 in
theorem ix_X12_canBeNext : msL[352]? = some m_X12_canBeNext := rfl
set_option maxRecDepth 100000 in
theorem ix_X12_linear : msL[353]? = some m_X12_linear := rfl
set_option maxRecDepth 100000 in
theorem ix_X12_ordered : msL[354]? = some m_X12_ordered := rfl
set_option maxRecDepth 100000 in
theorem ix_X12_hashOfState : msL[355]? = some m_X12_hashOfState := rfl
set_option maxRecDepth 100000 in
theorem ix_X12_isStateAt : msL[356]? = some m_X12_isStateAt := rfl
set_option maxRecDepth 100000 in
theorem ix_X12_loadState : msL[357]? = some m_X12_loadState := rfl
set_option maxRecDepth 100000 in
theorem ix_X12_numberOf : msL[358]? = some m_X12_numberOf := rfl
set_option maxRecDepth 100000 in
theorem ix_X12_sortOfEnd : msL[359]? = some m_X12_sortOfEnd := rfl
set_option maxRecDepth 100000 in
theorem ix_X12_isOutcome : msL[360]? = some m_X12_isOutcome := rfl
set_option maxRecDepth 100000 in
theorem ix_X12_outcomeOf : msL[361]? = some m_X12_outcomeOf := rfl
set_option maxRecDepth 100000 in
theorem ix_X12_isQuiet : msL[362]? = some m_X12_isQuiet := rfl
set_option maxRecDepth 100000 in
theorem ix_X12_quietThread : msL[363]? = some m_X12_quietThread := rfl
set_option maxRecDepth 100000 in
theorem ix_X12_findIn : msL[364]? = some m_X12_findIn := rfl
set_option maxRecDepth 100000 in
theorem ix_X12_tryAll : msL[365]? = some m_X12_tryAll := rfl
set_option maxRecDepth 100000 in
theorem ix_X12_explore : msL[366]? = some m_X12_explore := rfl
set_option maxRecDepth 100000 in
theorem ix_X12_explored : msL[367]? = some m_X12_explored := rfl
set_option maxRecDepth 100000 in
theorem ix_X12_isExploredOutcome : msL[368]? = some m_X12_isExploredOutcome := rfl
set_option maxRecDepth 100000 in
theorem ix_X12_widthExplored : msL[369]? = some m_X12_widthExplored := rfl
set_option maxRecDepth 100000 in
theorem ix_X12_outcome : msL[370]? = some m_X12_outcome := rfl
set_option maxRecDepth 100000 in
theorem ix_X12_outcomeCell : msL[371]? = some m_X12_outcomeCell := rfl
set_option maxRecDepth 100000 in
theorem ix_X12_outcomeLocal : msL[372]? = some m_X12_outcomeLocal := rfl
set_option maxRecDepth 100000 in
theorem ix_X12_layWays : msL[373]? = some m_X12_layWays := rfl
set_option maxRecDepth 100000 in
theorem ix_X12_layPath : msL[374]? = some m_X12_layPath := rfl
set_option maxRecDepth 100000 in
theorem ix_X12_isState : msL[375]? = some m_X12_isState := rfl
set_option maxRecDepth 100000 in
theorem ix_X12_schedule : msL[376]? = some m_X12_schedule := rfl
set_option maxRecDepth 100000 in
theorem ix_X12_replay : msL[377]? = some m_X12_replay := rfl
set_option maxRecDepth 100000 in
theorem ix_X12_endsWith : msL[378]? = some m_X12_endsWith := rfl
set_option maxRecDepth 100000 in
theorem ix_X12_chances : msL[379]? = some m_X12_chances := rfl
set_option maxRecDepth 100000 in
theorem ix_X12_layOrder : msL[380]? = some m_X12_layOrder := rfl
set_option maxRecDepth 100000 in
theorem ix_X12_race : msL[381]? = some m_X12_race := rfl
set_option maxRecDepth 100000 in
theorem ix_X12_guard : msL[382]? = some m_X12_guard := rfl
set_option maxRecDepth 100000 in
theorem ix_X12_takeState : msL[383]? = some m_X12_takeState := rfl
set_option maxRecDepth 100000 in
theorem ix_X12_blockedBy : msL[384]? = some m_X12_blockedBy := rfl
set_option maxRecDepth 100000 in
theorem ix_X12_leastInRing : msL[385]? = some m_X12_leastInRing := rfl
set_option maxRecDepth 100000 in
theorem ix_X12_isLostEnd : msL[386]? = some m_X12_isLostEnd := rfl
set_option maxRecDepth 100000 in
theorem ix_X12_areCrossed : msL[387]? = some m_X12_areCrossed := rfl
set_option maxRecDepth 100000 in
theorem ix_X12_ring : msL[388]? = some m_X12_ring := rfl
set_option maxRecDepth 100000 in
theorem ix_X12_order : msL[389]? = some m_X12_order := rfl
set_option maxRecDepth 100000 in
theorem ix_X12_layFacts : msL[390]? = some m_X12_layFacts := rfl
set_option maxRecDepth 100000 in
theorem ix_X12_leastWith : msL[391]? = some m_X12_leastWith := rfl
set_option maxRecDepth 100000 in
theorem ix_X12_judge : msL[392]? = some m_X12_judge := rfl
set_option maxRecDepth 100000 in
theorem ix_X12_where : msL[393]? = some m_X12_where := rfl
set_option maxRecDepth 100000 in
theorem ix_X12_lookWays : msL[394]? = some m_X12_lookWays := rfl
set_option maxRecDepth 100000 in
theorem ix_X12_layParts : msL[395]? = some m_X12_layParts := rfl
set_option maxRecDepth 100000 in
theorem ix_X12_isLasting : msL[396]? = some m_X12_isLasting := rfl
set_option maxRecDepth 100000 in
theorem ix_X12_forgetOther : msL[397]? = some m_X12_forgetOther := rfl
set_option maxRecDepth 100000 in
theorem ix_X12_rewrite : msL[398]? = some m_X12_rewrite := rfl
set_option maxRecDepth 100000 in
theorem ix_X12_lineBefore : msL[399]? = some m_X12_lineBefore := rfl
set_option maxRecDepth 100000 in
theorem ix_X12_linkBehind : msL[400]? = some m_X12_linkBehind := rfl
set_option maxRecDepth 100000 in
theorem ix_X12_exchange : msL[401]? = some m_X12_exchange := rfl
set_option maxRecDepth 100000 in
theorem ix_X12_leaveOut : msL[402]? = some m_X12_leaveOut := rfl
set_option maxRecDepth 100000 in
theorem ix_X12_copyLoad : msL[403]? = some m_X12_copyLoad := rfl
set_option maxRecDepth 100000 in
theorem ix_X12_drop : msL[404]? = some m_X12_drop := rfl
set_option maxRecDepth 100000 in
theorem ix_X12_sound : msL[405]? = some m_X12_sound := rfl
set_option maxRecDepth 100000 in
theorem ix_X12_wasThere : msL[406]? = some m_X12_wasThere := rfl
set_option maxRecDepth 100000 in
theorem ix_X12_gained : msL[407]? = some m_X12_gained := rfl
set_option maxRecDepth 100000 in
theorem ix_J11_isValidCodePoint_9a6ad : msL[408]? = some m_J11_isValidCodePoint_9a6ad := rfl
set_option maxRecDepth 100000 in
theorem ix_J11_highSurrogate_5068e : msL[409]? = some m_J11_highSurrogate_5068e := rfl
set_option maxRecDepth 100000 in
theorem ix_J11_lowSurrogate_5068e : msL[410]? = some m_J11_lowSurrogate_5068e := rfl
set_option maxRecDepth 100000 in
theorem ix_J9_max_7cf53 : msL[411]? = some m_J9_max_7cf53 := rfl
set_option maxRecDepth 100000 in
theorem ix_J9_min_7cf53 : msL[412]? = some m_J9_min_7cf53 := rfl
set_option maxRecDepth 100000 in
theorem ix_J0_length_8abf5 : msL[413]? = some m_J0_length_8abf5 := rfl
set_option maxRecDepth 100000 in
theorem ix_J0_charAt_5068e : msL[414]? = some m_J0_charAt_5068e := rfl
set_option maxRecDepth 100000 in
theorem ix_J0_indexOf_0f7a4 : msL[415]? = some m_J0_indexOf_0f7a4 := rfl
set_option maxRecDepth 100000 in
theorem ix_J0_indexOf_7cf53 : msL[416]? = some m_J0_indexOf_7cf53 := rfl
set_option maxRecDepth 100000 in
theorem ix_J0_coder_7d493 : msL[417]? = some m_J0_coder_7d493 := rfl
set_option maxRecDepth 100000 in
theorem ix_J0_isLatin1_aae02 : msL[418]? = some m_J0_isLatin1_aae02 := rfl
set_option maxRecDepth 100000 in
theorem ix_J0_checkIndex_df160 : msL[419]? = some m_J0_checkIndex_df160 := rfl
set_option maxRecDepth 100000 in
theorem ix_J0_checkBoundsBeginEnd_23922 : msL[420]? = some m_J0_checkBoundsBeginEnd_23922 := rfl
set_option maxRecDepth 100000 in
theorem ix_J1_charAt_3b067 : msL[421]? = some m_J1_charAt_3b067 := rfl
set_option maxRecDepth 100000 in
theorem ix_J1_canEncode_9a6ad : msL[422]? = some m_J1_canEncode_9a6ad := rfl
set_option maxRecDepth 100000 in
theorem ix_J1_indexOf_4cfef : msL[423]? = some m_J1_indexOf_4cfef := rfl
set_option maxRecDepth 100000 in
theorem ix_J1_indexOfChar_4cfef : msL[424]? = some m_J1_indexOfChar_4cfef := rfl
set_option maxRecDepth 100000 in
theorem ix_J2_getChar_3b067 : msL[425]? = some m_J2_getChar_3b067 := rfl
set_option maxRecDepth 100000 in
theorem ix_J2_length_9d52b : msL[426]? = some m_J2_length_9d52b := rfl
set_option maxRecDepth 100000 in
theorem ix_J2_indexOf_4cfef : msL[427]? = some m_J2_indexOf_4cfef := rfl
set_option maxRecDepth 100000 in
theorem ix_J2_indexOfChar_4cfef : msL[428]? = some m_J2_indexOfChar_4cfef := rfl
set_option maxRecDepth 100000 in
theorem ix_J2_indexOfCharUnsafe_4cfef : msL[429]? = some m_J2_indexOfCharUnsafe_4cfef := rfl
set_option maxRecDepth 100000 in
theorem ix_J2_indexOfSupplementary_4cfef : msL[430]? = some m_J2_indexOfSupplementary_4cfef := rfl
set_option maxRecDepth 100000 in
theorem ix_J2_charAt_3b067 : msL[431]? = some m_J2_charAt_3b067 := rfl
set_option maxRecDepth 100000 in
theorem ix_J2_checkIndex_2214a : msL[432]? = some m_J2_checkIndex_2214a := rfl
set_option maxRecDepth 100000 in
theorem ix_J2_checkBoundsBeginEnd_d044e : msL[433]? = some m_J2_checkBoundsBeginEnd_d044e := rfl
set_option maxRecDepth 100000 in
theorem ix_J7_fill_d0a16 : msL[434]? = some m_J7_fill_d0a16 := rfl
set_option maxRecDepth 100000 in
theorem ix_J7_fill_53178 : msL[435]? = some m_J7_fill_53178 := rfl
set_option maxRecDepth 100000 in
theorem ix_J3_checkIndex_8e157 : msL[436]? = some m_J3_checkIndex_8e157 := rfl
set_option maxRecDepth 100000 in
theorem ix_J3_checkFromToIndex_8c36e : msL[437]? = some m_J3_checkFromToIndex_8c36e := rfl
