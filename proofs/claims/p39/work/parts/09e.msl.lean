/-! all methods -/
def m_X0_init : pM := (yX0_init, cX0_init, 1, none, 0, 2, 0, (458, 457, 0, 104), tb_X0_init)
def m_X0_clear : pM := (yX0_clear, cX0_clear, 2, none, 1, 0, 0, (982, 980, 981, 104), tb_X0_clear)
def m_X0_see : pM := (yX0_see, cX0_see, 8, none, 2, 0, 0, (1035, 1033, 1034, 104), tb_X0_see)
def m_X0_noteRace : pM := (yX0_noteRace, cX0_noteRace, 4, none, 3, 0, 0, (1057, 1056, 36, 104), tb_X0_noteRace)
def m_X0_noteTaking : pM := (yX0_noteTaking, cX0_noteTaking, 6, none, 2, 0, 0, (1097, 1095, 1096, 104), tb_X0_noteTaking)
def m_X0_seeStuck : pM := (yX0_seeStuck, cX0_seeStuck, 5, none, 2, 0, 0, (1065, 1063, 1064, 104), tb_X0_seeStuck)
def m_X0_noteStuck : pM := (yX0_noteStuck, cX0_noteStuck, 4, none, 3, 0, 0, (1077, 1076, 39, 104), tb_X0_noteStuck)
def m_X0_leastInRing : pM := (yX0_leastInRing, cX0_leastInRing, 6, (some .int), 1, 0, 0, (1069, 1068, 38, 104), tb_X0_leastInRing)
def m_X1_init : pM := (yX1_init, cX1_init, 1, none, 0, 2, 1, (666, 665, 0, 108), tb_X1_init)
def m_X2_init : pM := (yX2_init, cX2_init, 3, none, 2, 2, 2, (594, 593, 0, 106), tb_X2_init)
def m_X3_init : pM := (yX3_init, cX3_init, 1, none, 0, 2, 3, (396, 395, 0, 103), tb_X3_init)
def m_X3_localSlot : pM := (yX3_localSlot, cX3_localSlot, 2, (some .int), 2, 1, 3, (859, 858, 0, 103), tb_X3_localSlot)
def m_X3_enterFirst : pM := (yX3_enterFirst, cX3_enterFirst, 4, none, 2, 0, 3, (762, 760, 761, 103), tb_X3_enterFirst)
def m_X3_go : pM := (yX3_go, cX3_go, 3, none, 2, 0, 3, (769, 768, 0, 103), tb_X3_go)
def m_X3_pickSlots : pM := (yX3_pickSlots, cX3_pickSlots, 2, none, 0, 0, 3, (970, 968, 969, 103), tb_X3_pickSlots)
def m_X3_pick : pM := (yX3_pick, cX3_pick, 4, none, 2, 0, 3, (974, 973, 30, 103), tb_X3_pick)
def m_X3_makeEven : pM := (yX3_makeEven, cX3_makeEven, 1, none, 0, 0, 3, (978, 977, 31, 103), tb_X3_makeEven)
def m_X3_pack : pM := (yX3_pack, cX3_pack, 3, none, 1, 0, 3, (992, 990, 991, 103), tb_X3_pack)
def m_X3_unpack : pM := (yX3_unpack, cX3_unpack, 6, none, 2, 0, 3, (1025, 1023, 1024, 103), tb_X3_unpack)
def m_X3_keep : pM := (yX3_keep, cX3_keep, 1, none, 0, 0, 3, (1029, 1027, 1028, 103), tb_X3_keep)
def m_X3_comeBack : pM := (yX3_comeBack, cX3_comeBack, 1, none, 0, 0, 3, (1093, 1091, 1092, 103), tb_X3_comeBack)
def m_X3_listReady : pM := (yX3_listReady, cX3_listReady, 4, (some .int), 0, 0, 3, (773, 771, 772, 103), tb_X3_listReady)
def m_X3_isReady : pM := (yX3_isReady, cX3_isReady, 3, (some .boolean), 2, 0, 3, (824, 822, 823, 103), tb_X3_isReady)
def m_X3_choices : pM := (yX3_choices, cX3_choices, 6, (some .int), 1, 0, 3, (777, 775, 776, 103), tb_X3_choices)
def m_X3_needsEmptyQueue : pM := (yX3_needsEmptyQueue, cX3_needsEmptyQueue, 3, (some .boolean), 2, 0, 3, (781, 780, 1, 103), tb_X3_needsEmptyQueue)
def m_X3_hasRoom : pM := (yX3_hasRoom, cX3_hasRoom, 8, (some .boolean), 3, 0, 3, (793, 792, 3, 103), tb_X3_hasRoom)
def m_X3_waitsFor : pM := (yX3_waitsFor, cX3_waitsFor, 3, (some .boolean), 2, 0, 3, (809, 808, 6, 103), tb_X3_waitsFor)
def m_X3_waiters : pM := (yX3_waiters, cX3_waiters, 4, (some .int), 1, 0, 3, (805, 804, 5, 103), tb_X3_waiters)
def m_X3_sort : pM := (yX3_sort, cX3_sort, 4, (some .int), 0, 0, 3, (996, 994, 995, 103), tb_X3_sort)
def m_X3_locksOf : pM := (yX3_locksOf, cX3_locksOf, 4, (some .int), 1, 0, 3, (1044, 1042, 1043, 103), tb_X3_locksOf)
def m_X3_lockAhead : pM := (yX3_lockAhead, cX3_lockAhead, 4, (some .int), 1, 0, 3, (1073, 1071, 1072, 103), tb_X3_lockAhead)
def m_X3_take : pM := (yX3_take, cX3_take, 5, none, 2, 0, 3, (832, 830, 831, 103), tb_X3_take)
def m_X3_workOut : pM := (yX3_workOut, cX3_workOut, 2, (some .int), 1, 0, 3, (871, 870, 14, 103), tb_X3_workOut)
def m_X3_setLocal : pM := (yX3_setLocal, cX3_setLocal, 4, none, 2, 0, 3, (856, 855, 11, 103), tb_X3_setLocal)
def m_X3_touch : pM := (yX3_touch, cX3_touch, 7, (some .int), 3, 0, 3, (848, 847, 10, 103), tb_X3_touch)
def m_X3_swapIf : pM := (yX3_swapIf, cX3_swapIf, 6, none, 4, 0, 3, (883, 882, 17, 103), tb_X3_swapIf)
def m_X3_addTo : pM := (yX3_addTo, cX3_addTo, 5, (some .int), 3, 0, 3, (891, 890, 19, 103), tb_X3_addTo)
def m_X3_useLock : pM := (yX3_useLock, cX3_useLock, 4, (some .int), 3, 0, 3, (895, 894, 20, 103), tb_X3_useLock)
def m_X3_leave : pM := (yX3_leave, cX3_leave, 3, none, 2, 0, 3, (899, 898, 21, 103), tb_X3_leave)
def m_X3_wake : pM := (yX3_wake, cX3_wake, 5, none, 2, 0, 3, (903, 902, 22, 103), tb_X3_wake)
def m_X3_takeBack : pM := (yX3_takeBack, cX3_takeBack, 3, none, 2, 0, 3, (840, 839, 8, 103), tb_X3_takeBack)
def m_X3_meet : pM := (yX3_meet, cX3_meet, 3, (some .int), 2, 0, 3, (907, 906, 23, 103), tb_X3_meet)
def m_X3_begins : pM := (yX3_begins, cX3_begins, 3, (some .int), 2, 0, 3, (911, 910, 24, 103), tb_X3_begins)
def m_X3_tell : pM := (yX3_tell, cX3_tell, 2, (some .int), 0, 0, 3, (915, 914, 25, 103), tb_X3_tell)
def m_X3_loadable : pM := (yX3_loadable, cX3_loadable, 6, (some .int), 2, 0, 3, (852, 850, 851, 103), tb_X3_loadable)
def m_X3_store : pM := (yX3_store, cX3_store, 4, none, 3, 0, 3, (875, 874, 15, 103), tb_X3_store)
def m_X3_flush : pM := (yX3_flush, cX3_flush, 4, none, 1, 0, 3, (836, 835, 7, 103), tb_X3_flush)
def m_X3_write : pM := (yX3_write, cX3_write, 6, none, 4, 0, 3, (879, 878, 16, 103), tb_X3_write)
def m_X3_viewed : pM := (yX3_viewed, cX3_viewed, 3, (some .int), 2, 0, 3, (789, 788, 2, 103), tb_X3_viewed)
def m_X3_view : pM := (yX3_view, cX3_view, 4, none, 3, 0, 3, (867, 866, 13, 103), tb_X3_view)
def m_X3_look : pM := (yX3_look, cX3_look, 4, none, 3, 0, 3, (863, 862, 12, 103), tb_X3_look)
def m_X3_lookAtLast : pM := (yX3_lookAtLast, cX3_lookAtLast, 4, none, 2, 0, 3, (887, 886, 18, 103), tb_X3_lookAtLast)
def m_X3_learn : pM := (yX3_learn, cX3_learn, 6, none, 2, 0, 3, (844, 843, 9, 103), tb_X3_learn)
def m_X4_init : pM := (yX4_init, cX4_init, 2, none, 1, 2, 4, (227, 226, 0, 99), tb_X4_init)
def m_X4_put : pM := (yX4_put, cX4_put, 3, none, 2, 0, 4, (1538, 1536, 1537, 99), tb_X4_put)
def m_X4_set : pM := (yX4_set, cX4_set, 4, none, 3, 0, 4, (1186, 1184, 1185, 99), tb_X4_set)
def m_X4_workOut : pM := (yX4_workOut, cX4_workOut, 8, (some .int), 3, 0, 4, (797, 795, 796, 99), tb_X4_workOut)
def m_X4_apply : pM := (yX4_apply, cX4_apply, 7, (some .int), 4, 0, 4, (801, 800, 4, 99), tb_X4_apply)
def m_X5_init : pM := (yX5_init, cX5_init, 2, none, 1, 2, 5, (252, 251, 0, 100), tb_X5_init)
def m_X5_clear : pM := (yX5_clear, cX5_clear, 1, none, 0, 0, 5, (1290, 1288, 1289, 100), tb_X5_clear)
def m_X5_copy : pM := (yX5_copy, cX5_copy, 3, none, 1, 0, 5, (1148, 1146, 1147, 100), tb_X5_copy)
def m_X5_find : pM := (yX5_find, cX5_find, 6, (some .int), 4, 1, 5, (1422, 1421, 0, 100), tb_X5_find)
def m_X5_named : pM := (yX5_named, cX5_named, 4, (some .int), 1, 0, 5, (1426, 1424, 1425, 100), tb_X5_named)
def m_X5_isCell : pM := (yX5_isCell, cX5_isCell, 1, (some .boolean), 1, 1, 5, (1481, 1480, 0, 100), tb_X5_isCell)
def m_X5_isLock : pM := (yX5_isLock, cX5_isLock, 1, (some .boolean), 1, 1, 5, (1462, 1461, 0, 100), tb_X5_isLock)
def m_X5_isThread : pM := (yX5_isThread, cX5_isThread, 1, (some .boolean), 1, 1, 5, (1465, 1464, 0, 100), tb_X5_isThread)
def m_X5_localOf : pM := (yX5_localOf, cX5_localOf, 4, (some .int), 2, 0, 5, (1419, 1417, 1418, 100), tb_X5_localOf)
def m_X5_isTold : pM := (yX5_isTold, cX5_isTold, 4, (some .boolean), 1, 0, 5, (1415, 1413, 1414, 100), tb_X5_isTold)
def m_X5_hasCell : pM := (yX5_hasCell, cX5_hasCell, 2, (some .boolean), 1, 0, 5, (957, 955, 956, 100), tb_X5_hasCell)
def m_X5_hasThread : pM := (yX5_hasThread, cX5_hasThread, 2, (some .boolean), 1, 0, 5, (948, 946, 947, 100), tb_X5_hasThread)
def m_X5_hasLocal : pM := (yX5_hasLocal, cX5_hasLocal, 3, (some .boolean), 2, 0, 5, (944, 942, 943, 100), tb_X5_hasLocal)
def m_X5_isVolatile : pM := (yX5_isVolatile, cX5_isVolatile, 2, (some .boolean), 1, 0, 5, (785, 783, 784, 100), tb_X5_isVolatile)
def m_X5_addCell : pM := (yX5_addCell, cX5_addCell, 3, (some .int), 1, 0, 5, (1430, 1428, 1429, 100), tb_X5_addCell)
def m_X5_addLock : pM := (yX5_addLock, cX5_addLock, 3, none, 1, 0, 5, (1442, 1440, 1441, 100), tb_X5_addLock)
def m_X5_addThread : pM := (yX5_addThread, cX5_addThread, 3, (some .int), 1, 0, 5, (1450, 1448, 1449, 100), tb_X5_addThread)
def m_X5_addLocal : pM := (yX5_addLocal, cX5_addLocal, 4, (some .int), 2, 0, 5, (1494, 1492, 1493, 100), tb_X5_addLocal)
def m_X5_addLine : pM := (yX5_addLine, cX5_addLine, 7, (some .int), 4, 0, 5, (1469, 1467, 1468, 100), tb_X5_addLine)
def m_X5_link : pM := (yX5_link, cX5_link, 4, none, 2, 0, 5, (1165, 1163, 1164, 100), tb_X5_link)
def m_X5_layWays : pM := (yX5_layWays, cX5_layWays, 4, none, 0, 0, 5, (1190, 1188, 1189, 100), tb_X5_layWays)
def m_X5_behind : pM := (yX5_behind, cX5_behind, 4, (some .int), 1, 0, 5, (1194, 1193, 53, 100), tb_X5_behind)
def m_X5_touches : pM := (yX5_touches, cX5_touches, 2, (some .boolean), 1, 0, 5, (1039, 1037, 1038, 100), tb_X5_touches)
def m_X5_clash : pM := (yX5_clash, cX5_clash, 5, (some .boolean), 2, 0, 5, (1048, 1046, 1047, 100), tb_X5_clash)
def m_X5_change : pM := (yX5_change, cX5_change, 4, (some .boolean), 2, 0, 5, (1153, 1151, 1152, 100), tb_X5_change)
def m_X5_ahead : pM := (yX5_ahead, cX5_ahead, 6, (some .int), 1, 0, 5, (1161, 1160, 48, 100), tb_X5_ahead)
def m_X5_swap : pM := (yX5_swap, cX5_swap, 3, (some .boolean), 1, 0, 5, (1157, 1156, 47, 100), tb_X5_swap)
def m_X5_leaveOut : pM := (yX5_leaveOut, cX5_leaveOut, 4, (some .boolean), 1, 0, 5, (1169, 1168, 49, 100), tb_X5_leaveOut)
def m_X5_unlink : pM := (yX5_unlink, cX5_unlink, 4, none, 3, 0, 5, (1173, 1172, 50, 100), tb_X5_unlink)
def m_X5_empty : pM := (yX5_empty, cX5_empty, 3, none, 1, 0, 5, (1177, 1176, 51, 100), tb_X5_empty)
def m_X5_reuse : pM := (yX5_reuse, cX5_reuse, 4, (some .boolean), 1, 0, 5, (1181, 1180, 52, 100), tb_X5_reuse)
def m_X6_init : pM := (yX6_init, cX6_init, 4, none, 3, 2, 6, (336, 335, 0, 101), tb_X6_init)
def m_X6_open : pM := (yX6_open, cX6_open, 3, none, 2, 0, 6, (1298, 1297, 55, 101), tb_X6_open)
def m_X6_blame : pM := (yX6_blame, cX6_blame, 2, none, 1, 0, 6, (1411, 1410, 65, 101), tb_X6_blame)
def m_X6_need : pM := (yX6_need, cX6_need, 2, none, 1, 0, 6, (1434, 1433, 66, 101), tb_X6_need)
def m_X6_skip : pM := (yX6_skip, cX6_skip, 3, (some .boolean), 1, 0, 6, (1398, 1397, 62, 101), tb_X6_skip)
def m_X6_readProgram : pM := (yX6_readProgram, cX6_readProgram, 2, none, 0, 0, 6, (1286, 1284, 1285, 101), tb_X6_readProgram)
def m_X6_isNewName : pM := (yX6_isNewName, cX6_isNewName, 3, (some .boolean), 2, 0, 6, (1407, 1406, 64, 101), tb_X6_isNewName)
def m_X6_readCell : pM := (yX6_readCell, cX6_readCell, 4, none, 0, 0, 6, (1403, 1402, 63, 101), tb_X6_readCell)
def m_X6_readLock : pM := (yX6_readLock, cX6_readLock, 1, none, 0, 0, 6, (1438, 1437, 67, 101), tb_X6_readLock)
def m_X6_readThread : pM := (yX6_readThread, cX6_readThread, 1, none, 0, 0, 6, (1446, 1445, 68, 101), tb_X6_readThread)
def m_X6_readBlock : pM := (yX6_readBlock, cX6_readBlock, 7, none, 3, 0, 6, (1454, 1453, 69, 101), tb_X6_readBlock)
def m_X6_mayBegin : pM := (yX6_mayBegin, cX6_mayBegin, 3, (some .boolean), 0, 0, 6, (1458, 1457, 70, 101), tb_X6_mayBegin)
def m_X6_readStatement : pM := (yX6_readStatement, cX6_readStatement, 5, none, 2, 0, 6, (1474, 1473, 71, 101), tb_X6_readStatement)
def m_X6_hasExp : pM := (yX6_hasExp, cX6_hasExp, 2, (some .boolean), 1, 0, 6, (1506, 1505, 77, 101), tb_X6_hasExp)
def m_X6_readTarget : pM := (yX6_readTarget, cX6_readTarget, 4, (some .int), 1, 0, 6, (1478, 1477, 72, 101), tb_X6_readTarget)
def m_X6_readLocal : pM := (yX6_readLocal, cX6_readLocal, 3, none, 1, 0, 6, (1485, 1484, 73, 101), tb_X6_readLocal)
def m_X6_localHere : pM := (yX6_localHere, cX6_localHere, 2, (some .int), 0, 0, 6, (1489, 1488, 74, 101), tb_X6_localHere)
def m_X6_readObject : pM := (yX6_readObject, cX6_readObject, 4, none, 2, 0, 6, (1498, 1497, 75, 101), tb_X6_readObject)
def m_X6_needName : pM := (yX6_needName, cX6_needName, 4, none, 3, 0, 6, (1502, 1501, 76, 101), tb_X6_needName)
def m_X6_readInto : pM := (yX6_readInto, cX6_readInto, 2, none, 1, 0, 6, (1556, 1555, 87, 101), tb_X6_readInto)
def m_X6_aimThreads : pM := (yX6_aimThreads, cX6_aimThreads, 4, none, 0, 0, 6, (1560, 1559, 88, 101), tb_X6_aimThreads)
def m_X6_levelOf : pM := (yX6_levelOf, cX6_levelOf, 1, (some .int), 1, 1, 6, (1552, 1551, 0, 101), tb_X6_levelOf)
def m_X6_readLevel : pM := (yX6_readLevel, cX6_readLevel, 5, none, 2, 0, 6, (1510, 1509, 78, 101), tb_X6_readLevel)
def m_X6_readSide : pM := (yX6_readSide, cX6_readSide, 3, none, 2, 0, 6, (1514, 1513, 79, 101), tb_X6_readSide)
def m_X6_countNode : pM := (yX6_countNode, cX6_countNode, 1, (some .boolean), 0, 0, 6, (1530, 1529, 83, 101), tb_X6_countNode)
def m_X6_beginsOne : pM := (yX6_beginsOne, cX6_beginsOne, 2, (some .boolean), 1, 0, 6, (1522, 1521, 81, 101), tb_X6_beginsOne)
def m_X6_isStray : pM := (yX6_isStray, cX6_isStray, 2, (some .boolean), 0, 0, 6, (1526, 1525, 82, 101), tb_X6_isStray)
def m_X6_readOne : pM := (yX6_readOne, cX6_readOne, 3, none, 1, 0, 6, (1518, 1517, 80, 101), tb_X6_readOne)
def m_X6_readNode : pM := (yX6_readNode, cX6_readNode, 4, none, 2, 0, 6, (1534, 1533, 84, 101), tb_X6_readNode)
def m_X6_readAsked : pM := (yX6_readAsked, cX6_readAsked, 5, none, 1, 0, 6, (1549, 1548, 86, 101), tb_X6_readAsked)
def m_X6_readCellOrLocal : pM := (yX6_readCellOrLocal, cX6_readCellOrLocal, 4, none, 0, 0, 6, (1543, 1542, 85, 101), tb_X6_readCellOrLocal)
def m_X7_init : pM := (yX7_init, cX7_init, 4, none, 3, 2, 7, (488, 487, 0, 105), tb_X7_init)
def m_X7_clear : pM := (yX7_clear, cX7_clear, 3, none, 2, 0, 7, (987, 985, 986, 105), tb_X7_clear)
def m_X7_placeOf : pM := (yX7_placeOf, cX7_placeOf, 7, (some .int), 2, 0, 7, (1005, 1004, 32, 105), tb_X7_placeOf)
def m_X7_isSame : pM := (yX7_isSame, cX7_isSame, 5, (some .boolean), 3, 0, 7, (1010, 1009, 33, 105), tb_X7_isSame)
def m_X7_numberOf : pM := (yX7_numberOf, cX7_numberOf, 3, (some .int), 2, 0, 7, (1136, 1134, 1135, 105), tb_X7_numberOf)
def m_X7_put : pM := (yX7_put, cX7_put, 4, (some .int), 2, 0, 7, (1001, 999, 1000, 105), tb_X7_put)
def m_X7_refer : pM := (yX7_refer, cX7_refer, 3, (some .int), 1, 0, 7, (1081, 1079, 1080, 105), tb_X7_refer)
def m_X7_name : pM := (yX7_name, cX7_name, 3, none, 2, 0, 7, (1017, 1016, 34, 105), tb_X7_name)
def m_X8_init : pM := (yX8_init, cX8_init, 1, none, 0, 2, 8, (638, 637, 0, 107), tb_X8_init)
def m_X8_start : pM := (yX8_start, cX8_start, 3, none, 2, 0, 8, (758, 756, 757, 107), tb_X8_start)
def m_X8_take : pM := (yX8_take, cX8_take, 5, none, 2, 0, 8, (828, 826, 827, 107), tb_X8_take)
def m_X8_putAhead : pM := (yX8_putAhead, cX8_putAhead, 4, none, 2, 0, 8, (932, 931, 29, 107), tb_X8_putAhead)
def m_X8_leadsTo : pM := (yX8_leadsTo, cX8_leadsTo, 7, (some .boolean), 2, 0, 8, (919, 918, 26, 107), tb_X8_leadsTo)
def m_X8_tells : pM := (yX8_tells, cX8_tells, 3, (some .boolean), 1, 0, 8, (923, 922, 27, 107), tb_X8_tells)
def m_X8_hears : pM := (yX8_hears, cX8_hears, 3, (some .boolean), 1, 0, 8, (928, 927, 28, 107), tb_X8_hears)
def m_X9_init : pM := (yX9_init, cX9_init, 1, none, 0, 2, 9, (125, 124, 0, 94), tb_X9_init)
def m_X9_codes : pM := (yX9_codes, cX9_codes, 6, (some (.array .long)), 2, 1, 9, (130, 129, 0, 94), tb_X9_codes)
def m_X9_append : pM := (yX9_append, cX9_append, 3, none, 1, 0, 9, (1232, 1230, 1231, 94), tb_X9_append)
def m_X9_cut : pM := (yX9_cut, cX9_cut, 2, none, 0, 0, 9, (1302, 1300, 1301, 94), tb_X9_cut)
def m_X9_advance : pM := (yX9_advance, cX9_advance, 1, none, 0, 0, 9, (1394, 1392, 1393, 94), tb_X9_advance)
def m_X9_byteAt : pM := (yX9_byteAt, cX9_byteAt, 2, (some .int), 1, 0, 9, (1314, 1313, 58, 94), tb_X9_byteAt)
def m_X9_isLetter : pM := (yX9_isLetter, cX9_isLetter, 1, (some .boolean), 1, 1, 9, (1317, 1316, 0, 94), tb_X9_isLetter)
def m_X9_isDigit : pM := (yX9_isDigit, cX9_isDigit, 1, (some .boolean), 1, 1, 9, (1324, 1323, 0, 94), tb_X9_isDigit)
def m_X9_skipBlanks : pM := (yX9_skipBlanks, cX9_skipBlanks, 3, none, 0, 0, 9, (1306, 1305, 56, 94), tb_X9_skipBlanks)
def m_X9_cutOne : pM := (yX9_cutOne, cX9_cutOne, 2, none, 0, 0, 9, (1310, 1309, 57, 94), tb_X9_cutOne)
def m_X9_cutWord : pM := (yX9_cutWord, cX9_cutWord, 2, none, 0, 0, 9, (1321, 1320, 59, 94), tb_X9_cutWord)
def m_X9_cutNumber : pM := (yX9_cutNumber, cX9_cutNumber, 1, none, 0, 0, 9, (1328, 1327, 60, 94), tb_X9_cutNumber)
def m_X9_cutSign : pM := (yX9_cutSign, cX9_cutSign, 3, none, 1, 0, 9, (1334, 1333, 61, 94), tb_X9_cutSign)
def m_X10_init : pM := (yX10_init, cX10_init, 1, none, 0, 2, 10, (390, 389, 0, 102), tb_X10_init)
def m_X10_tryAll : pM := (yX10_tryAll, cX10_tryAll, 10, (some .int), 3, 0, 10, (965, 963, 964, 102), tb_X10_tryAll)
def m_X10_lookAround : pM := (yX10_lookAround, cX10_lookAround, 4, (some .int), 1, 0, 10, (1021, 1020, 35, 102), tb_X10_lookAround)
def m_X10_quietStep : pM := (yX10_quietStep, cX10_quietStep, 3, (some .int), 0, 0, 10, (1085, 1084, 40, 102), tb_X10_quietStep)
def m_X10_tryStep : pM := (yX10_tryStep, cX10_tryStep, 8, (some .boolean), 2, 0, 10, (1089, 1088, 41, 102), tb_X10_tryStep)
def m_X10_isWhile : pM := (yX10_isWhile, cX10_isWhile, 2, (some .boolean), 1, 0, 10, (1102, 1101, 42, 102), tb_X10_isWhile)
def m_X10_noteEnd : pM := (yX10_noteEnd, cX10_noteEnd, 2, none, 1, 0, 10, (1061, 1060, 37, 102), tb_X10_noteEnd)
def m_X10_hasOutcome : pM := (yX10_hasOutcome, cX10_hasOutcome, 2, (some .boolean), 1, 0, 10, (1114, 1112, 1113, 102), tb_X10_hasOutcome)
def m_X10_stateOfOutcome : pM := (yX10_stateOfOutcome, cX10_stateOfOutcome, 2, (some .int), 1, 0, 10, (1579, 1577, 1578, 102), tb_X10_stateOfOutcome)
def m_X10_slotOfOutcome : pM := (yX10_slotOfOutcome, cX10_slotOfOutcome, 3, (some .int), 2, 0, 10, (1575, 1573, 1574, 102), tb_X10_slotOfOutcome)
def m_X10_stateOf : pM := (yX10_stateOf, cX10_stateOf, 1, (some .int), 1, 1, 10, (1591, 1590, 0, 102), tb_X10_stateOf)
def m_X10_threadOf : pM := (yX10_threadOf, cX10_threadOf, 1, (some .int), 1, 1, 10, (1594, 1593, 0, 102), tb_X10_threadOf)
def m_X10_fewestSwitches : pM := (yX10_fewestSwitches, cX10_fewestSwitches, 6, (some .int), 1, 0, 10, (1583, 1581, 1582, 102), tb_X10_fewestSwitches)
def m_X10_countSwitches : pM := (yX10_countSwitches, cX10_countSwitches, 3, none, 0, 0, 10, (1587, 1586, 89, 102), tb_X10_countSwitches)
def m_X10_leaveFrom : pM := (yX10_leaveFrom, cX10_leaveFrom, 8, none, 2, 0, 10, (1602, 1601, 91, 102), tb_X10_leaveFrom)
def m_X10_reach : pM := (yX10_reach, cX10_reach, 4, none, 3, 0, 10, (1598, 1597, 90, 102), tb_X10_reach)
def m_X10_countChances : pM := (yX10_countChances, cX10_countChances, 11, (some .int), 3, 0, 10, (1118, 1116, 1117, 102), tb_X10_countChances)
def m_X10_drawnOutcome : pM := (yX10_drawnOutcome, cX10_drawnOutcome, 6, (some .int), 3, 0, 10, (1122, 1121, 43, 102), tb_X10_drawnOutcome)
def m_X10_arrange : pM := (yX10_arrange, cX10_arrange, 6, none, 1, 0, 10, (1126, 1125, 44, 102), tb_X10_arrange)
def m_X10_firstReady : pM := (yX10_firstReady, cX10_firstReady, 2, (some .int), 0, 0, 10, (1131, 1130, 45, 102), tb_X10_firstReady)
def m_X10_lower : pM := (yX10_lower, cX10_lower, 4, none, 1, 0, 10, (1140, 1139, 46, 102), tb_X10_lower)
def m_X11_init : pM := (yX11_init, cX11_init, 3, none, 0, 2, 11, (117, 116, 0, 93), tb_X11_init)
def m_X11_feed : pM := (yX11_feed, cX11_feed, 6, (some .int), 5, 0, 11, (1228, 1226, 1227, 93), tb_X11_feed)
def m_X11_end : pM := (yX11_end, cX11_end, 2, (some .int), 1, 0, 11, (1236, 1234, 1235, 93), tb_X11_end)
def m_X11_program : pM := (yX11_program, cX11_program, 1, (some .int), 0, 0, 11, (1282, 1280, 1281, 93), tb_X11_program)
def m_X11_count : pM := (yX11_count, cX11_count, 2, (some .int), 1, 0, 11, (747, 745, 746, 93), tb_X11_count)
def m_X11_begin : pM := (yX11_begin, cX11_begin, 2, (some .int), 1, 0, 11, (751, 749, 750, 93), tb_X11_begin)
def m_X11_ready : pM := (yX11_ready, cX11_ready, 3, (some .int), 1, 0, 11, (816, 814, 815, 93), tb_X11_ready)
def m_X11_turn : pM := (yX11_turn, cX11_turn, 3, (some .int), 2, 0, 11, (820, 818, 819, 93), tb_X11_turn)
def m_X11_thread : pM := (yX11_thread, cX11_thread, 4, (some .int), 2, 0, 11, (936, 934, 935, 93), tb_X11_thread)
def m_X11_local : pM := (yX11_local, cX11_local, 3, (some .int), 2, 0, 11, (940, 938, 939, 93), tb_X11_local)
def m_X11_cell : pM := (yX11_cell, cX11_cell, 2, (some .int), 1, 0, 11, (953, 951, 952, 93), tb_X11_cell)
def m_X11_explore : pM := (yX11_explore, cX11_explore, 3, (some .int), 2, 0, 11, (961, 959, 960, 93), tb_X11_explore)
def m_X11_explored : pM := (yX11_explored, cX11_explored, 2, (some .int), 1, 0, 11, (1106, 1104, 1105, 93), tb_X11_explored)
def m_X11_outcome : pM := (yX11_outcome, cX11_outcome, 3, (some .int), 2, 0, 11, (1571, 1569, 1570, 93), tb_X11_outcome)
def m_X11_outcomeCell : pM := (yX11_outcomeCell, cX11_outcomeCell, 3, (some .int), 2, 0, 11, (1608, 1606, 1607, 93), tb_X11_outcomeCell)
def m_X11_outcomeLocal : pM := (yX11_outcomeLocal, cX11_outcomeLocal, 4, (some .int), 3, 0, 11, (1612, 1610, 1611, 93), tb_X11_outcomeLocal)
def m_X11_chances : pM := (yX11_chances, cX11_chances, 4, (some .int), 3, 0, 11, (1110, 1108, 1109, 93), tb_X11_chances)
def m_X11_rewrite : pM := (yX11_rewrite, cX11_rewrite, 3, (some .int), 2, 0, 11, (1144, 1142, 1143, 93), tb_X11_rewrite)
def m_X11_drop : pM := (yX11_drop, cX11_drop, 1, (some .int), 0, 0, 11, (1202, 1200, 1201, 93), tb_X11_drop)
def m_X11_sound : pM := (yX11_sound, cX11_sound, 4, (some .int), 1, 0, 11, (1206, 1204, 1205, 93), tb_X11_sound)
def m_X11_gained : pM := (yX11_gained, cX11_gained, 1, (some .int), 0, 0, 11, (1213, 1211, 1212, 93), tb_X11_gained)
def m_X11_isWay : pM := (yX11_isWay, cX11_isWay, 1, (some .boolean), 1, 1, 11, (754, 753, 0, 93), tb_X11_isWay)
def m_X11_forgetRewritten : pM := (yX11_forgetRewritten, cX11_forgetRewritten, 1, none, 0, 0, 11, (1198, 1197, 54, 93), tb_X11_forgetRewritten)
def m_J11_isValidCodePoint_9a6ad : pM := (yJ11_isValidCodePoint_9a6ad, cJ11_isValidCodePoint_9a6ad, 2, (some .boolean), 1, 1, 99, (1382, 1381, 0, 111), tb_J11_isValidCodePoint_9a6ad)
def m_J11_highSurrogate_5068e : pM := (yJ11_highSurrogate_5068e, cJ11_highSurrogate_5068e, 1, (some .char), 1, 1, 99, (1385, 1384, 0, 111), tb_J11_highSurrogate_5068e)
def m_J11_lowSurrogate_5068e : pM := (yJ11_lowSurrogate_5068e, cJ11_lowSurrogate_5068e, 1, (some .char), 1, 1, 99, (1389, 1388, 0, 111), tb_J11_lowSurrogate_5068e)
def m_J9_max_7cf53 : pM := (yJ9_max_7cf53, cJ9_max_7cf53, 2, (some .int), 2, 1, 99, (812, 811, 0, 110), tb_J9_max_7cf53)
def m_J9_min_7cf53 : pM := (yJ9_min_7cf53, cJ9_min_7cf53, 2, (some .int), 2, 1, 99, (1052, 1051, 0, 110), tb_J9_min_7cf53)
def m_J0_length_8abf5 : pM := (yJ0_length_8abf5, cJ0_length_8abf5, 1, (some .int), 0, 0, 13, (134, 132, 133, 95), tb_J0_length_8abf5)
def m_J0_charAt_5068e : pM := (yJ0_charAt_5068e, cJ0_charAt_5068e, 2, (some .char), 1, 0, 13, (144, 142, 143, 95), tb_J0_charAt_5068e)
def m_J0_indexOf_0f7a4 : pM := (yJ0_indexOf_0f7a4, cJ0_indexOf_0f7a4, 2, (some .int), 1, 0, 13, (1339, 1337, 1338, 95), tb_J0_indexOf_0f7a4)
def m_J0_indexOf_7cf53 : pM := (yJ0_indexOf_7cf53, cJ0_indexOf_7cf53, 3, (some .int), 2, 0, 13, (1343, 1341, 1342, 95), tb_J0_indexOf_7cf53)
def m_J0_coder_7d493 : pM := (yJ0_coder_7d493, cJ0_coder_7d493, 1, (some .byte), 0, 0, 13, (138, 136, 137, 95), tb_J0_coder_7d493)
def m_J0_isLatin1_aae02 : pM := (yJ0_isLatin1_aae02, cJ0_isLatin1_aae02, 1, (some .boolean), 0, 0, 13, (148, 146, 147, 95), tb_J0_isLatin1_aae02)
def m_J0_checkIndex_df160 : pM := (yJ0_checkIndex_df160, cJ0_checkIndex_df160, 2, none, 2, 1, 13, (154, 153, 0, 95), tb_J0_checkIndex_df160)
def m_J0_checkBoundsBeginEnd_23922 : pM := (yJ0_checkBoundsBeginEnd_23922, cJ0_checkBoundsBeginEnd_23922, 3, none, 3, 1, 13, (1370, 1369, 0, 95), tb_J0_checkBoundsBeginEnd_23922)
def m_J1_charAt_3b067 : pM := (yJ1_charAt_3b067, cJ1_charAt_3b067, 2, (some .char), 2, 1, 99, (151, 150, 0, 96), tb_J1_charAt_3b067)
def m_J1_canEncode_9a6ad : pM := (yJ1_canEncode_9a6ad, cJ1_canEncode_9a6ad, 1, (some .boolean), 1, 1, 99, (1350, 1349, 0, 96), tb_J1_canEncode_9a6ad)
def m_J1_indexOf_4cfef : pM := (yJ1_indexOf_4cfef, cJ1_indexOf_4cfef, 4, (some .int), 4, 1, 99, (1347, 1346, 0, 96), tb_J1_indexOf_4cfef)
def m_J1_indexOfChar_4cfef : pM := (yJ1_indexOfChar_4cfef, cJ1_indexOfChar_4cfef, 6, (some .int), 4, 1, 99, (1355, 1354, 0, 96), tb_J1_indexOfChar_4cfef)
def m_J2_getChar_3b067 : pM := (yJ2_getChar_3b067, cJ2_getChar_3b067, 2, (some .char), 2, 1, 99, (172, 171, 0, 98), tb_J2_getChar_3b067)
def m_J2_length_9d52b : pM := (yJ2_length_9d52b, cJ2_length_9d52b, 1, (some .int), 1, 1, 99, (168, 167, 0, 98), tb_J2_length_9d52b)
def m_J2_indexOf_4cfef : pM := (yJ2_indexOf_4cfef, cJ2_indexOf_4cfef, 4, (some .int), 4, 1, 99, (1358, 1357, 0, 98), tb_J2_indexOf_4cfef)
def m_J2_indexOfChar_4cfef : pM := (yJ2_indexOfChar_4cfef, cJ2_indexOfChar_4cfef, 4, (some .int), 4, 1, 99, (1364, 1363, 0, 98), tb_J2_indexOfChar_4cfef)
def m_J2_indexOfCharUnsafe_4cfef : pM := (yJ2_indexOfCharUnsafe_4cfef, cJ2_indexOfCharUnsafe_4cfef, 5, (some .int), 4, 1, 99, (1376, 1375, 0, 98), tb_J2_indexOfCharUnsafe_4cfef)
def m_J2_indexOfSupplementary_4cfef : pM := (yJ2_indexOfSupplementary_4cfef, cJ2_indexOfSupplementary_4cfef, 7, (some .int), 4, 1, 99, (1379, 1378, 0, 98), tb_J2_indexOfSupplementary_4cfef)
def m_J2_charAt_3b067 : pM := (yJ2_charAt_3b067, cJ2_charAt_3b067, 2, (some .char), 2, 1, 99, (162, 161, 0, 98), tb_J2_charAt_3b067)
def m_J2_checkIndex_2214a : pM := (yJ2_checkIndex_2214a, cJ2_checkIndex_2214a, 2, none, 2, 1, 99, (165, 164, 0, 98), tb_J2_checkIndex_2214a)
def m_J2_checkBoundsBeginEnd_d044e : pM := (yJ2_checkBoundsBeginEnd_d044e, cJ2_checkBoundsBeginEnd_d044e, 3, none, 3, 1, 99, (1367, 1366, 0, 98), tb_J2_checkBoundsBeginEnd_d044e)
def m_J7_fill_d0a16 : pM := (yJ7_fill_d0a16, cJ7_fill_d0a16, 5, none, 2, 1, 99, (1293, 1292, 0, 109), tb_J7_fill_d0a16)
def m_J7_fill_53178 : pM := (yJ7_fill_53178, cJ7_fill_53178, 4, none, 2, 1, 99, (765, 764, 0, 109), tb_J7_fill_53178)
def m_J3_checkIndex_8e157 : pM := (yJ3_checkIndex_8e157, cJ3_checkIndex_8e157, 3, (some .int), 3, 1, 99, (159, 158, 0, 97), tb_J3_checkIndex_8e157)
def m_J3_checkFromToIndex_8c36e : pM := (yJ3_checkFromToIndex_8c36e, cJ3_checkFromToIndex_8c36e, 4, (some .int), 4, 1, 99, (1373, 1372, 0, 97), tb_J3_checkFromToIndex_8c36e)
def m_L_cell : pM := (yL_cell, cL_cell, 2, (some .int), 2, 1, 99, (1216, 1215, 0, 92), tb_L_cell)
def m_L_say : pM := (yL_say, cL_say, 7, (some .int), 4, 1, 99, (1224, 1223, 0, 92), tb_L_say)
def m_L_statement : pM := (yL_statement, cL_statement, 3, (some .int), 2, 1, 99, (1245, 1244, 0, 92), tb_L_statement)
def m_L_tell : pM := (yL_tell, cL_tell, 6, (some .int), 4, 1, 99, (1219, 1218, 0, 92), tb_L_tell)
def m_L_isIn : pM := (yL_isIn, cL_isIn, 5, (some .boolean), 3, 1, 99, (1564, 1563, 0, 92), tb_L_isIn)
def m_L_sum : pM := (yL_sum, cL_sum, 5, (some .int), 2, 1, 99, (1567, 1566, 0, 92), tb_L_sum)
def msL_0 : List pM := [m_X0_init, m_X0_clear, m_X0_see, m_X0_noteRace, m_X5_isCell, m_X0_noteTaking, m_X5_isCell, m_X0_seeStuck, m_X0_noteStuck, m_X0_leastInRing, m_X1_init, m_X5_isCell, m_X5_isCell, m_X5_isCell, m_X5_isCell, m_X5_isCell, m_X5_isCell, m_X5_isCell, m_X2_init, m_X5_isCell, m_X5_isCell, m_X5_isCell, m_X5_isCell, m_X5_isCell, m_X5_isCell, m_X5_isCell, m_X5_isCell, m_X5_isCell, m_X5_isCell, m_X5_isCell, m_X5_isCell, m_X3_init, m_X3_localSlot, m_X3_enterFirst, m_X3_go, m_X3_pickSlots, m_X3_pick, m_X3_makeEven, m_X3_pack, m_X3_unpack]
def msL_1 : List pM := [m_X3_keep, m_X3_comeBack, m_X3_listReady, m_X3_isReady, m_X3_choices, m_X3_needsEmptyQueue, m_X3_hasRoom, m_X3_waitsFor, m_X3_waiters, m_X3_sort, m_X3_locksOf, m_X3_lockAhead, m_X3_take, m_X3_workOut, m_X3_setLocal, m_X3_touch, m_X3_swapIf, m_X3_addTo, m_X3_useLock, m_X3_leave, m_X3_wake, m_X3_takeBack, m_X3_meet, m_X3_begins, m_X3_tell, m_X5_isCell, m_X3_loadable, m_X3_store, m_X3_flush, m_X3_write, m_X3_viewed, m_X3_view, m_X3_look, m_X3_lookAtLast, m_X3_learn, m_X4_init, m_X4_put, m_X4_set, m_X4_workOut, m_X4_apply]
def msL_2 : List pM := [m_X5_init, m_X5_clear, m_X5_copy, m_X5_find, m_X5_named, m_X5_isCell, m_X5_isLock, m_X5_isThread, m_X5_localOf, m_X5_isTold, m_X5_hasCell, m_X5_isCell, m_X5_hasThread, m_X5_hasLocal, m_X5_isVolatile, m_X5_addCell, m_X5_addLock, m_X5_addThread, m_X5_addLocal, m_X5_addLine, m_X5_link, m_X5_layWays, m_X5_behind, m_X5_touches, m_X5_clash, m_X5_change, m_X5_ahead, m_X5_swap, m_X5_leaveOut, m_X5_unlink, m_X5_empty, m_X5_reuse, m_X6_init, m_X6_open, m_X6_blame, m_X6_need, m_X6_skip, m_X6_readProgram, m_X6_isNewName, m_X6_readCell]
def msL_3 : List pM := [m_X6_readLock, m_X6_readThread, m_X6_readBlock, m_X6_mayBegin, m_X6_readStatement, m_X6_hasExp, m_X6_readTarget, m_X6_readLocal, m_X6_localHere, m_X6_readObject, m_X6_needName, m_X6_readInto, m_X6_aimThreads, m_X6_levelOf, m_X6_readLevel, m_X6_readSide, m_X6_countNode, m_X6_beginsOne, m_X6_isStray, m_X6_readOne, m_X6_readNode, m_X5_isCell, m_X5_isCell, m_X6_readAsked, m_X6_readCellOrLocal, m_X7_init, m_X7_clear, m_X7_placeOf, m_X7_isSame, m_X7_numberOf, m_X7_put, m_X7_refer, m_X7_name, m_X8_init, m_X8_start, m_X8_take, m_X8_putAhead, m_X5_isCell, m_X8_leadsTo, m_X8_tells]
def msL_4 : List pM := [m_X8_hears, m_X5_isCell, m_X5_isCell, m_X9_init, m_X9_codes, m_X9_append, m_X9_cut, m_X9_advance, m_X9_byteAt, m_X9_isLetter, m_X9_isDigit, m_X9_skipBlanks, m_X9_cutOne, m_X9_cutWord, m_X9_cutNumber, m_X9_cutSign, m_X10_init, m_X10_tryAll, m_X10_lookAround, m_X10_quietStep, m_X10_tryStep, m_X10_isWhile, m_X10_noteEnd, m_X5_isCell, m_X10_hasOutcome, m_X10_stateOfOutcome, m_X10_slotOfOutcome, m_X10_stateOf, m_X10_threadOf, m_X5_isCell, m_X5_isCell, m_X5_isCell, m_X10_fewestSwitches, m_X10_countSwitches, m_X10_leaveFrom, m_X10_reach, m_X10_countChances, m_X10_drawnOutcome, m_X10_arrange, m_X10_firstReady]
def msL_5 : List pM := [m_X10_lower, m_X11_init, m_X11_feed, m_X11_end, m_X11_program, m_X11_count, m_X5_isCell, m_X11_begin, m_X11_ready, m_X11_turn, m_X11_thread, m_X11_local, m_X11_cell, m_X5_isCell, m_X5_isCell, m_X5_isCell, m_X5_isCell, m_X5_isCell, m_X5_isCell, m_X5_isCell, m_X11_explore, m_X11_explored, m_X11_outcome, m_X11_outcomeCell, m_X11_outcomeLocal, m_X5_isCell, m_X5_isCell, m_X11_chances, m_X5_isCell, m_X5_isCell, m_X5_isCell, m_X5_isCell, m_X5_isCell, m_X5_isCell, m_X11_rewrite, m_X11_drop, m_X11_sound, m_X11_gained, m_X11_isWay, m_X11_forgetRewritten]
def msL_6 : List pM := [m_X5_isCell, m_X5_isCell, m_X5_isCell, m_X5_isCell, m_X5_isCell, m_X5_isCell, m_X5_isCell, m_X5_isCell, m_X5_isCell, m_X5_isCell, m_X5_isCell, m_X5_isCell, m_X5_isCell, m_X5_isCell, m_X5_isCell, m_X5_isCell, m_X5_isCell, m_X5_isCell, m_X5_isCell, m_X5_isCell, m_X5_isCell, m_X5_isCell, m_X5_isCell, m_X5_isCell, m_X5_isCell, m_X5_isCell, m_X5_isCell, m_X5_isCell, m_X5_isCell, m_X5_isCell, m_X5_isCell, m_X5_isCell, m_X5_isCell, m_X5_isCell, m_X5_isCell, m_X5_isCell, m_X5_isCell, m_X5_isCell, m_X5_isCell, m_X5_isCell]
def msL_7 : List pM := [m_X5_isCell, m_X5_isCell, m_X5_isCell, m_X5_isCell, m_X5_isCell, m_X5_isCell, m_X5_isCell, m_X5_isCell, m_X5_isCell, m_X5_isCell, m_X5_isCell, m_X5_isCell, m_X5_isCell, m_X5_isCell, m_X5_isCell, m_X5_isCell, m_X5_isCell, m_X5_isCell, m_X5_isCell, m_X5_isCell, m_X5_isCell, m_X5_isCell, m_X5_isCell, m_X5_isCell, m_X5_isCell, m_X5_isCell, m_X5_isCell, m_X5_isCell, m_X5_isCell, m_X5_isCell, m_X5_isCell, m_X5_isCell, m_X5_isCell, m_X5_isCell, m_X5_isCell, m_X5_isCell, m_X5_isCell, m_X5_isCell, m_X5_isCell, m_X5_isCell]
def msL_8 : List pM := [m_X5_isCell, m_X5_isCell, m_X5_isCell, m_X5_isCell, m_X5_isCell, m_X5_isCell, m_X5_isCell, m_X5_isCell, m_X5_isCell, m_X5_isCell, m_X5_isCell, m_X5_isCell, m_X5_isCell, m_X5_isCell, m_X5_isCell, m_X5_isCell, m_X5_isCell, m_X5_isCell, m_X5_isCell, m_X5_isCell, m_X5_isCell, m_X5_isCell, m_X5_isCell, m_X5_isCell, m_X5_isCell, m_X5_isCell, m_X5_isCell, m_X5_isCell, m_X5_isCell, m_X5_isCell, m_X5_isCell, m_X5_isCell, m_X5_isCell, m_X5_isCell, m_X5_isCell, m_X5_isCell, m_X5_isCell, m_X5_isCell, m_X5_isCell, m_X5_isCell]
def msL_9 : List pM := [m_X5_isCell, m_X5_isCell, m_X5_isCell, m_X5_isCell, m_X5_isCell, m_X5_isCell, m_X5_isCell, m_X5_isCell, m_X5_isCell, m_X5_isCell, m_X5_isCell, m_X5_isCell, m_X5_isCell, m_X5_isCell, m_X5_isCell, m_X5_isCell, m_X5_isCell, m_X5_isCell, m_X5_isCell, m_X5_isCell, m_X5_isCell, m_X5_isCell, m_X5_isCell, m_X5_isCell, m_X5_isCell, m_X5_isCell, m_X5_isCell, m_X5_isCell, m_X5_isCell, m_X5_isCell, m_X5_isCell, m_X5_isCell, m_X5_isCell, m_X5_isCell, m_X5_isCell, m_X5_isCell, m_X5_isCell, m_X5_isCell, m_X5_isCell, m_X5_isCell]
def msL_10 : List pM := [m_X5_isCell, m_X5_isCell, m_X5_isCell, m_X5_isCell, m_X5_isCell, m_X5_isCell, m_X5_isCell, m_X5_isCell, m_J11_isValidCodePoint_9a6ad, m_J11_highSurrogate_5068e, m_J11_lowSurrogate_5068e, m_J9_max_7cf53, m_J9_min_7cf53, m_J0_length_8abf5, m_J0_charAt_5068e, m_J0_indexOf_0f7a4, m_J0_indexOf_7cf53, m_J0_coder_7d493, m_J0_isLatin1_aae02, m_J0_checkIndex_df160, m_J0_checkBoundsBeginEnd_23922, m_J1_charAt_3b067, m_J1_canEncode_9a6ad, m_J1_indexOf_4cfef, m_J1_indexOfChar_4cfef, m_J2_getChar_3b067, m_J2_length_9d52b, m_J2_indexOf_4cfef, m_J2_indexOfChar_4cfef, m_J2_indexOfCharUnsafe_4cfef, m_J2_indexOfSupplementary_4cfef, m_J2_charAt_3b067, m_J2_checkIndex_2214a, m_J2_checkBoundsBeginEnd_d044e, m_J7_fill_d0a16, m_J7_fill_53178, m_J3_checkIndex_8e157, m_J3_checkFromToIndex_8c36e, m_L_cell, m_L_say]
def msL_11 : List pM := [m_L_statement, m_L_tell, m_L_isIn, m_L_sum]
def msL : List pM := msL_0 ++ (msL_1 ++ (msL_2 ++ (msL_3 ++ (msL_4 ++ (msL_5 ++ (msL_6 ++ (msL_7 ++ (msL_8 ++ (msL_9 ++ (msL_10 ++ (msL_11)))))))))))
set_option maxRecDepth 100000 in
theorem ix_X0_init : msL[0]? = some m_X0_init := rfl
set_option maxRecDepth 100000 in
theorem ix_X0_clear : msL[1]? = some m_X0_clear := rfl
set_option maxRecDepth 100000 in
theorem ix_X0_see : msL[2]? = some m_X0_see := rfl
set_option maxRecDepth 100000 in
theorem ix_X0_noteRace : msL[3]? = some m_X0_noteRace := rfl
set_option maxRecDepth 100000 in
theorem ix_X0_noteTaking : msL[5]? = some m_X0_noteTaking := rfl
set_option maxRecDepth 100000 in
theorem ix_X0_seeStuck : msL[7]? = some m_X0_seeStuck := rfl
set_option maxRecDepth 100000 in
theorem ix_X0_noteStuck : msL[8]? = some m_X0_noteStuck := rfl
set_option maxRecDepth 100000 in
theorem ix_X0_leastInRing : msL[9]? = some m_X0_leastInRing := rfl
set_option maxRecDepth 100000 in
theorem ix_X1_init : msL[10]? = some m_X1_init := rfl
set_option maxRecDepth 100000 in
theorem ix_X2_init : msL[18]? = some m_X2_init := rfl
set_option maxRecDepth 100000 in
theorem ix_X3_init : msL[31]? = some m_X3_init := rfl
set_option maxRecDepth 100000 in
theorem ix_X3_localSlot : msL[32]? = some m_X3_localSlot := rfl
set_option maxRecDepth 100000 in
theorem ix_X3_enterFirst : msL[33]? = some m_X3_enterFirst := rfl
set_option maxRecDepth 100000 in
theorem ix_X3_go : msL[34]? = some m_X3_go := rfl
set_option maxRecDepth 100000 in
theorem ix_X3_pickSlots : msL[35]? = some m_X3_pickSlots := rfl
set_option maxRecDepth 100000 in
theorem ix_X3_pick : msL[36]? = some m_X3_pick := rfl
set_option maxRecDepth 100000 in
theorem ix_X3_makeEven : msL[37]? = some m_X3_makeEven := rfl
set_option maxRecDepth 100000 in
theorem ix_X3_pack : msL[38]? = some m_X3_pack := rfl
set_option maxRecDepth 100000 in
theorem ix_X3_unpack : msL[39]? = some m_X3_unpack := rfl
set_option maxRecDepth 100000 in
theorem ix_X3_keep : msL[40]? = some m_X3_keep := rfl
set_option maxRecDepth 100000 in
theorem ix_X3_comeBack : msL[41]? = some m_X3_comeBack := rfl
set_option maxRecDepth 100000 in
theorem ix_X3_listReady : msL[42]? = some m_X3_listReady := rfl
set_option maxRecDepth 100000 in
theorem ix_X3_isReady : msL[43]? = some m_X3_isReady := rfl
set_option maxRecDepth 100000 in
theorem ix_X3_choices : msL[44]? = some m_X3_choices := rfl
set_option maxRecDepth 100000 in
theorem ix_X3_needsEmptyQueue : msL[45]? = some m_X3_needsEmptyQueue := rfl
set_option maxRecDepth 100000 in
theorem ix_X3_hasRoom : msL[46]? = some m_X3_hasRoom := rfl
set_option maxRecDepth 100000 in
theorem ix_X3_waitsFor : msL[47]? = some m_X3_waitsFor := rfl
set_option maxRecDepth 100000 in
theorem ix_X3_waiters : msL[48]? = some m_X3_waiters := rfl
set_option maxRecDepth 100000 in
theorem ix_X3_sort : msL[49]? = some m_X3_sort := rfl
set_option maxRecDepth 100000 in
theorem ix_X3_locksOf : msL[50]? = some m_X3_locksOf := rfl
set_option maxRecDepth 100000 in
theorem ix_X3_lockAhead : msL[51]? = some m_X3_lockAhead := rfl
set_option maxRecDepth 100000 in
theorem ix_X3_take : msL[52]? = some m_X3_take := rfl
set_option maxRecDepth 100000 in
theorem ix_X3_workOut : msL[53]? = some m_X3_workOut := rfl
set_option maxRecDepth 100000 in
theorem ix_X3_setLocal : msL[54]? = some m_X3_setLocal := rfl
set_option maxRecDepth 100000 in
theorem ix_X3_touch : msL[55]? = some m_X3_touch := rfl
set_option maxRecDepth 100000 in
theorem ix_X3_swapIf : msL[56]? = some m_X3_swapIf := rfl
set_option maxRecDepth 100000 in
theorem ix_X3_addTo : msL[57]? = some m_X3_addTo := rfl
set_option maxRecDepth 100000 in
theorem ix_X3_useLock : msL[58]? = some m_X3_useLock := rfl
set_option maxRecDepth 100000 in
theorem ix_X3_leave : msL[59]? = some m_X3_leave := rfl
set_option maxRecDepth 100000 in
theorem ix_X3_wake : msL[60]? = some m_X3_wake := rfl
set_option maxRecDepth 100000 in
theorem ix_X3_takeBack : msL[61]? = some m_X3_takeBack := rfl
set_option maxRecDepth 100000 in
theorem ix_X3_meet : msL[62]? = some m_X3_meet := rfl
set_option maxRecDepth 100000 in
theorem ix_X3_begins : msL[63]? = some m_X3_begins := rfl
set_option maxRecDepth 100000 in
theorem ix_X3_tell : msL[64]? = some m_X3_tell := rfl
set_option maxRecDepth 100000 in
theorem ix_X3_loadable : msL[66]? = some m_X3_loadable := rfl
set_option maxRecDepth 100000 in
theorem ix_X3_store : msL[67]? = some m_X3_store := rfl
set_option maxRecDepth 100000 in
theorem ix_X3_flush : msL[68]? = some m_X3_flush := rfl
set_option maxRecDepth 100000 in
theorem ix_X3_write : msL[69]? = some m_X3_write := rfl
set_option maxRecDepth 100000 in
theorem ix_X3_viewed : msL[70]? = some m_X3_viewed := rfl
set_option maxRecDepth 100000 in
theorem ix_X3_view : msL[71]? = some m_X3_view := rfl
set_option maxRecDepth 100000 in
theorem ix_X3_look : msL[72]? = some m_X3_look := rfl
set_option maxRecDepth 100000 in
theorem ix_X3_lookAtLast : msL[73]? = some m_X3_lookAtLast := rfl
set_option maxRecDepth 100000 in
theorem ix_X3_learn : msL[74]? = some m_X3_learn := rfl
set_option maxRecDepth 100000 in
theorem ix_X4_init : msL[75]? = some m_X4_init := rfl
set_option maxRecDepth 100000 in
theorem ix_X4_put : msL[76]? = some m_X4_put := rfl
set_option maxRecDepth 100000 in
theorem ix_X4_set : msL[77]? = some m_X4_set := rfl
set_option maxRecDepth 100000 in
theorem ix_X4_workOut : msL[78]? = some m_X4_workOut := rfl
set_option maxRecDepth 100000 in
theorem ix_X4_apply : msL[79]? = some m_X4_apply := rfl
set_option maxRecDepth 100000 in
theorem ix_X5_init : msL[80]? = some m_X5_init := rfl
set_option maxRecDepth 100000 in
theorem ix_X5_clear : msL[81]? = some m_X5_clear := rfl
set_option maxRecDepth 100000 in
theorem ix_X5_copy : msL[82]? = some m_X5_copy := rfl
set_option maxRecDepth 100000 in
theorem ix_X5_find : msL[83]? = some m_X5_find := rfl
set_option maxRecDepth 100000 in
theorem ix_X5_named : msL[84]? = some m_X5_named := rfl
set_option maxRecDepth 100000 in
theorem ix_X5_isCell : msL[85]? = some m_X5_isCell := rfl
set_option maxRecDepth 100000 in
theorem ix_X5_isLock : msL[86]? = some m_X5_isLock := rfl
set_option maxRecDepth 100000 in
theorem ix_X5_isThread : msL[87]? = some m_X5_isThread := rfl
set_option maxRecDepth 100000 in
theorem ix_X5_localOf : msL[88]? = some m_X5_localOf := rfl
set_option maxRecDepth 100000 in
theorem ix_X5_isTold : msL[89]? = some m_X5_isTold := rfl
set_option maxRecDepth 100000 in
theorem ix_X5_hasCell : msL[90]? = some m_X5_hasCell := rfl
set_option maxRecDepth 100000 in
theorem ix_X5_hasThread : msL[92]? = some m_X5_hasThread := rfl
set_option maxRecDepth 100000 in
theorem ix_X5_hasLocal : msL[93]? = some m_X5_hasLocal := rfl
set_option maxRecDepth 100000 in
theorem ix_X5_isVolatile : msL[94]? = some m_X5_isVolatile := rfl
set_option maxRecDepth 100000 in
theorem ix_X5_addCell : msL[95]? = some m_X5_addCell := rfl
set_option maxRecDepth 100000 in
theorem ix_X5_addLock : msL[96]? = some m_X5_addLock := rfl
set_option maxRecDepth 100000 in
theorem ix_X5_addThread : msL[97]? = some m_X5_addThread := rfl
set_option maxRecDepth 100000 in
theorem ix_X5_addLocal : msL[98]? = some m_X5_addLocal := rfl
set_option maxRecDepth 100000 in
theorem ix_X5_addLine : msL[99]? = some m_X5_addLine := rfl
set_option maxRecDepth 100000 in
theorem ix_X5_link : msL[100]? = some m_X5_link := rfl
set_option maxRecDepth 100000 in
theorem ix_X5_layWays : msL[101]? = some m_X5_layWays := rfl
set_option maxRecDepth 100000 in
theorem ix_X5_behind : msL[102]? = some m_X5_behind := rfl
set_option maxRecDepth 100000 in
theorem ix_X5_touches : msL[103]? = some m_X5_touches := rfl
set_option maxRecDepth 100000 in
theorem ix_X5_clash : msL[104]? = some m_X5_clash := rfl
set_option maxRecDepth 100000 in
theorem ix_X5_change : msL[105]? = some m_X5_change := rfl
set_option maxRecDepth 100000 in
theorem ix_X5_ahead : msL[106]? = some m_X5_ahead := rfl
set_option maxRecDepth 100000 in
theorem ix_X5_swap : msL[107]? = some m_X5_swap := rfl
set_option maxRecDepth 100000 in
theorem ix_X5_leaveOut : msL[108]? = some m_X5_leaveOut := rfl
set_option maxRecDepth 100000 in
theorem ix_X5_unlink : msL[109]? = some m_X5_unlink := rfl
set_option maxRecDepth 100000 in
theorem ix_X5_empty : msL[110]? = some m_X5_empty := rfl
set_option maxRecDepth 100000 in
theorem ix_X5_reuse : msL[111]? = some m_X5_reuse := rfl
set_option maxRecDepth 100000 in
theorem ix_X6_init : msL[112]? = some m_X6_init := rfl
set_option maxRecDepth 100000 in
theorem ix_X6_open : msL[113]? = some m_X6_open := rfl
set_option maxRecDepth 100000 in
theorem ix_X6_blame : msL[114]? = some m_X6_blame := rfl
set_option maxRecDepth 100000 in
theorem ix_X6_need : msL[115]? = some m_X6_need := rfl
set_option maxRecDepth 100000 in
theorem ix_X6_skip : msL[116]? = some m_X6_skip := rfl
set_option maxRecDepth 100000 in
theorem ix_X6_readProgram : msL[117]? = some m_X6_readProgram := rfl
set_option maxRecDepth 100000 in
theorem ix_X6_isNewName : msL[118]? = some m_X6_isNewName := rfl
set_option maxRecDepth 100000 in
theorem ix_X6_readCell : msL[119]? = some m_X6_readCell := rfl
set_option maxRecDepth 100000 in
theorem ix_X6_readLock : msL[120]? = some m_X6_readLock := rfl
set_option maxRecDepth 100000 in
theorem ix_X6_readThread : msL[121]? = some m_X6_readThread := rfl
set_option maxRecDepth 100000 in
theorem ix_X6_readBlock : msL[122]? = some m_X6_readBlock := rfl
set_option maxRecDepth 100000 in
theorem ix_X6_mayBegin : msL[123]? = some m_X6_mayBegin := rfl
set_option maxRecDepth 100000 in
theorem ix_X6_readStatement : msL[124]? = some m_X6_readStatement := rfl
set_option maxRecDepth 100000 in
theorem ix_X6_hasExp : msL[125]? = some m_X6_hasExp := rfl
set_option maxRecDepth 100000 in
theorem ix_X6_readTarget : msL[126]? = some m_X6_readTarget := rfl
set_option maxRecDepth 100000 in
theorem ix_X6_readLocal : msL[127]? = some m_X6_readLocal := rfl
set_option maxRecDepth 100000 in
theorem ix_X6_localHere : msL[128]? = some m_X6_localHere := rfl
set_option maxRecDepth 100000 in
theorem ix_X6_readObject : msL[129]? = some m_X6_readObject := rfl
set_option maxRecDepth 100000 in
theorem ix_X6_needName : msL[130]? = some m_X6_needName := rfl
set_option maxRecDepth 100000 in
theorem ix_X6_readInto : msL[131]? = some m_X6_readInto := rfl
set_option maxRecDepth 100000 in
theorem ix_X6_aimThreads : msL[132]? = some m_X6_aimThreads := rfl
set_option maxRecDepth 100000 in
theorem ix_X6_levelOf : msL[133]? = some m_X6_levelOf := rfl
set_option maxRecDepth 100000 in
theorem ix_X6_readLevel : msL[134]? = some m_X6_readLevel := rfl
set_option maxRecDepth 100000 in
theorem ix_X6_readSide : msL[135]? = some m_X6_readSide := rfl
set_option maxRecDepth 100000 in
theorem ix_X6_countNode : msL[136]? = some m_X6_countNode := rfl
set_option maxRecDepth 100000 in
theorem ix_X6_beginsOne : msL[137]? = some m_X6_beginsOne := rfl
set_option maxRecDepth 100000 in
theorem ix_X6_isStray : msL[138]? = some m_X6_isStray := rfl
set_option maxRecDepth 100000 in
theorem ix_X6_readOne : msL[139]? = some m_X6_readOne := rfl
set_option maxRecDepth 100000 in
theorem ix_X6_readNode : msL[140]? = some m_X6_readNode := rfl
set_option maxRecDepth 100000 in
theorem ix_X6_readAsked : msL[143]? = some m_X6_readAsked := rfl
set_option maxRecDepth 100000 in
theorem ix_X6_readCellOrLocal : msL[144]? = some m_X6_readCellOrLocal := rfl
set_option maxRecDepth 100000 in
theorem ix_X7_init : msL[145]? = some m_X7_init := rfl
set_option maxRecDepth 100000 in
theorem ix_X7_clear : msL[146]? = some m_X7_clear := rfl
set_option maxRecDepth 100000 in
theorem ix_X7_placeOf : msL[147]? = some m_X7_placeOf := rfl
set_option maxRecDepth 100000 in
theorem ix_X7_isSame : msL[148]? = some m_X7_isSame := rfl
set_option maxRecDepth 100000 in
theorem ix_X7_numberOf : msL[149]? = some m_X7_numberOf := rfl
set_option maxRecDepth 100000 in
theorem ix_X7_put : msL[150]? = some m_X7_put := rfl
set_option maxRecDepth 100000 in
theorem ix_X7_refer : msL[151]? = some m_X7_refer := rfl
set_option maxRecDepth 100000 in
theorem ix_X7_name : msL[152]? = some m_X7_name := rfl
set_option maxRecDepth 100000 in
theorem ix_X8_init : msL[153]? = some m_X8_init := rfl
set_option maxRecDepth 100000 in
theorem ix_X8_start : msL[154]? = some m_X8_start := rfl
set_option maxRecDepth 100000 in
theorem ix_X8_take : msL[155]? = some m_X8_take := rfl
set_option maxRecDepth 100000 in
theorem ix_X8_putAhead : msL[156]? = some m_X8_putAhead := rfl
set_option maxRecDepth 100000 in
theorem ix_X8_leadsTo : msL[158]? = some m_X8_leadsTo := rfl
set_option maxRecDepth 100000 in
theorem ix_X8_tells : msL[159]? = some m_X8_tells := rfl
set_option maxRecDepth 100000 in
theorem ix_X8_hears : msL[160]? = some m_X8_hears := rfl
set_option maxRecDepth 100000 in
theorem ix_X9_init : msL[163]? = some m_X9_init := rfl
set_option maxRecDepth 100000 in
theorem ix_X9_codes : msL[164]? = some m_X9_codes := rfl
set_option maxRecDepth 100000 in
theorem ix_X9_append : msL[165]? = some m_X9_append := rfl
set_option maxRecDepth 100000 in
theorem ix_X9_cut : msL[166]? = some m_X9_cut := rfl
set_option maxRecDepth 100000 in
theorem ix_X9_advance : msL[167]? = some m_X9_advance := rfl
set_option maxRecDepth 100000 in
theorem ix_X9_byteAt : msL[168]? = some m_X9_byteAt := rfl
set_option maxRecDepth 100000 in
theorem ix_X9_isLetter : msL[169]? = some m_X9_isLetter := rfl
set_option maxRecDepth 100000 in
theorem ix_X9_isDigit : msL[170]? = some m_X9_isDigit := rfl
set_option maxRecDepth 100000 in
theorem ix_X9_skipBlanks : msL[171]? = some m_X9_skipBlanks := rfl
set_option maxRecDepth 100000 in
theorem ix_X9_cutOne : msL[172]? = some m_X9_cutOne := rfl
set_option maxRecDepth 100000 in
theorem ix_X9_cutWord : msL[173]? = some m_X9_cutWord := rfl
set_option maxRecDepth 100000 in
theorem ix_X9_cutNumber : msL[174]? = some m_X9_cutNumber := rfl
set_option maxRecDepth 100000 in
theorem ix_X9_cutSign : msL[175]? = some m_X9_cutSign := rfl
set_option maxRecDepth 100000 in
theorem ix_X10_init : msL[176]? = some m_X10_init := rfl
set_option maxRecDepth 100000 in
theorem ix_X10_tryAll : msL[177]? = some m_X10_tryAll := rfl
set_option maxRecDepth 100000 in
theorem ix_X10_lookAround : msL[178]? = some m_X10_lookAround := rfl
set_option maxRecDepth 100000 in
theorem ix_X10_quietStep : msL[179]? = some m_X10_quietStep := rfl
set_option maxRecDepth 100000 in
theorem ix_X10_tryStep : msL[180]? = some m_X10_tryStep := rfl
set_option maxRecDepth 100000 in
theorem ix_X10_isWhile : msL[181]? = some m_X10_isWhile := rfl
set_option maxRecDepth 100000 in
theorem ix_X10_noteEnd : msL[182]? = some m_X10_noteEnd := rfl
set_option maxRecDepth 100000 in
theorem ix_X10_hasOutcome : msL[184]? = some m_X10_hasOutcome := rfl
set_option maxRecDepth 100000 in
theorem ix_X10_stateOfOutcome : msL[185]? = some m_X10_stateOfOutcome := rfl
set_option maxRecDepth 100000 in
theorem ix_X10_slotOfOutcome : msL[186]? = some m_X10_slotOfOutcome := rfl
set_option maxRecDepth 100000 in
theorem ix_X10_stateOf : msL[187]? = some m_X10_stateOf := rfl
set_option maxRecDepth 100000 in
theorem ix_X10_threadOf : msL[188]? = some m_X10_threadOf := rfl
set_option maxRecDepth 100000 in
theorem ix_X10_fewestSwitches : msL[192]? = some m_X10_fewestSwitches := rfl
set_option maxRecDepth 100000 in
theorem ix_X10_countSwitches : msL[193]? = some m_X10_countSwitches := rfl
set_option maxRecDepth 100000 in
theorem ix_X10_leaveFrom : msL[194]? = some m_X10_leaveFrom := rfl
set_option maxRecDepth 100000 in
theorem ix_X10_reach : msL[195]? = some m_X10_reach := rfl
set_option maxRecDepth 100000 in
theorem ix_X10_countChances : msL[196]? = some m_X10_countChances := rfl
set_option maxRecDepth 100000 in
theorem ix_X10_drawnOutcome : msL[197]? = some m_X10_drawnOutcome := rfl
set_option maxRecDepth 100000 in
theorem ix_X10_arrange : msL[198]? = some m_X10_arrange := rfl
set_option maxRecDepth 100000 in
theorem ix_X10_firstReady : msL[199]? = some m_X10_firstReady := rfl
set_option maxRecDepth 100000 in
theorem ix_X10_lower : msL[200]? = some m_X10_lower := rfl
set_option maxRecDepth 100000 in
theorem ix_X11_init : msL[201]? = some m_X11_init := rfl
set_option maxRecDepth 100000 in
theorem ix_X11_feed : msL[202]? = some m_X11_feed := rfl
set_option maxRecDepth 100000 in
theorem ix_X11_end : msL[203]? = some m_X11_end := rfl
set_option maxRecDepth 100000 in
theorem ix_X11_program : msL[204]? = some m_X11_program := rfl
set_option maxRecDepth 100000 in
theorem ix_X11_count : msL[205]? = some m_X11_count := rfl
set_option maxRecDepth 100000 in
theorem ix_X11_begin : msL[207]? = some m_X11_begin := rfl
set_option maxRecDepth 100000 in
theorem ix_X11_ready : msL[208]? = some m_X11_ready := rfl
set_option maxRecDepth 100000 in
theorem ix_X11_turn : msL[209]? = some m_X11_turn := rfl
set_option maxRecDepth 100000 in
theorem ix_X11_thread : msL[210]? = some m_X11_thread := rfl
set_option maxRecDepth 100000 in
theorem ix_X11_local : msL[211]? = some m_X11_local := rfl
set_option maxRecDepth 100000 in
theorem ix_X11_cell : msL[212]? = some m_X11_cell := rfl
set_option maxRecDepth 100000 in
theorem ix_X11_explore : msL[220]? = some m_X11_explore := rfl
set_option maxRecDepth 100000 in
theorem ix_X11_explored : msL[221]? = some m_X11_explored := rfl
set_option maxRecDepth 100000 in
theorem ix_X11_outcome : msL[222]? = some m_X11_outcome := rfl
set_option maxRecDepth 100000 in
theorem ix_X11_outcomeCell : msL[223]? = some m_X11_outcomeCell := rfl
set_option maxRecDepth 100000 in
theorem ix_X11_outcomeLocal : msL[224]? = some m_X11_outcomeLocal := rfl
set_option maxRecDepth 100000 in
theorem ix_X11_chances : msL[227]? = some m_X11_chances := rfl
set_option maxRecDepth 100000 in
theorem ix_X11_rewrite : msL[234]? = some m_X11_rewrite := rfl
set_option maxRecDepth 100000 in
theorem ix_X11_drop : msL[235]? = some m_X11_drop := rfl
set_option maxRecDepth 100000 in
theorem ix_X11_sound : msL[236]? = some m_X11_sound := rfl
set_option maxRecDepth 100000 in
theorem ix_X11_gained : msL[237]? = some m_X11_gained := rfl
set_option maxRecDepth 100000 in
theorem ix_X11_isWay : msL[238]? = some m_X11_isWay := rfl
set_option maxRecDepth 100000 in
theorem ix_X11_forgetRewritten : msL[239]? = some m_X11_forgetRewritten := rfl
set_option maxRecDepth 100000 in
theorem ix_J11_isValidCodePoint_9a6ad : msL[408]? = some m_J11_isValidCodePoint_9a6ad := rfl
set_option maxRecDepth 100000 in
theorem ix_J11_highSurrogate_5068e : msL[409]? = some m_J11_highSurrogate_5068e := rfl
set_option maxRecDepth 100000 in
theorem ix_J11_lowSurrogate_5068e : msL[410]? = some m_J11_lowSurrogate_5068e := rfl
set_option maxRecDepth 100000 in
theorem ix_J9_max_7cf53 : msL[411]? = some m_J9_max_7cf53 := rfl
set_option maxRecDepth 100000 in
theorem ix_J9_min_7cf53 : msL[412]? = some m_J9_min_7cf53 := rfl
set_option maxRecDepth 100000 in
theorem ix_J0_length_8abf5 : msL[413]? = some m_J0_length_8abf5 := rfl
set_option maxRecDepth 100000 in
theorem ix_J0_charAt_5068e : msL[414]? = some m_J0_charAt_5068e := rfl
set_option maxRecDepth 100000 in
theorem ix_J0_indexOf_0f7a4 : msL[415]? = some m_J0_indexOf_0f7a4 := rfl
set_option maxRecDepth 100000 in
theorem ix_J0_indexOf_7cf53 : msL[416]? = some m_J0_indexOf_7cf53 := rfl
set_option maxRecDepth 100000 in
theorem ix_J0_coder_7d493 : msL[417]? = some m_J0_coder_7d493 := rfl
set_option maxRecDepth 100000 in
theorem ix_J0_isLatin1_aae02 : msL[418]? = some m_J0_isLatin1_aae02 := rfl
set_option maxRecDepth 100000 in
theorem ix_J0_checkIndex_df160 : msL[419]? = some m_J0_checkIndex_df160 := rfl
set_option maxRecDepth 100000 in
theorem ix_J0_checkBoundsBeginEnd_23922 : msL[420]? = some m_J0_checkBoundsBeginEnd_23922 := rfl
set_option maxRecDepth 100000 in
theorem ix_J1_charAt_3b067 : msL[421]? = some m_J1_charAt_3b067 := rfl
set_option maxRecDepth 100000 in
theorem ix_J1_canEncode_9a6ad : msL[422]? = some m_J1_canEncode_9a6ad := rfl
set_option maxRecDepth 100000 in
theorem ix_J1_indexOf_4cfef : msL[423]? = some m_J1_indexOf_4cfef := rfl
set_option maxRecDepth 100000 in
theorem ix_J1_indexOfChar_4cfef : msL[424]? = some m_J1_indexOfChar_4cfef := rfl
set_option maxRecDepth 100000 in
theorem ix_J2_getChar_3b067 : msL[425]? = some m_J2_getChar_3b067 := rfl
set_option maxRecDepth 100000 in
theorem ix_J2_length_9d52b : msL[426]? = some m_J2_length_9d52b := rfl
set_option maxRecDepth 100000 in
theorem ix_J2_indexOf_4cfef : msL[427]? = some m_J2_indexOf_4cfef := rfl
set_option maxRecDepth 100000 in
theorem ix_J2_indexOfChar_4cfef : msL[428]? = some m_J2_indexOfChar_4cfef := rfl
set_option maxRecDepth 100000 in
theorem ix_J2_indexOfCharUnsafe_4cfef : msL[429]? = some m_J2_indexOfCharUnsafe_4cfef := rfl
set_option maxRecDepth 100000 in
theorem ix_J2_indexOfSupplementary_4cfef : msL[430]? = some m_J2_indexOfSupplementary_4cfef := rfl
set_option maxRecDepth 100000 in
theorem ix_J2_charAt_3b067 : msL[431]? = some m_J2_charAt_3b067 := rfl
set_option maxRecDepth 100000 in
theorem ix_J2_checkIndex_2214a : msL[432]? = some m_J2_checkIndex_2214a := rfl
set_option maxRecDepth 100000 in
theorem ix_J2_checkBoundsBeginEnd_d044e : msL[433]? = some m_J2_checkBoundsBeginEnd_d044e := rfl
set_option maxRecDepth 100000 in
theorem ix_J7_fill_d0a16 : msL[434]? = some m_J7_fill_d0a16 := rfl
set_option maxRecDepth 100000 in
theorem ix_J7_fill_53178 : msL[435]? = some m_J7_fill_53178 := rfl
set_option maxRecDepth 100000 in
theorem ix_J3_checkIndex_8e157 : msL[436]? = some m_J3_checkIndex_8e157 := rfl
set_option maxRecDepth 100000 in
theorem ix_J3_checkFromToIndex_8c36e : msL[437]? = some m_J3_checkFromToIndex_8c36e := rfl
set_option maxRecDepth 100000 in
theorem ix_L_cell : msL[438]? = some m_L_cell := rfl
set_option maxRecDepth 100000 in
theorem ix_L_say : msL[439]? = some m_L_say := rfl
set_option maxRecDepth 100000 in
theorem ix_L_statement : msL[440]? = some m_L_statement := rfl
set_option maxRecDepth 100000 in
theorem ix_L_tell : msL[441]? = some m_L_tell := rfl
set_option maxRecDepth 100000 in
theorem ix_L_isIn : msL[442]? = some m_L_isIn := rfl
set_option maxRecDepth 100000 in
theorem ix_L_sum : msL[443]? = some m_L_sum := rfl
