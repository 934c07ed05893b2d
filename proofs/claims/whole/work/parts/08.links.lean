def en_mp : List (Nat × Nat × Nat × Nat) := [(0, 0, 0, 0), (800, 79, 798, 799), (804, 79, 803, 20), (811, 79, 810, 21), (819, 79, 818, 22), (822, 79, 821, 0), (826, 79, 825, 23), (830, 79, 829, 24), (955, 79, 953, 954), (0, 0, 0, 0), (592, 77, 590, 591), (447, 77, 445, 446), (531, 77, 529, 530), (503, 77, 501, 502), (507, 77, 505, 506), (519, 77, 517, 518), (511, 77, 509, 510), (523, 77, 521, 522), (488, 77, 486, 487), (535, 77, 533, 534), (568, 77, 566, 567), (563, 77, 561, 562), (559, 77, 557, 558), (572, 77, 570, 571), (863, 77, 861, 862), (470, 77, 468, 469), (480, 77, 478, 479), (749, 77, 747, 748), (741, 77, 739, 740), (934, 77, 932, 933), (735, 77, 733, 734), (881, 77, 879, 880), (900, 77, 898, 899), (971, 77, 969, 970), (976, 77, 974, 975), (984, 77, 982, 983), (0, 0, 0, 0), (731, 78, 729, 730), (745, 78, 744, 18), (782, 78, 780, 781), (778, 78, 776, 777), (774, 78, 773, 19), (770, 78, 768, 769), (791, 78, 789, 790), (0, 0, 0, 0), (580, 80, 578, 579), (597, 80, 595, 596), (601, 80, 600, 7), (604, 80, 603, 0), (614, 80, 613, 9), (609, 80, 608, 8), (666, 80, 665, 10), (680, 80, 679, 13), (687, 80, 686, 14), (693, 80, 692, 15), (698, 80, 697, 16), (708, 80, 707, 17), (670, 80, 669, 11), (674, 80, 673, 12), (0, 0, 0, 0), (411, 81, 409, 410), (407, 81, 405, 406), (395, 81, 393, 394), (453, 81, 451, 452), (391, 81, 389, 390), (416, 81, 414, 415), (420, 81, 419, 2), (0, 0, 0, 0), (377, 76, 375, 376), (399, 76, 397, 398), (424, 76, 422, 423), (435, 76, 433, 434), (439, 76, 437, 438), (443, 76, 441, 442), (457, 76, 455, 456), (492, 76, 490, 491), (496, 76, 494, 495), (515, 76, 513, 514), (527, 76, 525, 526), (539, 76, 537, 538), (547, 76, 545, 546), (576, 76, 574, 575), (584, 76, 582, 583), (588, 76, 586, 587), (715, 76, 713, 714), (719, 76, 717, 718), (723, 76, 721, 722), (727, 76, 725, 726), (753, 76, 751, 752), (757, 76, 755, 756), (762, 76, 760, 761), (766, 76, 764, 765), (787, 76, 785, 786), (796, 76, 794, 795), (834, 76, 832, 833), (855, 76, 853, 854), (859, 76, 857, 858), (868, 76, 866, 867), (873, 76, 871, 872), (877, 76, 875, 876), (885, 76, 883, 884), (889, 76, 887, 888), (896, 76, 894, 895), (905, 76, 903, 904), (909, 76, 907, 908), (913, 76, 911, 912), (918, 76, 916, 917), (922, 76, 920, 921), (930, 76, 928, 929), (938, 76, 936, 937), (942, 76, 940, 941), (947, 76, 945, 946), (959, 76, 957, 958), (967, 76, 965, 966), (980, 76, 978, 979), (988, 76, 986, 987), (992, 76, 990, 991), (996, 76, 994, 995), (1000, 76, 998, 999), (383, 76, 382, 0), (380, 76, 379, 0), (499, 76, 498, 0), (460, 76, 459, 0), (892, 76, 891, 0), (844, 76, 843, 0), (387, 76, 386, 0), (403, 76, 402, 1), (428, 76, 427, 3), (555, 76, 554, 6), (551, 76, 550, 5), (466, 76, 465, 4), (1004, 76, 1003, 30), (848, 76, 847, 26), (926, 76, 925, 27), (838, 76, 837, 25), (841, 76, 840, 0), (851, 76, 850, 0), (951, 76, 950, 28), (963, 76, 962, 29), (0, 0, 0, 0), (1151, 82, 1150, 31), (1145, 82, 1144, 0), (1182, 82, 1181, 33), (1232, 82, 1231, 38), (1201, 82, 1200, 0), (1141, 82, 1139, 1140), (1162, 82, 1161, 0), (1159, 82, 1158, 32), (1155, 82, 1153, 1154), (1166, 82, 1164, 1165), (1170, 82, 1168, 1169), (1174, 82, 1172, 1173), (1178, 82, 1176, 1177), (1190, 82, 1189, 0), (1198, 82, 1197, 35), (1186, 82, 1184, 1185), (1205, 82, 1203, 1204), (1216, 82, 1215, 36), (1209, 82, 1207, 1208), (1224, 82, 1223, 37), (1220, 82, 1218, 1219), (1228, 82, 1226, 1227), (1239, 82, 1238, 0), (1236, 82, 1234, 1235), (1262, 82, 1261, 42), (1258, 82, 1257, 41), (1254, 82, 1253, 40), (1250, 82, 1249, 39), (1246, 82, 1244, 1245), (1266, 82, 1264, 1265), (1270, 82, 1268, 1269), (1274, 82, 1272, 1273), (1279, 82, 1277, 1278), (1307, 82, 1306, 0), (1310, 82, 1309, 0), (1304, 82, 1303, 46), (1333, 82, 1332, 51), (1319, 82, 1318, 48), (1329, 82, 1328, 50), (1325, 82, 1324, 49), (1341, 82, 1340, 52), (1345, 82, 1344, 53), (1353, 82, 1352, 54), (1314, 82, 1313, 47), (1300, 82, 1299, 45), (1283, 82, 1281, 1282), (1357, 82, 1355, 1356), (1361, 82, 1359, 1360), (1365, 82, 1363, 1364), (1194, 82, 1193, 34), (1377, 82, 1376, 56), (1393, 82, 1392, 58), (1373, 82, 1372, 55), (1385, 82, 1384, 57), (1369, 82, 1367, 1368), (1381, 82, 1379, 1380), (1389, 82, 1387, 1388), (1401, 82, 1400, 59), (1397, 82, 1395, 1396), (1410, 82, 1409, 60), (1422, 82, 1421, 63), (1418, 82, 1417, 62), (1414, 82, 1413, 61), (1479, 82, 1478, 69), (1405, 82, 1403, 1404), (1430, 82, 1429, 64), (1426, 82, 1424, 1425), (1434, 82, 1432, 1433), (1438, 82, 1436, 1437), (1442, 82, 1440, 1441), (1446, 82, 1444, 1445), (1450, 82, 1448, 1449), (1454, 82, 1452, 1453), (1475, 82, 1474, 68), (1471, 82, 1470, 67), (1467, 82, 1466, 66), (1463, 82, 1462, 65), (1458, 82, 1456, 1457), (1483, 82, 1481, 1482), (1487, 82, 1485, 1486), (1495, 82, 1494, 70), (1491, 82, 1489, 1490), (1499, 82, 1497, 1498), (1507, 82, 1506, 71), (1503, 82, 1501, 1502), (1511, 82, 1509, 1510), (1515, 82, 1513, 1514), (1521, 82, 1519, 1520), (1525, 82, 1523, 1524), (1529, 82, 1527, 1528), (1537, 82, 1536, 72), (1533, 82, 1531, 1532), (1545, 82, 1544, 73), (1541, 82, 1539, 1540), (1554, 82, 1553, 74), (1550, 82, 1548, 1549), (1558, 82, 1556, 1557), (1287, 82, 1286, 43), (1296, 82, 1295, 0), (1293, 82, 1292, 44), (1562, 82, 1560, 1561), (1566, 82, 1564, 1565), (1570, 82, 1568, 1569), (473, 84, 472, 0), (0, 0, 0, 0), (0, 0, 0, 0), (618, 86, 616, 617), (628, 86, 626, 627), (622, 86, 620, 621), (632, 86, 630, 631), (638, 86, 637, 0), (635, 87, 634, 0), (0, 0, 0, 0), (0, 0, 0, 0), (0, 0, 0, 0), (0, 0, 0, 0), (643, 88, 642, 0), (0, 0, 0, 0)]
def en_mlp : List Nat := [801, 808, 820, 805, 806, 807, 812, 816, 823, 827, 448, 564, 565, 560, 481, 736, 901, 732, 738, 742, 746, 775, 779, 783, 771, 792, 598, 606, 602, 605, 615, 625, 611, 663, 676, 677, 683, 684, 690, 695, 705, 667, 681, 688, 671, 709, 710, 412, 392, 417, 378, 381, 384, 388, 400, 413, 425, 408, 404, 444, 449, 450, 458, 463, 497, 500, 504, 508, 516, 520, 528, 532, 548, 569, 577, 589, 594, 485, 728, 758, 767, 788, 797, 835, 842, 860, 864, 845, 471, 878, 890, 897, 552, 556, 914, 923, 931, 943, 948, 960, 968, 973, 981, 1001, 467, 477, 839, 849, 952, 1143, 1148, 1156, 1160, 1179, 1188, 1191, 1195, 1199, 1213, 1221, 1229, 1237, 1259, 1255, 1247, 1251, 1305, 1308, 1320, 1321, 1330, 1301, 1326, 1342, 1322, 1316, 1338, 1350, 1311, 1284, 1297, 1290, 1374, 1370, 1382, 1390, 1398, 1419, 1415, 1407, 1411, 1427, 1472, 1476, 1468, 1464, 1460, 1492, 1504, 1534, 1542, 1551, 1294, 619, 629, 633, 641, 636, 374, 1138, 396, 1152, 421, 1163, 432, 1167, 436, 1171, 440, 1175, 454, 1183, 489, 1202, 493, 1206, 512, 1217, 524, 1225, 536, 1233, 544, 1243, 573, 1271, 581, 1276, 585, 1280, 712, 1354, 716, 1358, 720, 1362, 724, 1366, 750, 1378, 754, 1386, 759, 1394, 763, 1402, 784, 1423, 793, 1455, 831, 1488, 852, 1526, 856, 1480, 865, 1484, 870, 1496, 874, 1500, 882, 1508, 886, 1512, 893, 1518, 902, 1263, 906, 1267, 910, 1435, 915, 1431, 919, 1451, 927, 1447, 935, 1439, 939, 1443, 944, 1522, 956, 1530, 964, 1538, 977, 1547, 985, 1555, 989, 1559, 993, 1563, 997, 1567]
def en_flp : List Nat := [132, 229, 231, 232, 233, 223, 225, 230, 227, 234, 119, 236, 235, 237, 141, 238, 240, 125, 157, 153, 241, 242, 243, 239, 115, 118, 123, 128, 130, 135, 137, 139, 143, 145, 147, 156, 160, 150, 152, 131, 201, 203, 124, 205, 207, 120, 140, 158, 154, 287, 295, 289, 293, 294, 291, 298, 121, 296, 116, 126, 148, 133, 297, 326, 328, 330, 332, 349, 329, 333, 331, 327, 343, 136, 122, 117, 149, 134, 348, 288, 345, 292, 290, 138, 142, 144, 146, 151, 159, 155, 161, 127, 346, 202, 204, 206, 347, 224, 226, 228, 351, 129, 344, 352, 350, 1022, 1024, 1032, 1014, 1015, 1016, 1017, 1018, 1019, 1034, 1033, 1025, 1030, 1029, 1023, 1026, 1027, 1028, 1031, 1035, 1036, 1021, 1020, 1040, 1042, 1043, 1041, 1044, 1045, 1046, 1047, 1048, 1050, 1049, 1051, 1052, 1054, 1053, 1037, 1039, 1038]
def en_xlk : List (Nat × Nat × Nat) := [(0, 108, 1002), (1, 69, 1000), (1, 79, 1001), (5, 96, 1000), (5, 287, 1001)]
def en_xlp : List Nat := [813, 593, 482, 429, 869]
theorem en_tm_1 : ∀ w ∈ tables_1_1, w ∈ lw_tbl := fun w h => List.mem_append_right _ (List.mem_append_left _ h)
theorem en_tm_2 : ∀ w ∈ tables_1_2, w ∈ lw_tbl := fun w h => List.mem_append_right _ (List.mem_append_right _ (List.mem_append_left _ h))
theorem en_tm_3 : ∀ w ∈ tables_1_3, w ∈ lw_tbl := fun w h => List.mem_append_right _ (List.mem_append_right _ (List.mem_append_right _ (List.mem_append_left _ h)))
theorem en_tm_4 : ∀ w ∈ tables_1_4, w ∈ lw_tbl := fun w h => List.mem_append_right _ (List.mem_append_right _ (List.mem_append_right _ (List.mem_append_right _ (List.mem_append_left _ h))))
theorem en_tm_5 : ∀ w ∈ tables_1_5, w ∈ lw_tbl := fun w h => List.mem_append_right _ (List.mem_append_right _ (List.mem_append_right _ (List.mem_append_right _ (List.mem_append_right _ (List.mem_append_left _ h)))))
theorem en_tm_6 : ∀ w ∈ tables_1_6, w ∈ lw_tbl := fun w h => List.mem_append_right _ (List.mem_append_right _ (List.mem_append_right _ (List.mem_append_right _ (List.mem_append_right _ (List.mem_append_right _ (List.mem_append_left _ h))))))
theorem en_tm_7 : ∀ w ∈ tables_1_7, w ∈ lw_tbl := fun w h => List.mem_append_right _ (List.mem_append_right _ (List.mem_append_right _ (List.mem_append_right _ (List.mem_append_right _ (List.mem_append_right _ (List.mem_append_right _ (h)))))))
set_option maxRecDepth 20000 in
theorem en_cw_1 : Cond.code yX0_find cX0_find 3 (none) ∈ lw_tbl := en_tm_4 _ (List.mem_of_getElem? (i := 5) rfl)
set_option maxRecDepth 20000 in
theorem en_cw_2 : Cond.code yX0_lineUp cX0_lineUp 6 (none) ∈ lw_tbl := en_tm_4 _ (List.mem_of_getElem? (i := 9) rfl)
set_option maxRecDepth 20000 in
theorem en_cw_3 : Cond.code yX0_watchOthers cX0_watchOthers 4 (none) ∈ lw_tbl := en_tm_4 _ (List.mem_of_getElem? (i := 16) rfl)
set_option maxRecDepth 20000 in
theorem en_cw_4 : Cond.code yX0_watch cX0_watch 6 (none) ∈ lw_tbl := en_tm_4 _ (List.mem_of_getElem? (i := 24) rfl)
set_option maxRecDepth 20000 in
theorem en_cw_5 : Cond.code yX0_extend cX0_extend 9 (none) ∈ lw_tbl := en_tm_4 _ (List.mem_of_getElem? (i := 27) rfl)
set_option maxRecDepth 20000 in
theorem en_cw_6 : Cond.code yX0_weigh cX0_weigh 6 (none) ∈ lw_tbl := en_tm_4 _ (List.mem_of_getElem? (i := 31) rfl)
set_option maxRecDepth 20000 in
theorem en_cw_7 : Cond.code yX0_pointsAt cX0_pointsAt 10 (some .int) ∈ lw_tbl := en_tm_4 _ (List.mem_of_getElem? (i := 35) rfl)
set_option maxRecDepth 20000 in
theorem en_cw_8 : Cond.code yX0_writeTo cX0_writeTo 5 (none) ∈ lw_tbl := en_tm_4 _ (List.mem_of_getElem? (i := 160) rfl)
set_option maxRecDepth 20000 in
theorem en_cw_10 : Cond.code yX1_become cX1_become 3 (none) ∈ lw_tbl := en_tm_3 _ (List.mem_of_getElem? (i := 37) rfl)
set_option maxRecDepth 20000 in
theorem en_cw_11 : Cond.code yX1_isWord cX1_isWord 2 (some .boolean) ∈ lw_tbl := en_tm_2 _ (List.mem_of_getElem? (i := 132) rfl)
set_option maxRecDepth 20000 in
theorem en_cw_12 : Cond.code yX1_isPerson cX1_isPerson 2 (some .boolean) ∈ lw_tbl := en_tm_2 _ (List.mem_of_getElem? (i := 216) rfl)
set_option maxRecDepth 20000 in
theorem en_cw_13 : Cond.code yX1_isColumn cX1_isColumn 2 (some .boolean) ∈ lw_tbl := en_tm_2 _ (List.mem_of_getElem? (i := 188) rfl)
set_option maxRecDepth 20000 in
theorem en_cw_14 : Cond.code yX1_hasRoomForWord cX1_hasRoomForWord 1 (some .boolean) ∈ lw_tbl := en_tm_2 _ (List.mem_of_getElem? (i := 192) rfl)
set_option maxRecDepth 20000 in
theorem en_cw_15 : Cond.code yX1_hasRoomForPerson cX1_hasRoomForPerson 1 (some .boolean) ∈ lw_tbl := en_tm_2 _ (List.mem_of_getElem? (i := 204) rfl)
set_option maxRecDepth 20000 in
theorem en_cw_16 : Cond.code yX1_addWord cX1_addWord 7 (some .int) ∈ lw_tbl := en_tm_2 _ (List.mem_of_getElem? (i := 196) rfl)
set_option maxRecDepth 20000 in
theorem en_cw_17 : Cond.code yX1_addPerson cX1_addPerson 2 (some .int) ∈ lw_tbl := en_tm_2 _ (List.mem_of_getElem? (i := 208) rfl)
set_option maxRecDepth 20000 in
theorem en_cw_18 : Cond.code yX1_cost cX1_cost 3 (some .int) ∈ lw_tbl := en_tm_2 _ (List.mem_of_getElem? (i := 173) rfl)
set_option maxRecDepth 20000 in
theorem en_cw_19 : Cond.code yX1_isKnown cX1_isKnown 3 (some .boolean) ∈ lw_tbl := en_tm_2 _ (List.mem_of_getElem? (i := 220) rfl)
set_option maxRecDepth 20000 in
theorem en_cw_20 : Cond.code yX1_isBarred cX1_isBarred 2 (some .boolean) ∈ lw_tbl := en_tm_3 _ (List.mem_of_getElem? (i := 13) rfl)
set_option maxRecDepth 20000 in
theorem en_cw_21 : Cond.code yX1_canStand cX1_canStand 3 (some .boolean) ∈ lw_tbl := en_tm_3 _ (List.mem_of_getElem? (i := 8) rfl)
set_option maxRecDepth 20000 in
theorem en_cw_22 : Cond.code yX1_firstWrong cX1_firstWrong 7 (some .int) ∈ lw_tbl := en_tm_3 _ (List.mem_of_getElem? (i := 4) rfl)
set_option maxRecDepth 20000 in
theorem en_cw_23 : Cond.code yX1_putSheet cX1_putSheet 5 (none) ∈ lw_tbl := en_tm_3 _ (List.mem_of_getElem? (i := 17) rfl)
set_option maxRecDepth 20000 in
theorem en_cw_24 : Cond.code yX1_openPlace cX1_openPlace 5 (some .int) ∈ lw_tbl := en_tm_4 _ (List.mem_of_getElem? (i := 68) rfl)
set_option maxRecDepth 20000 in
theorem en_cw_25 : Cond.code yX1_sheetsWith cX1_sheetsWith 5 (some .int) ∈ lw_tbl := en_tm_2 _ (List.mem_of_getElem? (i := 155) rfl)
set_option maxRecDepth 20000 in
theorem en_cw_26 : Cond.code yX1_knowersMissing cX1_knowersMissing 2 (some .int) ∈ lw_tbl := en_tm_2 _ (List.mem_of_getElem? (i := 165) rfl)
set_option maxRecDepth 20000 in
theorem en_cw_27 : Cond.code yX1_passesVote cX1_passesVote 2 (some .boolean) ∈ lw_tbl := en_tm_3 _ (List.mem_of_getElem? (i := 194) rfl)
set_option maxRecDepth 20000 in
theorem en_cw_28 : Cond.code yX1_writtenBy cX1_writtenBy 7 (some .int) ∈ lw_tbl := en_tm_3 _ (List.mem_of_getElem? (i := 186) rfl)
set_option maxRecDepth 20000 in
theorem en_cw_29 : Cond.code yX1_wholeSheetTakes cX1_wholeSheetTakes 4 (some .int) ∈ lw_tbl := en_tm_4 _ (List.mem_of_getElem? (i := 139) rfl)
set_option maxRecDepth 20000 in
theorem en_cw_30 : Cond.code yX1_readyAt cX1_readyAt 6 (some .int) ∈ lw_tbl := en_tm_3 _ (List.mem_of_getElem? (i := 180) rfl)
set_option maxRecDepth 20000 in
theorem en_cw_31 : Cond.code yX1_columnsFilled cX1_columnsFilled 5 (some .int) ∈ lw_tbl := en_tm_4 _ (List.mem_of_getElem? (i := 86) rfl)
set_option maxRecDepth 20000 in
theorem en_cw_32 : Cond.code yX1_fillsMostAlone cX1_fillsMostAlone 5 (some .boolean) ∈ lw_tbl := en_tm_4 _ (List.mem_of_getElem? (i := 105) rfl)
set_option maxRecDepth 20000 in
theorem en_cw_33 : Cond.code yX1_drawLetter cX1_drawLetter 1 (some .int) ∈ lw_tbl := en_tm_4 _ (List.mem_of_getElem? (i := 176) rfl)
set_option maxRecDepth 20000 in
theorem en_cw_34 : Cond.code yX1_firstByScore cX1_firstByScore 3 (some .int) ∈ lw_tbl := en_tm_4 _ (List.mem_of_getElem? (i := 181) rfl)
set_option maxRecDepth 20000 in
theorem en_cw_35 : Cond.code yX1_usedCount cX1_usedCount 3 (some .int) ∈ lw_tbl := en_tm_4 _ (List.mem_of_getElem? (i := 189) rfl)
set_option maxRecDepth 20000 in
theorem en_cw_37 : Cond.code yX2_reckon cX2_reckon 4 (none) ∈ lw_tbl := en_tm_3 _ (List.mem_of_getElem? (i := 176) rfl)
set_option maxRecDepth 20000 in
theorem en_cw_38 : Cond.code yX2_keep cX2_keep 5 (none) ∈ lw_tbl := en_tm_3 _ (List.mem_of_getElem? (i := 190) rfl)
set_option maxRecDepth 20000 in
theorem en_cw_39 : Cond.code yX2_keepersOf cX2_keepersOf 5 (some .int) ∈ lw_tbl := en_tm_3 _ (List.mem_of_getElem? (i := 227) rfl)
set_option maxRecDepth 20000 in
theorem en_cw_40 : Cond.code yX2_howManyKeptIn cX2_howManyKeptIn 5 (some .int) ∈ lw_tbl := en_tm_3 _ (List.mem_of_getElem? (i := 223) rfl)
set_option maxRecDepth 20000 in
theorem en_cw_41 : Cond.code yX2_worth cX2_worth 3 (some .int) ∈ lw_tbl := en_tm_3 _ (List.mem_of_getElem? (i := 219) rfl)
set_option maxRecDepth 20000 in
theorem en_cw_42 : Cond.code yX2_pointsIn cX2_pointsIn 7 (some .int) ∈ lw_tbl := en_tm_3 _ (List.mem_of_getElem? (i := 215) rfl)
set_option maxRecDepth 20000 in
theorem en_cw_43 : Cond.code yX2_leaderBesides cX2_leaderBesides 7 (some .int) ∈ lw_tbl := en_tm_3 _ (List.mem_of_getElem? (i := 236) rfl)
set_option maxRecDepth 20000 in
theorem en_cw_45 : Cond.code yX3_take cX3_take 2 (some .boolean) ∈ lw_tbl := en_tm_3 _ (List.mem_of_getElem? (i := 25) rfl)
set_option maxRecDepth 20000 in
theorem en_cw_46 : Cond.code yX3_read cX3_read 3 (some .boolean) ∈ lw_tbl := en_tm_3 _ (List.mem_of_getElem? (i := 42) rfl)
set_option maxRecDepth 20000 in
theorem en_cw_47 : Cond.code yX3_step cX3_step 1 (none) ∈ lw_tbl := en_tm_3 _ (List.mem_of_getElem? (i := 46) rfl)
set_option maxRecDepth 20000 in
theorem en_cw_48 : Cond.code yX3_sortOf cX3_sortOf 1 (some .int) ∈ lw_tbl := en_tm_3 _ (List.mem_of_getElem? (i := 49) rfl)
set_option maxRecDepth 20000 in
theorem en_cw_49 : Cond.code yX3_isNamed cX3_isNamed 3 (some .boolean) ∈ lw_tbl := en_tm_3 _ (List.mem_of_getElem? (i := 59) rfl)
set_option maxRecDepth 20000 in
theorem en_cw_50 : Cond.code yX3_readStatement cX3_readStatement 2 (some .boolean) ∈ lw_tbl := en_tm_3 _ (List.mem_of_getElem? (i := 54) rfl)
set_option maxRecDepth 20000 in
theorem en_cw_51 : Cond.code yX3_readColumns cX3_readColumns 2 (some .boolean) ∈ lw_tbl := en_tm_3 _ (List.mem_of_getElem? (i := 111) rfl)
set_option maxRecDepth 20000 in
theorem en_cw_52 : Cond.code yX3_readWord cX3_readWord 2 (some .boolean) ∈ lw_tbl := en_tm_3 _ (List.mem_of_getElem? (i := 125) rfl)
set_option maxRecDepth 20000 in
theorem en_cw_53 : Cond.code yX3_readPerson cX3_readPerson 2 (some .boolean) ∈ lw_tbl := en_tm_3 _ (List.mem_of_getElem? (i := 132) rfl)
set_option maxRecDepth 20000 in
theorem en_cw_54 : Cond.code yX3_readKnows cX3_readKnows 2 (some .boolean) ∈ lw_tbl := en_tm_3 _ (List.mem_of_getElem? (i := 138) rfl)
set_option maxRecDepth 20000 in
theorem en_cw_55 : Cond.code yX3_readAsked cX3_readAsked 5 (some .boolean) ∈ lw_tbl := en_tm_3 _ (List.mem_of_getElem? (i := 143) rfl)
set_option maxRecDepth 20000 in
theorem en_cw_56 : Cond.code yX3_readSheet cX3_readSheet 4 (some .boolean) ∈ lw_tbl := en_tm_3 _ (List.mem_of_getElem? (i := 153) rfl)
set_option maxRecDepth 20000 in
theorem en_cw_57 : Cond.code yX3_readNumber cX3_readNumber 4 (some .boolean) ∈ lw_tbl := en_tm_3 _ (List.mem_of_getElem? (i := 115) rfl)
set_option maxRecDepth 20000 in
theorem en_cw_58 : Cond.code yX3_value cX3_value 3 (some .int) ∈ lw_tbl := en_tm_3 _ (List.mem_of_getElem? (i := 119) rfl)
set_option maxRecDepth 20000 in
theorem en_cw_60 : Cond.code yX4_hasRow cX4_hasRow 1 (some .boolean) ∈ lw_tbl := en_tm_2 _ (List.mem_of_getElem? (i := 96) rfl)
set_option maxRecDepth 20000 in
theorem en_cw_61 : Cond.code yX4_hasWord cX4_hasWord 1 (some .boolean) ∈ lw_tbl := en_tm_2 _ (List.mem_of_getElem? (i := 92) rfl)
set_option maxRecDepth 20000 in
theorem en_cw_62 : Cond.code yX4_clear cX4_clear 1 (none) ∈ lw_tbl := en_tm_2 _ (List.mem_of_getElem? (i := 80) rfl)
set_option maxRecDepth 20000 in
theorem en_cw_63 : Cond.code yX4_becomeWord cX4_becomeWord 2 (none) ∈ lw_tbl := en_tm_2 _ (List.mem_of_getElem? (i := 138) rfl)
set_option maxRecDepth 20000 in
theorem en_cw_64 : Cond.code yX4_becomeRow cX4_becomeRow 4 (none) ∈ lw_tbl := en_tm_2 _ (List.mem_of_getElem? (i := 76) rfl)
set_option maxRecDepth 20000 in
theorem en_cw_65 : Cond.code yX4_put cX4_put 4 (none) ∈ lw_tbl := en_tm_2 _ (List.mem_of_getElem? (i := 101) rfl)
set_option maxRecDepth 20000 in
theorem en_cw_66 : Cond.code yX4_lowestBits cX4_lowestBits 3 (some .long) ∈ lw_tbl := en_tm_2 _ (List.mem_of_getElem? (i := 105) rfl)
set_option maxRecDepth 20000 in
theorem en_cw_68 : Cond.code yX5_row cX5_row 4 (some .int) ∈ lw_tbl := en_tm_2 _ (List.mem_of_getElem? (i := 62) rfl)
set_option maxRecDepth 20000 in
theorem en_cw_69 : Cond.code yX5_set cX5_set 6 (some .int) ∈ lw_tbl := en_tm_2 _ (List.mem_of_getElem? (i := 84) rfl)
set_option maxRecDepth 20000 in
theorem en_cw_70 : Cond.code yX5_copy cX5_copy 9 (some .int) ∈ lw_tbl := en_tm_2 _ (List.mem_of_getElem? (i := 109) rfl)
set_option maxRecDepth 20000 in
theorem en_cw_71 : Cond.code yX5_element cX5_element 3 (some .long) ∈ lw_tbl := en_tm_2 _ (List.mem_of_getElem? (i := 120) rfl)
set_option maxRecDepth 20000 in
theorem en_cw_72 : Cond.code yX5_holds cX5_holds 3 (some .int) ∈ lw_tbl := en_tm_2 _ (List.mem_of_getElem? (i := 124) rfl)
set_option maxRecDepth 20000 in
theorem en_cw_73 : Cond.code yX5_show cX5_show 3 (some .int) ∈ lw_tbl := en_tm_2 _ (List.mem_of_getElem? (i := 128) rfl)
set_option maxRecDepth 20000 in
theorem en_cw_74 : Cond.code yX5_says cX5_says 4 (some .int) ∈ lw_tbl := en_tm_2 _ (List.mem_of_getElem? (i := 142) rfl)
set_option maxRecDepth 20000 in
theorem en_cw_75 : Cond.code yX5_columns cX5_columns 3 (some .int) ∈ lw_tbl := en_tm_2 _ (List.mem_of_getElem? (i := 177) rfl)
set_option maxRecDepth 20000 in
theorem en_cw_76 : Cond.code yX5_word cX5_word 6 (some .int) ∈ lw_tbl := en_tm_2 _ (List.mem_of_getElem? (i := 181) rfl)
set_option maxRecDepth 20000 in
theorem en_cw_77 : Cond.code yX5_person cX5_person 1 (some .int) ∈ lw_tbl := en_tm_2 _ (List.mem_of_getElem? (i := 200) rfl)
set_option maxRecDepth 20000 in
theorem en_cw_78 : Cond.code yX5_knows cX5_knows 4 (some .int) ∈ lw_tbl := en_tm_2 _ (List.mem_of_getElem? (i := 212) rfl)
set_option maxRecDepth 20000 in
theorem en_cw_79 : Cond.code yX5_ask cX5_ask 4 (some .int) ∈ lw_tbl := en_tm_2 _ (List.mem_of_getElem? (i := 224) rfl)
set_option maxRecDepth 20000 in
theorem en_cw_80 : Cond.code yX5_sheet cX5_sheet 5 (some .int) ∈ lw_tbl := en_tm_2 _ (List.mem_of_getElem? (i := 232) rfl)
set_option maxRecDepth 20000 in
theorem en_cw_81 : Cond.code yX5_feed cX5_feed 2 (some .int) ∈ lw_tbl := en_tm_3 _ (List.mem_of_getElem? (i := 21) rfl)
set_option maxRecDepth 20000 in
theorem en_cw_82 : Cond.code yX5_wipe cX5_wipe 2 (some .int) ∈ lw_tbl := en_tm_3 _ (List.mem_of_getElem? (i := 29) rfl)
set_option maxRecDepth 20000 in
theorem en_cw_83 : Cond.code yX5_evening cX5_evening 2 (some .int) ∈ lw_tbl := en_tm_3 _ (List.mem_of_getElem? (i := 33) rfl)
set_option maxRecDepth 20000 in
theorem en_cw_84 : Cond.code yX5_wordOf cX5_wordOf 3 (some .int) ∈ lw_tbl := en_tm_3 _ (List.mem_of_getElem? (i := 160) rfl)
set_option maxRecDepth 20000 in
theorem en_cw_85 : Cond.code yX5_sheetOf cX5_sheetOf 3 (some .int) ∈ lw_tbl := en_tm_3 _ (List.mem_of_getElem? (i := 164) rfl)
set_option maxRecDepth 20000 in
theorem en_cw_86 : Cond.code yX5_score cX5_score 2 (some .int) ∈ lw_tbl := en_tm_3 _ (List.mem_of_getElem? (i := 168) rfl)
set_option maxRecDepth 20000 in
theorem en_cw_87 : Cond.code yX5_call cX5_call 1 (some .int) ∈ lw_tbl := en_tm_3 _ (List.mem_of_getElem? (i := 172) rfl)
set_option maxRecDepth 20000 in
theorem en_cw_88 : Cond.code yX5_caller cX5_caller 1 (some .int) ∈ lw_tbl := en_tm_3 _ (List.mem_of_getElem? (i := 198) rfl)
set_option maxRecDepth 20000 in
theorem en_cw_89 : Cond.code yX5_written cX5_written 3 (some .int) ∈ lw_tbl := en_tm_3 _ (List.mem_of_getElem? (i := 202) rfl)
set_option maxRecDepth 20000 in
theorem en_cw_90 : Cond.code yX5_kept cX5_kept 2 (some .int) ∈ lw_tbl := en_tm_3 _ (List.mem_of_getElem? (i := 207) rfl)
set_option maxRecDepth 20000 in
theorem en_cw_91 : Cond.code yX5_points cX5_points 3 (some .int) ∈ lw_tbl := en_tm_3 _ (List.mem_of_getElem? (i := 211) rfl)
set_option maxRecDepth 20000 in
theorem en_cw_92 : Cond.code yX5_winner cX5_winner 1 (some .int) ∈ lw_tbl := en_tm_3 _ (List.mem_of_getElem? (i := 232) rfl)
set_option maxRecDepth 20000 in
theorem en_cw_93 : Cond.code yX5_best cX5_best 3 (some .int) ∈ lw_tbl := en_tm_4 _ (List.mem_of_getElem? (i := 1) rfl)
set_option maxRecDepth 20000 in
theorem en_cw_94 : Cond.code yX5_order cX5_order 4 (some .int) ∈ lw_tbl := en_tm_4 _ (List.mem_of_getElem? (i := 39) rfl)
set_option maxRecDepth 20000 in
theorem en_cw_95 : Cond.code yX5_swap cX5_swap 4 (some .int) ∈ lw_tbl := en_tm_4 _ (List.mem_of_getElem? (i := 60) rfl)
set_option maxRecDepth 20000 in
theorem en_cw_96 : Cond.code yX5_bestWord cX5_bestWord 8 (some .int) ∈ lw_tbl := en_tm_4 _ (List.mem_of_getElem? (i := 64) rfl)
set_option maxRecDepth 20000 in
theorem en_cw_97 : Cond.code yX5_learn cX5_learn 6 (some .int) ∈ lw_tbl := en_tm_4 _ (List.mem_of_getElem? (i := 73) rfl)
set_option maxRecDepth 20000 in
theorem en_cw_98 : Cond.code yX5_lonely cX5_lonely 4 (some .int) ∈ lw_tbl := en_tm_4 _ (List.mem_of_getElem? (i := 78) rfl)
set_option maxRecDepth 20000 in
theorem en_cw_99 : Cond.code yX5_fills cX5_fills 3 (some .int) ∈ lw_tbl := en_tm_4 _ (List.mem_of_getElem? (i := 82) rfl)
set_option maxRecDepth 20000 in
theorem en_cw_100 : Cond.code yX5_gains cX5_gains 4 (some .int) ∈ lw_tbl := en_tm_4 _ (List.mem_of_getElem? (i := 90) rfl)
set_option maxRecDepth 20000 in
theorem en_cw_101 : Cond.code yX5_silent cX5_silent 4 (some .int) ∈ lw_tbl := en_tm_4 _ (List.mem_of_getElem? (i := 94) rfl)
set_option maxRecDepth 20000 in
theorem en_cw_102 : Cond.code yX5_stop cX5_stop 5 (some .int) ∈ lw_tbl := en_tm_4 _ (List.mem_of_getElem? (i := 101) rfl)
set_option maxRecDepth 20000 in
theorem en_cw_103 : Cond.code yX5_judge cX5_judge 5 (some .int) ∈ lw_tbl := en_tm_4 _ (List.mem_of_getElem? (i := 110) rfl)
set_option maxRecDepth 20000 in
theorem en_cw_104 : Cond.code yX5_takes cX5_takes 7 (some .int) ∈ lw_tbl := en_tm_4 _ (List.mem_of_getElem? (i := 114) rfl)
set_option maxRecDepth 20000 in
theorem en_cw_105 : Cond.code yX5_keptBy cX5_keptBy 2 (some .int) ∈ lw_tbl := en_tm_4 _ (List.mem_of_getElem? (i := 118) rfl)
set_option maxRecDepth 20000 in
theorem en_cw_106 : Cond.code yX5_rival cX5_rival 2 (some .int) ∈ lw_tbl := en_tm_4 _ (List.mem_of_getElem? (i := 123) rfl)
set_option maxRecDepth 20000 in
theorem en_cw_107 : Cond.code yX5_needFor cX5_needFor 6 (some .int) ∈ lw_tbl := en_tm_4 _ (List.mem_of_getElem? (i := 127) rfl)
set_option maxRecDepth 20000 in
theorem en_cw_108 : Cond.code yX5_late cX5_late 2 (some .int) ∈ lw_tbl := en_tm_4 _ (List.mem_of_getElem? (i := 135) rfl)
set_option maxRecDepth 20000 in
theorem en_cw_109 : Cond.code yX5_clashes cX5_clashes 3 (some .int) ∈ lw_tbl := en_tm_4 _ (List.mem_of_getElem? (i := 143) rfl)
set_option maxRecDepth 20000 in
theorem en_cw_110 : Cond.code yX5_empty cX5_empty 3 (some .int) ∈ lw_tbl := en_tm_4 _ (List.mem_of_getElem? (i := 147) rfl)
set_option maxRecDepth 20000 in
theorem en_cw_111 : Cond.code yX5_takeBest cX5_takeBest 2 (some .int) ∈ lw_tbl := en_tm_4 _ (List.mem_of_getElem? (i := 152) rfl)
set_option maxRecDepth 20000 in
theorem en_cw_112 : Cond.code yX5_round cX5_round 1 (some .int) ∈ lw_tbl := en_tm_4 _ (List.mem_of_getElem? (i := 164) rfl)
set_option maxRecDepth 20000 in
theorem en_cw_113 : Cond.code yX5_rounds cX5_rounds 4 (some .int) ∈ lw_tbl := en_tm_4 _ (List.mem_of_getElem? (i := 172) rfl)
set_option maxRecDepth 20000 in
theorem en_cw_114 : Cond.code yX5_again cX5_again 3 (some .int) ∈ lw_tbl := en_tm_4 _ (List.mem_of_getElem? (i := 185) rfl)
set_option maxRecDepth 20000 in
theorem en_cw_115 : Cond.code yX5_seed cX5_seed 3 (some .int) ∈ lw_tbl := en_tm_4 _ (List.mem_of_getElem? (i := 193) rfl)
set_option maxRecDepth 20000 in
theorem en_cw_116 : Cond.code yX5_image cX5_image 1 (some .int) ∈ lw_tbl := en_tm_4 _ (List.mem_of_getElem? (i := 197) rfl)
set_option maxRecDepth 20000 in
theorem en_cw_117 : Cond.code yX5_back cX5_back 2 (some .int) ∈ lw_tbl := en_tm_4 _ (List.mem_of_getElem? (i := 201) rfl)
set_option maxRecDepth 20000 in
theorem en_cw_118 : Cond.code yX5_status cX5_status 2 (some .int) ∈ lw_tbl := en_tm_4 _ (List.mem_of_getElem? (i := 205) rfl)
set_option maxRecDepth 20000 in
theorem en_cw_119 : Cond.code yX5_within cX5_within 3 (some .boolean) ∈ lw_tbl := en_tm_2 _ (List.mem_of_getElem? (i := 68) rfl)
set_option maxRecDepth 20000 in
theorem en_cw_120 : Cond.code yX5_isShelf cX5_isShelf 1 (some .boolean) ∈ lw_tbl := en_tm_2 _ (List.mem_of_getElem? (i := 65) rfl)
set_option maxRecDepth 20000 in
theorem en_cw_121 : Cond.code yX5_isLetter cX5_isLetter 1 (some .boolean) ∈ lw_tbl := en_tm_2 _ (List.mem_of_getElem? (i := 184) rfl)
set_option maxRecDepth 20000 in
theorem en_cw_122 : Cond.code yX5_isUnder cX5_isUnder 4 (some .boolean) ∈ lw_tbl := en_tm_2 _ (List.mem_of_getElem? (i := 145) rfl)
set_option maxRecDepth 20000 in
theorem en_cw_123 : Cond.code yX5_letterAt cX5_letterAt 3 (some .int) ∈ lw_tbl := en_tm_4 _ (List.mem_of_getElem? (i := 97) rfl)
set_option maxRecDepth 20000 in
theorem en_cw_124 : Cond.code yX5_exchange cX5_exchange 4 (none) ∈ lw_tbl := en_tm_4 _ (List.mem_of_getElem? (i := 49) rfl)
set_option maxRecDepth 20000 in
theorem en_cw_125 : Cond.code yX5_refuse cX5_refuse 3 (some .int) ∈ lw_tbl := en_tm_2 _ (List.mem_of_getElem? (i := 72) rfl)
set_option maxRecDepth 20000 in
theorem en_cw_126 : Cond.code yX5_troubleOfRow cX5_troubleOfRow 2 (some .int) ∈ lw_tbl := en_tm_2 _ (List.mem_of_getElem? (i := 88) rfl)
set_option maxRecDepth 20000 in
theorem en_cw_127 : Cond.code yX5_troubleOfPair cX5_troubleOfPair 5 (some .int) ∈ lw_tbl := en_tm_2 _ (List.mem_of_getElem? (i := 113) rfl)
set_option maxRecDepth 20000 in
theorem en_cw_128 : Cond.code yX5_troubleOfTold cX5_troubleOfTold 5 (some .int) ∈ lw_tbl := en_tm_3 _ (List.mem_of_getElem? (i := 0) rfl)
set_option maxRecDepth 20000 in
theorem en_cw_129 : Cond.code yX5_troubleOfFitting cX5_troubleOfFitting 5 (some .int) ∈ lw_tbl := en_tm_2 _ (List.mem_of_getElem? (i := 236) rfl)
set_option maxRecDepth 20000 in
theorem en_cw_130 : Cond.code yX5_wordTakenFor cX5_wordTakenFor 3 (some .int) ∈ lw_tbl := en_tm_2 _ (List.mem_of_getElem? (i := 151) rfl)
set_option maxRecDepth 20000 in
theorem en_cw_131 : Cond.code yX5_shelvesInUse cX5_shelvesInUse 3 (some .int) ∈ lw_tbl := en_tm_4 _ (List.mem_of_getElem? (i := 209) rfl)
set_option maxRecDepth 20000 in
theorem en_cw_132 : Cond.code yX5_pointsInThought cX5_pointsInThought 2 (some .int) ∈ lw_tbl := en_tm_4 _ (List.mem_of_getElem? (i := 53) rfl)
set_option maxRecDepth 20000 in
theorem en_cw_133 : Cond.code yX5_leadInThought cX5_leadInThought 4 (some .int) ∈ lw_tbl := en_tm_4 _ (List.mem_of_getElem? (i := 131) rfl)
set_option maxRecDepth 20000 in
theorem en_cw_134 : Cond.code yX5_findOrder cX5_findOrder 7 (some .int) ∈ lw_tbl := en_tm_4 _ (List.mem_of_getElem? (i := 43) rfl)
set_option maxRecDepth 20000 in
theorem en_cw_135 : Cond.code yX5_sortUp cX5_sortUp 4 (none) ∈ lw_tbl := en_tm_4 _ (List.mem_of_getElem? (i := 46) rfl)
set_option maxRecDepth 20000 in
theorem en_cw_136 : Cond.code yX5_stepOrder cX5_stepOrder 6 (some .boolean) ∈ lw_tbl := en_tm_4 _ (List.mem_of_getElem? (i := 56) rfl)
set_option maxRecDepth 20000 in
theorem en_cw_137 : Cond.code yX5_putBestSheet cX5_putBestSheet 2 (some .int) ∈ lw_tbl := en_tm_4 _ (List.mem_of_getElem? (i := 156) rfl)
set_option maxRecDepth 20000 in
theorem en_cw_138 : Cond.code yX5_endRound cX5_endRound 2 (some .int) ∈ lw_tbl := en_tm_4 _ (List.mem_of_getElem? (i := 168) rfl)
set_option maxRecDepth 20000 in
theorem en_cw_140 : Cond.code yX6_refuse cX6_refuse 2 (some .int) ∈ lw_tbl := en_tm_5 _ (List.mem_of_getElem? (i := 116) rfl)
set_option maxRecDepth 20000 in
theorem en_cw_141 : Cond.code yX6_in cX6_in 6 (some .boolean) ∈ lw_tbl := en_tm_5 _ (List.mem_of_getElem? (i := 110) rfl)
set_option maxRecDepth 20000 in
theorem en_cw_142 : Cond.code yX6_isWord cX6_isWord 2 (some .boolean) ∈ lw_tbl := en_tm_5 _ (List.mem_of_getElem? (i := 147) rfl)
set_option maxRecDepth 20000 in
theorem en_cw_143 : Cond.code yX6_isPerson cX6_isPerson 2 (some .boolean) ∈ lw_tbl := en_tm_5 _ (List.mem_of_getElem? (i := 197) rfl)
set_option maxRecDepth 20000 in
theorem en_cw_144 : Cond.code yX6_bits cX6_bits 3 (some .int) ∈ lw_tbl := en_tm_5 _ (List.mem_of_getElem? (i := 166) rfl)
set_option maxRecDepth 20000 in
theorem en_cw_145 : Cond.code yX6_row cX6_row 5 (some .int) ∈ lw_tbl := en_tm_5 _ (List.mem_of_getElem? (i := 106) rfl)
set_option maxRecDepth 20000 in
theorem en_cw_146 : Cond.code yX6_fit cX6_fit 3 (some .long) ∈ lw_tbl := en_tm_5 _ (List.mem_of_getElem? (i := 127) rfl)
set_option maxRecDepth 20000 in
theorem en_cw_147 : Cond.code yX6_noRow cX6_noRow 2 (some .int) ∈ lw_tbl := en_tm_5 _ (List.mem_of_getElem? (i := 124) rfl)
set_option maxRecDepth 20000 in
theorem en_cw_148 : Cond.code yX6_set cX6_set 6 (some .int) ∈ lw_tbl := en_tm_5 _ (List.mem_of_getElem? (i := 120) rfl)
set_option maxRecDepth 20000 in
theorem en_cw_149 : Cond.code yX6_copy cX6_copy 7 (some .int) ∈ lw_tbl := en_tm_5 _ (List.mem_of_getElem? (i := 131) rfl)
set_option maxRecDepth 20000 in
theorem en_cw_150 : Cond.code yX6_element cX6_element 3 (some .long) ∈ lw_tbl := en_tm_5 _ (List.mem_of_getElem? (i := 135) rfl)
set_option maxRecDepth 20000 in
theorem en_cw_151 : Cond.code yX6_holds cX6_holds 2 (some .int) ∈ lw_tbl := en_tm_5 _ (List.mem_of_getElem? (i := 139) rfl)
set_option maxRecDepth 20000 in
theorem en_cw_152 : Cond.code yX6_show cX6_show 3 (some .int) ∈ lw_tbl := en_tm_5 _ (List.mem_of_getElem? (i := 143) rfl)
set_option maxRecDepth 20000 in
theorem en_cw_153 : Cond.code yX6_isUnder cX6_isUnder 2 (some .boolean) ∈ lw_tbl := en_tm_5 _ (List.mem_of_getElem? (i := 155) rfl)
set_option maxRecDepth 20000 in
theorem en_cw_154 : Cond.code yX6_sheetsWith cX6_sheetsWith 5 (some .int) ∈ lw_tbl := en_tm_5 _ (List.mem_of_getElem? (i := 163) rfl)
set_option maxRecDepth 20000 in
theorem en_cw_155 : Cond.code yX6_says cX6_says 5 (some .int) ∈ lw_tbl := en_tm_5 _ (List.mem_of_getElem? (i := 151) rfl)
set_option maxRecDepth 20000 in
theorem en_cw_156 : Cond.code yX6_columns cX6_columns 3 (some .int) ∈ lw_tbl := en_tm_5 _ (List.mem_of_getElem? (i := 170) rfl)
set_option maxRecDepth 20000 in
theorem en_cw_157 : Cond.code yX6_addWord cX6_addWord 6 (none) ∈ lw_tbl := en_tm_5 _ (List.mem_of_getElem? (i := 181) rfl)
set_option maxRecDepth 20000 in
theorem en_cw_158 : Cond.code yX6_word cX6_word 6 (some .int) ∈ lw_tbl := en_tm_5 _ (List.mem_of_getElem? (i := 174) rfl)
set_option maxRecDepth 20000 in
theorem en_cw_159 : Cond.code yX6_addPerson cX6_addPerson 1 (none) ∈ lw_tbl := en_tm_5 _ (List.mem_of_getElem? (i := 189) rfl)
set_option maxRecDepth 20000 in
theorem en_cw_160 : Cond.code yX6_person cX6_person 1 (some .int) ∈ lw_tbl := en_tm_5 _ (List.mem_of_getElem? (i := 185) rfl)
set_option maxRecDepth 20000 in
theorem en_cw_161 : Cond.code yX6_knows cX6_knows 5 (some .int) ∈ lw_tbl := en_tm_5 _ (List.mem_of_getElem? (i := 193) rfl)
set_option maxRecDepth 20000 in
theorem en_cw_162 : Cond.code yX6_mayAsk cX6_mayAsk 2 (some .boolean) ∈ lw_tbl := en_tm_5 _ (List.mem_of_getElem? (i := 204) rfl)
set_option maxRecDepth 20000 in
theorem en_cw_163 : Cond.code yX6_ask cX6_ask 4 (some .int) ∈ lw_tbl := en_tm_5 _ (List.mem_of_getElem? (i := 201) rfl)
set_option maxRecDepth 20000 in
theorem en_cw_164 : Cond.code yX6_mayBe cX6_mayBe 3 (some .boolean) ∈ lw_tbl := en_tm_5 _ (List.mem_of_getElem? (i := 227) rfl)
set_option maxRecDepth 20000 in
theorem en_cw_165 : Cond.code yX6_mayFollow cX6_mayFollow 5 (some .boolean) ∈ lw_tbl := en_tm_5 _ (List.mem_of_getElem? (i := 223) rfl)
set_option maxRecDepth 20000 in
theorem en_cw_166 : Cond.code yX6_wrongIn cX6_wrongIn 5 (some .int) ∈ lw_tbl := en_tm_5 _ (List.mem_of_getElem? (i := 219) rfl)
set_option maxRecDepth 20000 in
theorem en_cw_167 : Cond.code yX6_noSheet cX6_noSheet 5 (some .int) ∈ lw_tbl := en_tm_5 _ (List.mem_of_getElem? (i := 215) rfl)
set_option maxRecDepth 20000 in
theorem en_cw_168 : Cond.code yX6_sheet cX6_sheet 6 (some .int) ∈ lw_tbl := en_tm_5 _ (List.mem_of_getElem? (i := 211) rfl)
set_option maxRecDepth 20000 in
theorem en_cw_169 : Cond.code yX6_judge cX6_judge 5 (some .int) ∈ lw_tbl := en_tm_5 _ (List.mem_of_getElem? (i := 231) rfl)
set_option maxRecDepth 20000 in
theorem en_cw_170 : Cond.code yX6_takes cX6_takes 7 (some .int) ∈ lw_tbl := en_tm_5 _ (List.mem_of_getElem? (i := 235) rfl)
set_option maxRecDepth 20000 in
theorem en_cw_171 : Cond.code yX6_feed cX6_feed 2 (some .int) ∈ lw_tbl := en_tm_5 _ (List.mem_of_getElem? (i := 239) rfl)
set_option maxRecDepth 20000 in
theorem en_cw_172 : Cond.code yX6_wipe cX6_wipe 2 (some .int) ∈ lw_tbl := en_tm_6 _ (List.mem_of_getElem? (i := 4) rfl)
set_option maxRecDepth 20000 in
theorem en_cw_173 : Cond.code yX6_isLetter cX6_isLetter 1 (some .boolean) ∈ lw_tbl := en_tm_6 _ (List.mem_of_getElem? (i := 32) rfl)
set_option maxRecDepth 20000 in
theorem en_cw_174 : Cond.code yX6_isDigit cX6_isDigit 1 (some .boolean) ∈ lw_tbl := en_tm_6 _ (List.mem_of_getElem? (i := 35) rfl)
set_option maxRecDepth 20000 in
theorem en_cw_175 : Cond.code yX6_look cX6_look 1 (none) ∈ lw_tbl := en_tm_6 _ (List.mem_of_getElem? (i := 29) rfl)
set_option maxRecDepth 20000 in
theorem en_cw_176 : Cond.code yX6_wrong cX6_wrong 1 (some .boolean) ∈ lw_tbl := en_tm_6 _ (List.mem_of_getElem? (i := 58) rfl)
set_option maxRecDepth 20000 in
theorem en_cw_177 : Cond.code yX6_isTold cX6_isTold 3 (some .boolean) ∈ lw_tbl := en_tm_6 _ (List.mem_of_getElem? (i := 44) rfl)
set_option maxRecDepth 20000 in
theorem en_cw_178 : Cond.code yX6_number cX6_number 4 (some .boolean) ∈ lw_tbl := en_tm_6 _ (List.mem_of_getElem? (i := 54) rfl)
set_option maxRecDepth 20000 in
theorem en_cw_179 : Cond.code yX6_tells cX6_tells 3 (some .boolean) ∈ lw_tbl := en_tm_6 _ (List.mem_of_getElem? (i := 50) rfl)
set_option maxRecDepth 20000 in
theorem en_cw_180 : Cond.code yX6_asks cX6_asks 2 (some .boolean) ∈ lw_tbl := en_tm_6 _ (List.mem_of_getElem? (i := 66) rfl)
set_option maxRecDepth 20000 in
theorem en_cw_181 : Cond.code yX6_asksHere cX6_asksHere 2 (some .boolean) ∈ lw_tbl := en_tm_6 _ (List.mem_of_getElem? (i := 70) rfl)
set_option maxRecDepth 20000 in
theorem en_cw_182 : Cond.code yX6_sheetTold cX6_sheetTold 4 (some .boolean) ∈ lw_tbl := en_tm_6 _ (List.mem_of_getElem? (i := 78) rfl)
set_option maxRecDepth 20000 in
theorem en_cw_183 : Cond.code yX6_statement cX6_statement 2 (some .boolean) ∈ lw_tbl := en_tm_6 _ (List.mem_of_getElem? (i := 39) rfl)
set_option maxRecDepth 20000 in
theorem en_cw_184 : Cond.code yX6_readAll cX6_readAll 1 (some .boolean) ∈ lw_tbl := en_tm_6 _ (List.mem_of_getElem? (i := 25) rfl)
set_option maxRecDepth 20000 in
theorem en_cw_185 : Cond.code yX6_evening cX6_evening 3 (some .int) ∈ lw_tbl := en_tm_6 _ (List.mem_of_getElem? (i := 8) rfl)
set_option maxRecDepth 20000 in
theorem en_cw_186 : Cond.code yX6_wordOf cX6_wordOf 3 (some .int) ∈ lw_tbl := en_tm_6 _ (List.mem_of_getElem? (i := 82) rfl)
set_option maxRecDepth 20000 in
theorem en_cw_187 : Cond.code yX6_sheetOf cX6_sheetOf 3 (some .int) ∈ lw_tbl := en_tm_6 _ (List.mem_of_getElem? (i := 86) rfl)
set_option maxRecDepth 20000 in
theorem en_cw_188 : Cond.code yX6_score cX6_score 2 (some .int) ∈ lw_tbl := en_tm_6 _ (List.mem_of_getElem? (i := 90) rfl)
set_option maxRecDepth 20000 in
theorem en_cw_189 : Cond.code yX6_takesOf cX6_takesOf 2 (some .int) ∈ lw_tbl := en_tm_5 _ (List.mem_of_getElem? (i := 159) rfl)
set_option maxRecDepth 20000 in
theorem en_cw_190 : Cond.code yX6_hasBy cX6_hasBy 6 (some .int) ∈ lw_tbl := en_tm_6 _ (List.mem_of_getElem? (i := 102) rfl)
set_option maxRecDepth 20000 in
theorem en_cw_191 : Cond.code yX6_writtenBy cX6_writtenBy 6 (some .int) ∈ lw_tbl := en_tm_6 _ (List.mem_of_getElem? (i := 118) rfl)
set_option maxRecDepth 20000 in
theorem en_cw_192 : Cond.code yX6_callNow cX6_callNow 4 (some .int) ∈ lw_tbl := en_tm_6 _ (List.mem_of_getElem? (i := 98) rfl)
set_option maxRecDepth 20000 in
theorem en_cw_193 : Cond.code yX6_callerNow cX6_callerNow 4 (some .int) ∈ lw_tbl := en_tm_6 _ (List.mem_of_getElem? (i := 110) rfl)
set_option maxRecDepth 20000 in
theorem en_cw_194 : Cond.code yX6_call cX6_call 1 (some .int) ∈ lw_tbl := en_tm_6 _ (List.mem_of_getElem? (i := 94) rfl)
set_option maxRecDepth 20000 in
theorem en_cw_195 : Cond.code yX6_caller cX6_caller 1 (some .int) ∈ lw_tbl := en_tm_6 _ (List.mem_of_getElem? (i := 106) rfl)
set_option maxRecDepth 20000 in
theorem en_cw_196 : Cond.code yX6_written cX6_written 3 (some .int) ∈ lw_tbl := en_tm_6 _ (List.mem_of_getElem? (i := 114) rfl)
set_option maxRecDepth 20000 in
theorem en_cw_197 : Cond.code yX6_keptOf cX6_keptOf 5 (some .int) ∈ lw_tbl := en_tm_6 _ (List.mem_of_getElem? (i := 126) rfl)
set_option maxRecDepth 20000 in
theorem en_cw_198 : Cond.code yX6_kept cX6_kept 2 (some .int) ∈ lw_tbl := en_tm_6 _ (List.mem_of_getElem? (i := 122) rfl)
set_option maxRecDepth 20000 in
theorem en_cw_199 : Cond.code yX6_findKept cX6_findKept 2 (none) ∈ lw_tbl := en_tm_6 _ (List.mem_of_getElem? (i := 135) rfl)
set_option maxRecDepth 20000 in
theorem en_cw_200 : Cond.code yX6_columnOf cX6_columnOf 4 (some .int) ∈ lw_tbl := en_tm_6 _ (List.mem_of_getElem? (i := 147) rfl)
set_option maxRecDepth 20000 in
theorem en_cw_201 : Cond.code yX6_pointsAt cX6_pointsAt 8 (some .int) ∈ lw_tbl := en_tm_6 _ (List.mem_of_getElem? (i := 143) rfl)
set_option maxRecDepth 20000 in
theorem en_cw_202 : Cond.code yX6_pointsOf cX6_pointsOf 4 (some .int) ∈ lw_tbl := en_tm_6 _ (List.mem_of_getElem? (i := 139) rfl)
set_option maxRecDepth 20000 in
theorem en_cw_203 : Cond.code yX6_pointsNow cX6_pointsNow 2 (some .int) ∈ lw_tbl := en_tm_6 _ (List.mem_of_getElem? (i := 204) rfl)
set_option maxRecDepth 20000 in
theorem en_cw_204 : Cond.code yX6_points cX6_points 3 (some .int) ∈ lw_tbl := en_tm_6 _ (List.mem_of_getElem? (i := 130) rfl)
set_option maxRecDepth 20000 in
theorem en_cw_205 : Cond.code yX6_mostBut cX6_mostBut 4 (some .int) ∈ lw_tbl := en_tm_6 _ (List.mem_of_getElem? (i := 155) rfl)
set_option maxRecDepth 20000 in
theorem en_cw_206 : Cond.code yX6_winner cX6_winner 1 (some .int) ∈ lw_tbl := en_tm_6 _ (List.mem_of_getElem? (i := 151) rfl)
set_option maxRecDepth 20000 in
theorem en_cw_207 : Cond.code yX6_rival cX6_rival 2 (some .int) ∈ lw_tbl := en_tm_6 _ (List.mem_of_getElem? (i := 159) rfl)
set_option maxRecDepth 20000 in
theorem en_cw_208 : Cond.code yX6_keptBy cX6_keptBy 4 (some .int) ∈ lw_tbl := en_tm_6 _ (List.mem_of_getElem? (i := 163) rfl)
set_option maxRecDepth 20000 in
theorem en_cw_209 : Cond.code yX6_clashes cX6_clashes 7 (some .int) ∈ lw_tbl := en_tm_6 _ (List.mem_of_getElem? (i := 167) rfl)
set_option maxRecDepth 20000 in
theorem en_cw_210 : Cond.code yX6_empty cX6_empty 6 (some .int) ∈ lw_tbl := en_tm_6 _ (List.mem_of_getElem? (i := 171) rfl)
set_option maxRecDepth 20000 in
theorem en_cw_211 : Cond.code yX6_late cX6_late 4 (some .int) ∈ lw_tbl := en_tm_6 _ (List.mem_of_getElem? (i := 175) rfl)
set_option maxRecDepth 20000 in
theorem en_cw_212 : Cond.code yX6_needFor cX6_needFor 8 (some .int) ∈ lw_tbl := en_tm_6 _ (List.mem_of_getElem? (i := 179) rfl)
set_option maxRecDepth 20000 in
theorem en_cw_213 : Cond.code yX6_writes cX6_writes 6 (none) ∈ lw_tbl := en_tm_6 _ (List.mem_of_getElem? (i := 200) rfl)
set_option maxRecDepth 20000 in
theorem en_cw_214 : Cond.code yX6_tries cX6_tries 4 (none) ∈ lw_tbl := en_tm_6 _ (List.mem_of_getElem? (i := 196) rfl)
set_option maxRecDepth 20000 in
theorem en_cw_215 : Cond.code yX6_seekBest cX6_seekBest 5 (none) ∈ lw_tbl := en_tm_6 _ (List.mem_of_getElem? (i := 192) rfl)
set_option maxRecDepth 20000 in
theorem en_cw_216 : Cond.code yX6_findBest cX6_findBest 2 (none) ∈ lw_tbl := en_tm_6 _ (List.mem_of_getElem? (i := 188) rfl)
set_option maxRecDepth 20000 in
theorem en_cw_217 : Cond.code yX6_best cX6_best 4 (some .int) ∈ lw_tbl := en_tm_6 _ (List.mem_of_getElem? (i := 183) rfl)
set_option maxRecDepth 20000 in
theorem en_cw_218 : Cond.code yX6_bestWord cX6_bestWord 9 (some .int) ∈ lw_tbl := en_tm_6 _ (List.mem_of_getElem? (i := 208) rfl)
set_option maxRecDepth 20000 in
theorem en_cw_219 : Cond.code yX6_learn cX6_learn 8 (some .int) ∈ lw_tbl := en_tm_6 _ (List.mem_of_getElem? (i := 212) rfl)
set_option maxRecDepth 20000 in
theorem en_cw_220 : Cond.code yX6_seekOrder cX6_seekOrder 7 (none) ∈ lw_tbl := en_tm_6 _ (List.mem_of_getElem? (i := 220) rfl)
set_option maxRecDepth 20000 in
theorem en_cw_221 : Cond.code yX6_order cX6_order 3 (some .int) ∈ lw_tbl := en_tm_6 _ (List.mem_of_getElem? (i := 216) rfl)
set_option maxRecDepth 20000 in
theorem en_cw_222 : Cond.code yX6_lonely cX6_lonely 4 (some .int) ∈ lw_tbl := en_tm_6 _ (List.mem_of_getElem? (i := 224) rfl)
set_option maxRecDepth 20000 in
theorem en_cw_223 : Cond.code yX6_fillsOf cX6_fillsOf 6 (some .int) ∈ lw_tbl := en_tm_6 _ (List.mem_of_getElem? (i := 232) rfl)
set_option maxRecDepth 20000 in
theorem en_cw_224 : Cond.code yX6_fills cX6_fills 3 (some .int) ∈ lw_tbl := en_tm_6 _ (List.mem_of_getElem? (i := 228) rfl)
set_option maxRecDepth 20000 in
theorem en_cw_225 : Cond.code yX6_gains cX6_gains 4 (some .int) ∈ lw_tbl := en_tm_6 _ (List.mem_of_getElem? (i := 236) rfl)
set_option maxRecDepth 20000 in
theorem en_cw_226 : Cond.code yX6_silent cX6_silent 4 (some .int) ∈ lw_tbl := en_tm_7 _ (List.mem_of_getElem? (i := 0) rfl)
set_option maxRecDepth 20000 in
theorem en_cw_227 : Cond.code yX6_stop cX6_stop 8 (some .int) ∈ lw_tbl := en_tm_7 _ (List.mem_of_getElem? (i := 6) rfl)
set_option maxRecDepth 20000 in
theorem en_cw_228 : Cond.code yX6_takeBest cX6_takeBest 2 (some .int) ∈ lw_tbl := en_tm_7 _ (List.mem_of_getElem? (i := 10) rfl)
set_option maxRecDepth 20000 in
theorem en_cw_229 : Cond.code yX6_swap cX6_swap 5 (some .int) ∈ lw_tbl := en_tm_7 _ (List.mem_of_getElem? (i := 14) rfl)
set_option maxRecDepth 20000 in
theorem en_cw_230 : Cond.code yX6_goesRound cX6_goesRound 4 (some .int) ∈ lw_tbl := en_tm_7 _ (List.mem_of_getElem? (i := 22) rfl)
set_option maxRecDepth 20000 in
theorem en_cw_231 : Cond.code yX6_round cX6_round 1 (some .int) ∈ lw_tbl := en_tm_7 _ (List.mem_of_getElem? (i := 18) rfl)
set_option maxRecDepth 20000 in
theorem en_cw_232 : Cond.code yX6_below cX6_below 2 (some .int) ∈ lw_tbl := en_tm_7 _ (List.mem_of_getElem? (i := 30) rfl)
set_option maxRecDepth 20000 in
theorem en_cw_233 : Cond.code yX6_rounds cX6_rounds 4 (some .int) ∈ lw_tbl := en_tm_7 _ (List.mem_of_getElem? (i := 26) rfl)
set_option maxRecDepth 20000 in
theorem en_cw_234 : Cond.code yX6_usedMany cX6_usedMany 3 (some .int) ∈ lw_tbl := en_tm_7 _ (List.mem_of_getElem? (i := 39) rfl)
set_option maxRecDepth 20000 in
theorem en_cw_235 : Cond.code yX6_again cX6_again 3 (some .int) ∈ lw_tbl := en_tm_7 _ (List.mem_of_getElem? (i := 35) rfl)
set_option maxRecDepth 20000 in
theorem en_cw_236 : Cond.code yX6_seed cX6_seed 3 (some .int) ∈ lw_tbl := en_tm_7 _ (List.mem_of_getElem? (i := 43) rfl)
set_option maxRecDepth 20000 in
theorem en_cw_237 : Cond.code yX6_fresh cX6_fresh 1 (some (.object "TownRiverBeastModel")) ∈ lw_tbl := en_tm_6 _ (List.mem_of_getElem? (i := 12) rfl)
set_option maxRecDepth 20000 in
theorem en_cw_238 : Cond.code yX6_copied cX6_copied 3 (none) ∈ lw_tbl := en_tm_6 _ (List.mem_of_getElem? (i := 21) rfl)
set_option maxRecDepth 20000 in
theorem en_cw_239 : Cond.code yX6_takeFrom cX6_takeFrom 3 (none) ∈ lw_tbl := en_tm_6 _ (List.mem_of_getElem? (i := 18) rfl)
set_option maxRecDepth 20000 in
theorem en_cw_240 : Cond.code yX6_image cX6_image 1 (some .int) ∈ lw_tbl := en_tm_7 _ (List.mem_of_getElem? (i := 47) rfl)
set_option maxRecDepth 20000 in
theorem en_cw_241 : Cond.code yX6_back cX6_back 2 (some .int) ∈ lw_tbl := en_tm_7 _ (List.mem_of_getElem? (i := 51) rfl)
set_option maxRecDepth 20000 in
theorem en_cw_242 : Cond.code yX6_status cX6_status 4 (some .int) ∈ lw_tbl := en_tm_7 _ (List.mem_of_getElem? (i := 55) rfl)
set_option maxRecDepth 20000 in
theorem en_cw_243 : Cond.code yJ6_bitCount_0f7a4 cJ6_bitCount_0f7a4 1 (some .int) ∈ lw_tbl := en_tm_2 _ (List.mem_of_getElem? (i := 158) rfl)
set_option maxRecDepth 20000 in
theorem en_cw_246 : Cond.code yJ0_length_8abf5 cJ0_length_8abf5 1 (some .int) ∈ lw_tbl := en_tm_3 _ (List.mem_of_getElem? (i := 63) rfl)
set_option maxRecDepth 20000 in
theorem en_cw_247 : Cond.code yJ0_charAt_5068e cJ0_charAt_5068e 2 (some .char) ∈ lw_tbl := en_tm_3 _ (List.mem_of_getElem? (i := 73) rfl)
set_option maxRecDepth 20000 in
theorem en_cw_248 : Cond.code yJ0_coder_7d493 cJ0_coder_7d493 1 (some .byte) ∈ lw_tbl := en_tm_3 _ (List.mem_of_getElem? (i := 67) rfl)
set_option maxRecDepth 20000 in
theorem en_cw_249 : Cond.code yJ0_isLatin1_aae02 cJ0_isLatin1_aae02 1 (some .boolean) ∈ lw_tbl := en_tm_3 _ (List.mem_of_getElem? (i := 77) rfl)
set_option maxRecDepth 20000 in
theorem en_cw_250 : Cond.code yJ0_checkIndex_df160 cJ0_checkIndex_df160 2 (none) ∈ lw_tbl := en_tm_3 _ (List.mem_of_getElem? (i := 83) rfl)
set_option maxRecDepth 20000 in
theorem en_cw_251 : Cond.code yJ1_charAt_3b067 cJ1_charAt_3b067 2 (some .char) ∈ lw_tbl := en_tm_3 _ (List.mem_of_getElem? (i := 80) rfl)
set_option maxRecDepth 20000 in
theorem en_cw_256 : Cond.code yJ3_checkIndex_8e157 cJ3_checkIndex_8e157 3 (some .int) ∈ lw_tbl := en_tm_3 _ (List.mem_of_getElem? (i := 88) rfl)
def en_us_0 : List Nat := [1, 2, 3, 4, 5, 6, 7, 8, 10, 11, 12, 13, 14, 15, 16, 17, 18, 19, 20, 21, 22, 23, 24, 25, 26]
set_option maxRecDepth 20000 in
theorem en_cwl_0 : ∀ k ∈ en_us_0, Cond.code (en_m k).1 (en_m k).2.1 (en_m k).2.2.1 (en_m k).2.2.2.1 ∈ lw_tbl := List.forall_mem_cons.mpr ⟨en_cw_1, List.forall_mem_cons.mpr ⟨en_cw_2, List.forall_mem_cons.mpr ⟨en_cw_3, List.forall_mem_cons.mpr ⟨en_cw_4, List.forall_mem_cons.mpr ⟨en_cw_5, List.forall_mem_cons.mpr ⟨en_cw_6, List.forall_mem_cons.mpr ⟨en_cw_7, List.forall_mem_cons.mpr ⟨en_cw_8, List.forall_mem_cons.mpr ⟨en_cw_10, List.forall_mem_cons.mpr ⟨en_cw_11, List.forall_mem_cons.mpr ⟨en_cw_12, List.forall_mem_cons.mpr ⟨en_cw_13, List.forall_mem_cons.mpr ⟨en_cw_14, List.forall_mem_cons.mpr ⟨en_cw_15, List.forall_mem_cons.mpr ⟨en_cw_16, List.forall_mem_cons.mpr ⟨en_cw_17, List.forall_mem_cons.mpr ⟨en_cw_18, List.forall_mem_cons.mpr ⟨en_cw_19, List.forall_mem_cons.mpr ⟨en_cw_20, List.forall_mem_cons.mpr ⟨en_cw_21, List.forall_mem_cons.mpr ⟨en_cw_22, List.forall_mem_cons.mpr ⟨en_cw_23, List.forall_mem_cons.mpr ⟨en_cw_24, List.forall_mem_cons.mpr ⟨en_cw_25, List.forall_mem_cons.mpr ⟨en_cw_26, fun _ h => absurd h List.not_mem_nil⟩⟩⟩⟩⟩⟩⟩⟩⟩⟩⟩⟩⟩⟩⟩⟩⟩⟩⟩⟩⟩⟩⟩⟩⟩
def en_us_1 : List Nat := [27, 28, 29, 30, 31, 32, 33, 34, 35, 37, 38, 39, 40, 41, 42, 43, 45, 46, 47, 48, 49, 50, 51, 52, 53]
set_option maxRecDepth 20000 in
theorem en_cwl_1 : ∀ k ∈ en_us_1, Cond.code (en_m k).1 (en_m k).2.1 (en_m k).2.2.1 (en_m k).2.2.2.1 ∈ lw_tbl := List.forall_mem_cons.mpr ⟨en_cw_27, List.forall_mem_cons.mpr ⟨en_cw_28, List.forall_mem_cons.mpr ⟨en_cw_29, List.forall_mem_cons.mpr ⟨en_cw_30, List.forall_mem_cons.mpr ⟨en_cw_31, List.forall_mem_cons.mpr ⟨en_cw_32, List.forall_mem_cons.mpr ⟨en_cw_33, List.forall_mem_cons.mpr ⟨en_cw_34, List.forall_mem_cons.mpr ⟨en_cw_35, List.forall_mem_cons.mpr ⟨en_cw_37, List.forall_mem_cons.mpr ⟨en_cw_38, List.forall_mem_cons.mpr ⟨en_cw_39, List.forall_mem_cons.mpr ⟨en_cw_40, List.forall_mem_cons.mpr ⟨en_cw_41, List.forall_mem_cons.mpr ⟨en_cw_42, List.forall_mem_cons.mpr ⟨en_cw_43, List.forall_mem_cons.mpr ⟨en_cw_45, List.forall_mem_cons.mpr ⟨en_cw_46, List.forall_mem_cons.mpr ⟨en_cw_47, List.forall_mem_cons.mpr ⟨en_cw_48, List.forall_mem_cons.mpr ⟨en_cw_49, List.forall_mem_cons.mpr ⟨en_cw_50, List.forall_mem_cons.mpr ⟨en_cw_51, List.forall_mem_cons.mpr ⟨en_cw_52, List.forall_mem_cons.mpr ⟨en_cw_53, fun _ h => absurd h List.not_mem_nil⟩⟩⟩⟩⟩⟩⟩⟩⟩⟩⟩⟩⟩⟩⟩⟩⟩⟩⟩⟩⟩⟩⟩⟩⟩
def en_us_2 : List Nat := [54, 55, 56, 57, 58, 60, 61, 62, 63, 64, 65, 66, 68, 69, 70, 71, 72, 73, 74, 75, 76, 77, 78, 79, 80]
set_option maxRecDepth 20000 in
theorem en_cwl_2 : ∀ k ∈ en_us_2, Cond.code (en_m k).1 (en_m k).2.1 (en_m k).2.2.1 (en_m k).2.2.2.1 ∈ lw_tbl := List.forall_mem_cons.mpr ⟨en_cw_54, List.forall_mem_cons.mpr ⟨en_cw_55, List.forall_mem_cons.mpr ⟨en_cw_56, List.forall_mem_cons.mpr ⟨en_cw_57, List.forall_mem_cons.mpr ⟨en_cw_58, List.forall_mem_cons.mpr ⟨en_cw_60, List.forall_mem_cons.mpr ⟨en_cw_61, List.forall_mem_cons.mpr ⟨en_cw_62, List.forall_mem_cons.mpr ⟨en_cw_63, List.forall_mem_cons.mpr ⟨en_cw_64, List.forall_mem_cons.mpr ⟨en_cw_65, List.forall_mem_cons.mpr ⟨en_cw_66, List.forall_mem_cons.mpr ⟨en_cw_68, List.forall_mem_cons.mpr ⟨en_cw_69, List.forall_mem_cons.mpr ⟨en_cw_70, List.forall_mem_cons.mpr ⟨en_cw_71, List.forall_mem_cons.mpr ⟨en_cw_72, List.forall_mem_cons.mpr ⟨en_cw_73, List.forall_mem_cons.mpr ⟨en_cw_74, List.forall_mem_cons.mpr ⟨en_cw_75, List.forall_mem_cons.mpr ⟨en_cw_76, List.forall_mem_cons.mpr ⟨en_cw_77, List.forall_mem_cons.mpr ⟨en_cw_78, List.forall_mem_cons.mpr ⟨en_cw_79, List.forall_mem_cons.mpr ⟨en_cw_80, fun _ h => absurd h List.not_mem_nil⟩⟩⟩⟩⟩⟩⟩⟩⟩⟩⟩⟩⟩⟩⟩⟩⟩⟩⟩⟩⟩⟩⟩⟩⟩
def en_us_3 : List Nat := [81, 82, 83, 84, 85, 86, 87, 88, 89, 90, 91, 92, 93, 94, 95, 96, 97, 98, 99, 100, 101, 102, 103, 104, 105]
set_option maxRecDepth 20000 in
theorem en_cwl_3 : ∀ k ∈ en_us_3, Cond.code (en_m k).1 (en_m k).2.1 (en_m k).2.2.1 (en_m k).2.2.2.1 ∈ lw_tbl := List.forall_mem_cons.mpr ⟨en_cw_81, List.forall_mem_cons.mpr ⟨en_cw_82, List.forall_mem_cons.mpr ⟨en_cw_83, List.forall_mem_cons.mpr ⟨en_cw_84, List.forall_mem_cons.mpr ⟨en_cw_85, List.forall_mem_cons.mpr ⟨en_cw_86, List.forall_mem_cons.mpr ⟨en_cw_87, List.forall_mem_cons.mpr ⟨en_cw_88, List.forall_mem_cons.mpr ⟨en_cw_89, List.forall_mem_cons.mpr ⟨en_cw_90, List.forall_mem_cons.mpr ⟨en_cw_91, List.forall_mem_cons.mpr ⟨en_cw_92, List.forall_mem_cons.mpr ⟨en_cw_93, List.forall_mem_cons.mpr ⟨en_cw_94, List.forall_mem_cons.mpr ⟨en_cw_95, List.forall_mem_cons.mpr ⟨en_cw_96, List.forall_mem_cons.mpr ⟨en_cw_97, List.forall_mem_cons.mpr ⟨en_cw_98, List.forall_mem_cons.mpr ⟨en_cw_99, List.forall_mem_cons.mpr ⟨en_cw_100, List.forall_mem_cons.mpr ⟨en_cw_101, List.forall_mem_cons.mpr ⟨en_cw_102, List.forall_mem_cons.mpr ⟨en_cw_103, List.forall_mem_cons.mpr ⟨en_cw_104, List.forall_mem_cons.mpr ⟨en_cw_105, fun _ h => absurd h List.not_mem_nil⟩⟩⟩⟩⟩⟩⟩⟩⟩⟩⟩⟩⟩⟩⟩⟩⟩⟩⟩⟩⟩⟩⟩⟩⟩
def en_us_4 : List Nat := [106, 107, 108, 109, 110, 111, 112, 113, 114, 115, 116, 117, 118, 119, 120, 121, 122, 123, 124, 125, 126, 127, 128, 129, 130]
set_option maxRecDepth 20000 in
theorem en_cwl_4 : ∀ k ∈ en_us_4, Cond.code (en_m k).1 (en_m k).2.1 (en_m k).2.2.1 (en_m k).2.2.2.1 ∈ lw_tbl := List.forall_mem_cons.mpr ⟨en_cw_106, List.forall_mem_cons.mpr ⟨en_cw_107, List.forall_mem_cons.mpr ⟨en_cw_108, List.forall_mem_cons.mpr ⟨en_cw_109, List.forall_mem_cons.mpr ⟨en_cw_110, List.forall_mem_cons.mpr ⟨en_cw_111, List.forall_mem_cons.mpr ⟨en_cw_112, List.forall_mem_cons.mpr ⟨en_cw_113, List.forall_mem_cons.mpr ⟨en_cw_114, List.forall_mem_cons.mpr ⟨en_cw_115, List.forall_mem_cons.mpr ⟨en_cw_116, List.forall_mem_cons.mpr ⟨en_cw_117, List.forall_mem_cons.mpr ⟨en_cw_118, List.forall_mem_cons.mpr ⟨en_cw_119, List.forall_mem_cons.mpr ⟨en_cw_120, List.forall_mem_cons.mpr ⟨en_cw_121, List.forall_mem_cons.mpr ⟨en_cw_122, List.forall_mem_cons.mpr ⟨en_cw_123, List.forall_mem_cons.mpr ⟨en_cw_124, List.forall_mem_cons.mpr ⟨en_cw_125, List.forall_mem_cons.mpr ⟨en_cw_126, List.forall_mem_cons.mpr ⟨en_cw_127, List.forall_mem_cons.mpr ⟨en_cw_128, List.forall_mem_cons.mpr ⟨en_cw_129, List.forall_mem_cons.mpr ⟨en_cw_130, fun _ h => absurd h List.not_mem_nil⟩⟩⟩⟩⟩⟩⟩⟩⟩⟩⟩⟩⟩⟩⟩⟩⟩⟩⟩⟩⟩⟩⟩⟩⟩
def en_us_5 : List Nat := [131, 132, 133, 134, 135, 136, 137, 138, 140, 141, 142, 143, 144, 145, 146, 147, 148, 149, 150, 151, 152, 153, 154, 155, 156]
set_option maxRecDepth 20000 in
theorem en_cwl_5 : ∀ k ∈ en_us_5, Cond.code (en_m k).1 (en_m k).2.1 (en_m k).2.2.1 (en_m k).2.2.2.1 ∈ lw_tbl := List.forall_mem_cons.mpr ⟨en_cw_131, List.forall_mem_cons.mpr ⟨en_cw_132, List.forall_mem_cons.mpr ⟨en_cw_133, List.forall_mem_cons.mpr ⟨en_cw_134, List.forall_mem_cons.mpr ⟨en_cw_135, List.forall_mem_cons.mpr ⟨en_cw_136, List.forall_mem_cons.mpr ⟨en_cw_137, List.forall_mem_cons.mpr ⟨en_cw_138, List.forall_mem_cons.mpr ⟨en_cw_140, List.forall_mem_cons.mpr ⟨en_cw_141, List.forall_mem_cons.mpr ⟨en_cw_142, List.forall_mem_cons.mpr ⟨en_cw_143, List.forall_mem_cons.mpr ⟨en_cw_144, List.forall_mem_cons.mpr ⟨en_cw_145, List.forall_mem_cons.mpr ⟨en_cw_146, List.forall_mem_cons.mpr ⟨en_cw_147, List.forall_mem_cons.mpr ⟨en_cw_148, List.forall_mem_cons.mpr ⟨en_cw_149, List.forall_mem_cons.mpr ⟨en_cw_150, List.forall_mem_cons.mpr ⟨en_cw_151, List.forall_mem_cons.mpr ⟨en_cw_152, List.forall_mem_cons.mpr ⟨en_cw_153, List.forall_mem_cons.mpr ⟨en_cw_154, List.forall_mem_cons.mpr ⟨en_cw_155, List.forall_mem_cons.mpr ⟨en_cw_156, fun _ h => absurd h List.not_mem_nil⟩⟩⟩⟩⟩⟩⟩⟩⟩⟩⟩⟩⟩⟩⟩⟩⟩⟩⟩⟩⟩⟩⟩⟩⟩
def en_us_6 : List Nat := [157, 158, 159, 160, 161, 162, 163, 164, 165, 166, 167, 168, 169, 170, 171, 172, 173, 174, 175, 176, 177, 178, 179, 180, 181]
set_option maxRecDepth 20000 in
theorem en_cwl_6 : ∀ k ∈ en_us_6, Cond.code (en_m k).1 (en_m k).2.1 (en_m k).2.2.1 (en_m k).2.2.2.1 ∈ lw_tbl := List.forall_mem_cons.mpr ⟨en_cw_157, List.forall_mem_cons.mpr ⟨en_cw_158, List.forall_mem_cons.mpr ⟨en_cw_159, List.forall_mem_cons.mpr ⟨en_cw_160, List.forall_mem_cons.mpr ⟨en_cw_161, List.forall_mem_cons.mpr ⟨en_cw_162, List.forall_mem_cons.mpr ⟨en_cw_163, List.forall_mem_cons.mpr ⟨en_cw_164, List.forall_mem_cons.mpr ⟨en_cw_165, List.forall_mem_cons.mpr ⟨en_cw_166, List.forall_mem_cons.mpr ⟨en_cw_167, List.forall_mem_cons.mpr ⟨en_cw_168, List.forall_mem_cons.mpr ⟨en_cw_169, List.forall_mem_cons.mpr ⟨en_cw_170, List.forall_mem_cons.mpr ⟨en_cw_171, List.forall_mem_cons.mpr ⟨en_cw_172, List.forall_mem_cons.mpr ⟨en_cw_173, List.forall_mem_cons.mpr ⟨en_cw_174, List.forall_mem_cons.mpr ⟨en_cw_175, List.forall_mem_cons.mpr ⟨en_cw_176, List.forall_mem_cons.mpr ⟨en_cw_177, List.forall_mem_cons.mpr ⟨en_cw_178, List.forall_mem_cons.mpr ⟨en_cw_179, List.forall_mem_cons.mpr ⟨en_cw_180, List.forall_mem_cons.mpr ⟨en_cw_181, fun _ h => absurd h List.not_mem_nil⟩⟩⟩⟩⟩⟩⟩⟩⟩⟩⟩⟩⟩⟩⟩⟩⟩⟩⟩⟩⟩⟩⟩⟩⟩
def en_us_7 : List Nat := [182, 183, 184, 185, 186, 187, 188, 189, 190, 191, 192, 193, 194, 195, 196, 197, 198, 199, 200, 201, 202, 203, 204, 205, 206]
set_option maxRecDepth 20000 in
theorem en_cwl_7 : ∀ k ∈ en_us_7, Cond.code (en_m k).1 (en_m k).2.1 (en_m k).2.2.1 (en_m k).2.2.2.1 ∈ lw_tbl := List.forall_mem_cons.mpr ⟨en_cw_182, List.forall_mem_cons.mpr ⟨en_cw_183, List.forall_mem_cons.mpr ⟨en_cw_184, List.forall_mem_cons.mpr ⟨en_cw_185, List.forall_mem_cons.mpr ⟨en_cw_186, List.forall_mem_cons.mpr ⟨en_cw_187, List.forall_mem_cons.mpr ⟨en_cw_188, List.forall_mem_cons.mpr ⟨en_cw_189, List.forall_mem_cons.mpr ⟨en_cw_190, List.forall_mem_cons.mpr ⟨en_cw_191, List.forall_mem_cons.mpr ⟨en_cw_192, List.forall_mem_cons.mpr ⟨en_cw_193, List.forall_mem_cons.mpr ⟨en_cw_194, List.forall_mem_cons.mpr ⟨en_cw_195, List.forall_mem_cons.mpr ⟨en_cw_196, List.forall_mem_cons.mpr ⟨en_cw_197, List.forall_mem_cons.mpr ⟨en_cw_198, List.forall_mem_cons.mpr ⟨en_cw_199, List.forall_mem_cons.mpr ⟨en_cw_200, List.forall_mem_cons.mpr ⟨en_cw_201, List.forall_mem_cons.mpr ⟨en_cw_202, List.forall_mem_cons.mpr ⟨en_cw_203, List.forall_mem_cons.mpr ⟨en_cw_204, List.forall_mem_cons.mpr ⟨en_cw_205, List.forall_mem_cons.mpr ⟨en_cw_206, fun _ h => absurd h List.not_mem_nil⟩⟩⟩⟩⟩⟩⟩⟩⟩⟩⟩⟩⟩⟩⟩⟩⟩⟩⟩⟩⟩⟩⟩⟩⟩
def en_us_8 : List Nat := [207, 208, 209, 210, 211, 212, 213, 214, 215, 216, 217, 218, 219, 220, 221, 222, 223, 224, 225, 226, 227, 228, 229, 230, 231]
set_option maxRecDepth 20000 in
theorem en_cwl_8 : ∀ k ∈ en_us_8, Cond.code (en_m k).1 (en_m k).2.1 (en_m k).2.2.1 (en_m k).2.2.2.1 ∈ lw_tbl := List.forall_mem_cons.mpr ⟨en_cw_207, List.forall_mem_cons.mpr ⟨en_cw_208, List.forall_mem_cons.mpr ⟨en_cw_209, List.forall_mem_cons.mpr ⟨en_cw_210, List.forall_mem_cons.mpr ⟨en_cw_211, List.forall_mem_cons.mpr ⟨en_cw_212, List.forall_mem_cons.mpr ⟨en_cw_213, List.forall_mem_cons.mpr ⟨en_cw_214, List.forall_mem_cons.mpr ⟨en_cw_215, List.forall_mem_cons.mpr ⟨en_cw_216, List.forall_mem_cons.mpr ⟨en_cw_217, List.forall_mem_cons.mpr ⟨en_cw_218, List.forall_mem_cons.mpr ⟨en_cw_219, List.forall_mem_cons.mpr ⟨en_cw_220, List.forall_mem_cons.mpr ⟨en_cw_221, List.forall_mem_cons.mpr ⟨en_cw_222, List.forall_mem_cons.mpr ⟨en_cw_223, List.forall_mem_cons.mpr ⟨en_cw_224, List.forall_mem_cons.mpr ⟨en_cw_225, List.forall_mem_cons.mpr ⟨en_cw_226, List.forall_mem_cons.mpr ⟨en_cw_227, List.forall_mem_cons.mpr ⟨en_cw_228, List.forall_mem_cons.mpr ⟨en_cw_229, List.forall_mem_cons.mpr ⟨en_cw_230, List.forall_mem_cons.mpr ⟨en_cw_231, fun _ h => absurd h List.not_mem_nil⟩⟩⟩⟩⟩⟩⟩⟩⟩⟩⟩⟩⟩⟩⟩⟩⟩⟩⟩⟩⟩⟩⟩⟩⟩
def en_us_9 : List Nat := [232, 233, 234, 235, 236, 237, 238, 239, 240, 241, 242, 243, 246, 247, 248, 249, 250, 251, 256]
set_option maxRecDepth 20000 in
theorem en_cwl_9 : ∀ k ∈ en_us_9, Cond.code (en_m k).1 (en_m k).2.1 (en_m k).2.2.1 (en_m k).2.2.2.1 ∈ lw_tbl := List.forall_mem_cons.mpr ⟨en_cw_232, List.forall_mem_cons.mpr ⟨en_cw_233, List.forall_mem_cons.mpr ⟨en_cw_234, List.forall_mem_cons.mpr ⟨en_cw_235, List.forall_mem_cons.mpr ⟨en_cw_236, List.forall_mem_cons.mpr ⟨en_cw_237, List.forall_mem_cons.mpr ⟨en_cw_238, List.forall_mem_cons.mpr ⟨en_cw_239, List.forall_mem_cons.mpr ⟨en_cw_240, List.forall_mem_cons.mpr ⟨en_cw_241, List.forall_mem_cons.mpr ⟨en_cw_242, List.forall_mem_cons.mpr ⟨en_cw_243, List.forall_mem_cons.mpr ⟨en_cw_246, List.forall_mem_cons.mpr ⟨en_cw_247, List.forall_mem_cons.mpr ⟨en_cw_248, List.forall_mem_cons.mpr ⟨en_cw_249, List.forall_mem_cons.mpr ⟨en_cw_250, List.forall_mem_cons.mpr ⟨en_cw_251, List.forall_mem_cons.mpr ⟨en_cw_256, fun _ h => absurd h List.not_mem_nil⟩⟩⟩⟩⟩⟩⟩⟩⟩⟩⟩⟩⟩⟩⟩⟩⟩⟩⟩
def en_used : List Nat := en_us_0 ++ (en_us_1 ++ (en_us_2 ++ (en_us_3 ++ (en_us_4 ++ (en_us_5 ++ (en_us_6 ++ (en_us_7 ++ (en_us_8 ++ (en_us_9)))))))))
theorem en_cw_all : ∀ k ∈ en_used, Cond.code (en_m k).1 (en_m k).2.1 (en_m k).2.2.1 (en_m k).2.2.2.1 ∈ lw_tbl := List.forall_mem_append.mpr ⟨en_cwl_0, List.forall_mem_append.mpr ⟨en_cwl_1, List.forall_mem_append.mpr ⟨en_cwl_2, List.forall_mem_append.mpr ⟨en_cwl_3, List.forall_mem_append.mpr ⟨en_cwl_4, List.forall_mem_append.mpr ⟨en_cwl_5, List.forall_mem_append.mpr ⟨en_cwl_6, List.forall_mem_append.mpr ⟨en_cwl_7, List.forall_mem_append.mpr ⟨en_cwl_8, en_cwl_9⟩⟩⟩⟩⟩⟩⟩⟩⟩
/-- what is asked of a method's words -/
def en_mck (k : Nat) : Bool :=
  let q := en_m k
  let t := en_mp.getD k (0, 0, 0, 0)
  (decide (lw_tbl[t.2.1]? = some (Cond.initialized q.1.cls)) && (decide (lw_tbl[t.2.2.1]? = some (if q.2.2.2.2.2.1 then Cond.static q.1 else Cond.instanceMethod q.1)) && ((q.2.2.2.2.2.1 || decide (lw_tbl[t.2.2.2]? = some (Cond.selects q.1.cls q.1 q.1))) && (decide (q.1.cls ≠ "java/lang/invoke/MethodHandle" ∧ q.1.cls ≠ "java/lang/invoke/VarHandle") && (decide ((parseMethodDescriptor q.1.desc).map (fun d => d.parameters.length) = some q.2.2.2.2.1) && (plainName q.1.cls && (decide (en_cn[q.2.2.2.2.2.2]? = some q.1.cls) && decide (q.2.2.1 ≤ 20))))))))
theorem en_mck_all : en_used.all en_mck = true := by decide +kernel
def en_xn (x : Nat) : MethodName := match x with | 1000 => arraycopyName | 1001 => Lib.Math.max.name | _ => Lib.Math.min.name
def en_xck (q : (Nat × Nat × Nat) × Nat) : Bool := decide (lw_tbl[q.2]? = some (Cond.methodLink (en_cn.getD q.1.1 "") q.1.2.1 (en_xn q.1.2.2)))
theorem en_xck_all : (en_xlk.zip en_xlp).all en_xck = true := by decide +kernel
theorem en_xlk_len : en_xlk.length = en_xlp.length := by decide +kernel
theorem en_mck_at {k : Nat} (h : en_used.contains k = true) : en_mck k = true := List.all_eq_true.mp en_mck_all k (List.contains_iff_mem.mp h)
theorem en_gw_of {i : Nat} {w : Cond} (h : lw_tbl[i]? = some w) (hg : goodWord w = true) : w ∈ en_gw := List.mem_filter.mpr ⟨List.mem_of_getElem? h, hg⟩
/-- a link of a method: own class, pool index, method, nest -/
def en_lck (q : (Nat × Nat × Nat × Nat) × Nat) : Bool :=
  en_used.contains q.1.2.2.1 && (match q.1.2.2.2 with
    | 0 => decide (lw_tbl[q.2]? = some (Cond.methodLink (en_cn.getD q.1.1 "") q.1.2.1 (en_m q.1.2.2.1).1))
    | _ => decide (Cond.methodLinkNest (en_cn.getD q.1.1 "") q.1.2.1 (en_m q.1.2.2.1).1 "TownRiverBeast" ∈ en_nest))
theorem en_lck_all : (en_mlk.zip en_mlp).all en_lck = true := by decide +kernel
theorem en_mlk_len : en_mlk.length = en_mlp.length := by decide +kernel
theorem en_link_M {j o i k : Nat} {n : Nat} (h : en_mlk[j]? = some (o, i, k, n)) : en_used.contains k = true ∧ ((n = 0 ∧ Cond.methodLink (en_cn.getD o "") i (en_m k).1 ∈ en_gw) ∨ (¬ n = 0 ∧ Cond.methodLinkNest (en_cn.getD o "") i (en_m k).1 "TownRiverBeast" ∈ en_nest)) := by
  have hj := (List.getElem?_eq_some_iff.mp h).1
  have hj2 : j < en_mlp.length := by rw [← en_mlk_len]; exact hj
  have hz : (en_mlk.zip en_mlp)[j]? = some ((o, i, k, n), en_mlp[j]) := by
    rw [List.getElem?_zip_eq_some]
    exact ⟨h, List.getElem?_eq_getElem hj2⟩
  have hc := List.all_eq_true.mp en_lck_all _ (List.mem_of_getElem? hz)
  unfold en_lck at hc
  simp only [Bool.and_eq_true] at hc
  refine ⟨hc.1, ?_⟩
  cases n with
  | zero => exact Or.inl ⟨rfl, en_gw_of (of_decide_eq_true hc.2) rfl⟩
  | succ n => exact Or.inr ⟨by omega, of_decide_eq_true hc.2⟩
theorem en_link_X {j o i x : Nat} (h : en_xlk[j]? = some (o, i, x)) : Cond.methodLink (en_cn.getD o "") i (en_xn x) ∈ en_gw := by
  have hj := (List.getElem?_eq_some_iff.mp h).1
  have hj2 : j < en_xlp.length := by rw [← en_xlk_len]; exact hj
  have hz : (en_xlk.zip en_xlp)[j]? = some ((o, i, x), en_xlp[j]) := by
    rw [List.getElem?_zip_eq_some]
    exact ⟨h, List.getElem?_eq_getElem hj2⟩
  exact en_gw_of (of_decide_eq_true (List.all_eq_true.mp en_xck_all _ (List.mem_of_getElem? hz))) rfl
theorem en_w_misc : [Cond.native arraycopyName, Cond.static arraycopyName, Cond.initialized "java/lang/System", Cond.static Lib.Math.max.name, Cond.static Lib.Math.min.name, Cond.initialized "java/lang/Math", Cond.code Lib.Math.max.name Lib.Math.max.code 2 (some .int), Cond.code Lib.Math.min.name Lib.Math.min.code 2 (some .int)].all (fun w => decide (w ∈ lw_tbl) && goodWord w) = true := by decide +kernel
theorem en_w_m {w : Cond} (h : w ∈ [Cond.native arraycopyName, Cond.static arraycopyName, Cond.initialized "java/lang/System", Cond.static Lib.Math.max.name, Cond.static Lib.Math.min.name, Cond.initialized "java/lang/Math", Cond.code Lib.Math.max.name Lib.Math.max.code 2 (some .int), Cond.code Lib.Math.min.name Lib.Math.min.code 2 (some .int)]) : w ∈ en_gw := by
  have h1 := List.all_eq_true.mp en_w_misc w h
  simp only [Bool.and_eq_true] at h1
  exact List.mem_filter.mpr ⟨of_decide_eq_true h1.1, h1.2⟩
/-- a link of a field -/
def en_fck (q : (Nat × Nat × Nat × Nat) × Nat) : Bool := match vwCl[q.1.2.2.1]? with
  | some r => decide (q.1.2.2.2 < r.2.2) && decide (lw_tbl[q.2]? = some (Cond.fieldLink (en_cn.getD q.1.1 "") q.1.2.1 (r.2.1 q.1.2.2.2).1 (r.2.1 q.1.2.2.2).2.1 (r.2.1 q.1.2.2.2).2.2.1))
  | none => false
theorem en_fck_all : (en_flk.zip en_flp).all en_fck = true := by decide +kernel
theorem en_flk_len : en_flk.length = en_flp.length := by decide +kernel
theorem en_link_F {j o i c k : Nat} (h : en_flk[j]? = some (o, i, c, k)) : ∃ r : vw_C, vwCl[c]? = some r ∧ k < r.2.2 ∧ Cond.fieldLink (en_cn.getD o "") i (r.2.1 k).1 (r.2.1 k).2.1 (r.2.1 k).2.2.1 ∈ en_gw := by
  have hj := (List.getElem?_eq_some_iff.mp h).1
  have hj2 : j < en_flp.length := by rw [← en_flk_len]; exact hj
  have hz : (en_flk.zip en_flp)[j]? = some ((o, i, c, k), en_flp[j]) := by
    rw [List.getElem?_zip_eq_some]
    exact ⟨h, List.getElem?_eq_getElem hj2⟩
  have hc := List.all_eq_true.mp en_fck_all _ (List.mem_of_getElem? hz)
  unfold en_fck at hc
  dsimp only at hc
  cases hr : vwCl[c]? with
  | none => rw [hr] at hc; cases hc
  | some r =>
    rw [hr] at hc
    simp only [Bool.and_eq_true] at hc
    exact ⟨r, rfl, of_decide_eq_true hc.1, en_gw_of (of_decide_eq_true hc.2) rfl⟩
/-- the classes' own words -/
theorem en_uw_all : vwCl.all (fun r => (u_ws r.1 r.2.1 r.2.2).all (fun w => decide (w ∈ lw_tbl) && goodWord w)) = true := by decide +kernel
theorem en_uw {c : Nat} {r : vw_C} (h : vwCl[c]? = some r) : ∀ w ∈ u_ws r.1 r.2.1 r.2.2, w ∈ en_gw := by
  intro w hw
  have h1 := List.all_eq_true.mp (List.all_eq_true.mp en_uw_all r (List.mem_of_getElem? h)) w hw
  simp only [Bool.and_eq_true] at h1
  exact List.mem_filter.mpr ⟨of_decide_eq_true h1.1, h1.2⟩
theorem en_ty {c : Nat} {r : vw_C} (h : vwCl[c]? = some r) : ∃ ty0 : Nat → FieldType, (∀ k, k < r.2.2 → parseFieldDescriptor (r.2.1 k).2.2.1 = some (ty0 k)) ∧ ∀ a, a < r.2.2 → ∀ b, b < r.2.2 → a ≠ b → (r.2.1 a).2.1 ≠ (r.2.1 b).2.1 := by
  match c, h with
  | 0, h => cases h; exact ⟨tyX0, tyX0_ok, nmX0⟩
  | 1, h => cases h; exact ⟨tyX1, tyX1_ok, nmX1⟩
  | 2, h => cases h; exact ⟨tyX2, tyX2_ok, nmX2⟩
  | 3, h => cases h; exact ⟨tyX3, tyX3_ok, nmX3⟩
  | 4, h => cases h; exact ⟨tyX4, tyX4_ok, nmX4⟩
  | 5, h => cases h; exact ⟨tyX5, tyX5_ok, nmX5⟩
  | 6, h => cases h; exact ⟨tyX6, tyX6_ok, nmX6⟩
  | c + 7, h => cases h
/-- field kinds against descriptors -/
def en_kck (c : Nat) : Bool := match vwCl[c]? with
  | some r => decide (r.2.2 = (en_ft.getD c []).length) && (List.range r.2.2).all (fun k => match (en_ft.getD c []).getD k (9, 0, 0, 0) with
      | (0, _) => decide ((r.2.1 k).2.2.2 = false ∧ parseFieldDescriptor (r.2.1 k).2.2.1 = some .int)
      | (1, _) => decide ((r.2.1 k).2.2.2 = false ∧ parseFieldDescriptor (r.2.1 k).2.2.1 = some .boolean)
      | _ => true)
  | none => true
theorem en_kck_all : (List.range 7).all en_kck = true := by decide +kernel
theorem en_kinds {c k : Nat} {r : vw_C} (h : vwCl[c]? = some r) (hk : k < r.2.2) : r.2.2 = (en_ft.getD c []).length ∧ (∀ t, (en_ft.getD c []).getD k (9, 0, 0, 0) = (0, t) → (r.2.1 k).2.2.2 = false ∧ parseFieldDescriptor (r.2.1 k).2.2.1 = some .int) ∧ ∀ t, (en_ft.getD c []).getD k (9, 0, 0, 0) = (1, t) → (r.2.1 k).2.2.2 = false ∧ parseFieldDescriptor (r.2.1 k).2.2.1 = some .boolean := by
  have hc : c < 7 := (List.getElem?_eq_some_iff.mp h).1
  have h1 := List.all_eq_true.mp en_kck_all c (List.mem_range.mpr hc)
  unfold en_kck at h1
  rw [h] at h1
  simp only [Bool.and_eq_true] at h1
  have h2 := List.all_eq_true.mp h1.2 k (List.mem_range.mpr hk)
  refine ⟨of_decide_eq_true h1.1, fun t ht => ?_, fun t ht => ?_⟩
  · rw [ht] at h2
    exact of_decide_eq_true h2
  · rw [ht] at h2
    exact of_decide_eq_true h2
theorem en_lay_small : en_lay.all (fun q => decide (q.2 < 1000)) = true := by decide +kernel
theorem en_lay_n {a k n : Nat} (h : en_lay[a]? = some (k, n)) : n < 2 ^ 31 := by
  have := of_decide_eq_true (List.all_eq_true.mp en_lay_small _ (List.mem_of_getElem? h))
  dsimp only at this
  omega
theorem en_lay84 {c : Nat} (h : en_lay[84]? = some (1, c)) : c = 6 := by
  have : en_lay[84]? = some (1, 6) := by decide +kernel
  rw [this] at h
  cases h
  rfl
theorem en_lay84k {k n : Nat} (h : en_lay[84]? = some (k, n)) : k = 1 := by
  have : en_lay[84]? = some (1, 6) := by decide +kernel
  rw [this] at h
  cases h
  rfl
theorem en_nf {s tk tn off : Nat} (h : (en_ft.getD 6 []).getD s (9, 0, 0, 0) = (3, tk, tn, off)) : (s = 24 ∧ tk = 1 ∧ tn = 6 ∧ off = 74) ∨ (s = 25 ∧ tk = 1 ∧ tn = 6 ∧ off = 37) := by
  by_cases hs : s < 41
  · have key : (List.range 41).all (fun s => match (en_ft.getD 6 []).getD s (9, 0, 0, 0) with | (3, tk, tn, off) => decide ((s = 24 ∧ tk = 1 ∧ tn = 6 ∧ off = 74) ∨ (s = 25 ∧ tk = 1 ∧ tn = 6 ∧ off = 37)) | _ => true) = true := by decide +kernel
    have := List.all_eq_true.mp key s (List.mem_range.mpr hs)
    rw [h] at this
    exact of_decide_eq_true this
  · rw [List.getD_eq_getElem?_getD, List.getElem?_eq_none (by have : (en_ft.getD 6 []).length = 41 := by decide +kernel
                                                              omega)] at h
    cases h
theorem en_nf2 {s : Nat} (h : s = 24 ∨ s = 25) : ∃ t, (en_ft.getD 6 []).getD s (9, 0, 0, 0) = (3, t) := by
  rcases h with rfl | rfl
  · exact ⟨_, rfl⟩
  · exact ⟨_, rfl⟩
