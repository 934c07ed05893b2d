def en_mp : List (Nat × Nat × Nat × Nat) := [(0, 0, 0, 0), (800, 79, 798, 799), (804, 79, 803, 20), (811, 79, 810, 21), (819, 79, 818, 22), (822, 79, 821, 0), (826, 79, 825, 23), (830, 79, 829, 24), (955, 79, 953, 954), (0, 0, 0, 0), (592, 77, 590, 591), (447, 77, 445, 446), (531, 77, 529, 530), (503, 77, 501, 502), (507, 77, 505, 506), (519, 77, 517, 518), (511, 77, 509, 510), (523, 77, 521, 522), (488, 77, 486, 487), (535, 77, 533, 534), (568, 77, 566, 567), (563, 77, 561, 562), (559, 77, 557, 558), (572, 77, 570, 571), (863, 77, 861, 862), (470, 77, 468, 469), (480, 77, 478, 479), (749, 77, 747, 748), (741, 77, 739, 740), (934, 77, 932, 933), (735, 77, 733, 734), (881, 77, 879, 880), (900, 77, 898, 899), (971, 77, 969, 970), (976, 77, 974, 975), (984, 77, 982, 983), (0, 0, 0, 0), (731, 78, 729, 730), (745, 78, 744, 18), (782, 78, 780, 781), (778, 78, 776, 777), (774, 78, 773, 19), (770, 78, 768, 769), (791, 78, 789, 790), (0, 0, 0, 0), (580, 80, 578, 579), (597, 80, 595, 596), (601, 80, 600, 7), (604, 80, 603, 0), (614, 80, 613, 9), (609, 80, 608, 8), (666, 80, 665, 10), (680, 80, 679, 13), (687, 80, 686, 14), (693, 80, 692, 15), (698, 80, 697, 16), (708, 80, 707, 17), (670, 80, 669, 11), (674, 80, 673, 12), (0, 0, 0, 0), (411, 81, 409, 410), (407, 81, 405, 406), (395, 81, 393, 394), (453, 81, 451, 452), (391, 81, 389, 390), (416, 81, 414, 415), (420, 81, 419, 2), (0, 0, 0, 0), (377, 76, 375, 376), (399, 76, 397, 398), (424, 76, 422, 423), (435, 76, 433, 434), (439, 76, 437, 438), (443, 76, 441, 442), (457, 76, 455, 456), (492, 76, 490, 491), (496, 76, 494, 495), (515, 76, 513, 514), (527, 76, 525, 526), (539, 76, 537, 538), (547, 76, 545, 546), (576, 76, 574, 575), (584, 76, 582, 583), (588, 76, 586, 587), (715, 76, 713, 714), (719, 76, 717, 718), (723, 76, 721, 722), (727, 76, 725, 726), (753, 76, 751, 752), (757, 76, 755, 756), (762, 76, 760, 761), (766, 76, 764, 765), (787, 76, 785, 786), (796, 76, 794, 795), (834, 76, 832, 833), (855, 76, 853, 854), (859, 76, 857, 858), (868, 76, 866, 867), (873, 76, 871, 872), (877, 76, 875, 876), (885, 76, 883, 884), (889, 76, 887, 888), (896, 76, 894, 895), (905, 76, 903, 904), (909, 76, 907, 908), (913, 76, 911, 912), (918, 76, 916, 917), (922, 76, 920, 921), (930, 76, 928, 929), (938, 76, 936, 937), (942, 76, 940, 941), (947, 76, 945, 946), (959, 76, 957, 958), (967, 76, 965, 966), (980, 76, 978, 979), (988, 76, 986, 987), (992, 76, 990, 991), (996, 76, 994, 995), (1000, 76, 998, 999), (383, 76, 382, 0), (380, 76, 379, 0), (499, 76, 498, 0), (460, 76, 459, 0), (892, 76, 891, 0), (844, 76, 843, 0), (387, 76, 386, 0), (403, 76, 402, 1), (428, 76, 427, 3), (555, 76, 554, 6), (551, 76, 550, 5), (466, 76, 465, 4), (1004, 76, 1003, 30), (848, 76, 847, 26), (926, 76, 925, 27), (838, 76, 837, 25), (841, 76, 840, 0), (851, 76, 850, 0), (951, 76, 950, 28), (963, 76, 962, 29), (0, 0, 0, 0), (1151, 82, 1150, 31), (1145, 82, 1144, 0), (1182, 82, 1181, 33), (1232, 82, 1231, 38), (1201, 82, 1200, 0), (1141, 82, 1139, 1140), (1162, 82, 1161, 0), (1159, 82, 1158, 32), (1155, 82, 1153, 1154), (1166, 82, 1164, 1165), (1170, 82, 1168, 1169), (1174, 82, 1172, 1173), (1178, 82, 1176, 1177), (1190, 82, 1189, 0), (1198, 82, 1197, 35), (1186, 82, 1184, 1185), (1205, 82, 1203, 1204), (1216, 82, 1215, 36), (1209, 82, 1207, 1208), (1224, 82, 1223, 37), (1220, 82, 1218, 1219), (1228, 82, 1226, 1227), (1239, 82, 1238, 0), (1236, 82, 1234, 1235), (1262, 82, 1261, 42), (1258, 82, 1257, 41), (1254, 82, 1253, 40), (1250, 82, 1249, 39), (1246, 82, 1244, 1245), (1266, 82, 1264, 1265), (1270, 82, 1268, 1269), (1274, 82, 1272, 1273), (1279, 82, 1277, 1278), (1307, 82, 1306, 0), (1310, 82, 1309, 0), (1304, 82, 1303, 46), (1333, 82, 1332, 51), (1319, 82, 1318, 48), (1329, 82, 1328, 50), (1325, 82, 1324, 49), (1341, 82, 1340, 52), (1345, 82, 1344, 53), (1353, 82, 1352, 54), (1314, 82, 1313, 47), (1300, 82, 1299, 45), (1283, 82, 1281, 1282), (1357, 82, 1355, 1356), (1361, 82, 1359, 1360), (1365, 82, 1363, 1364), (1194, 82, 1193, 34), (1377, 82, 1376, 56), (1393, 82, 1392, 58), (1373, 82, 1372, 55), (1385, 82, 1384, 57), (1369, 82, 1367, 1368), (1381, 82, 1379, 1380), (1389, 82, 1387, 1388), (1401, 82, 1400, 59), (1397, 82, 1395, 1396), (1410, 82, 1409, 60), (1422, 82, 1421, 63), (1418, 82, 1417, 62), (1414, 82, 1413, 61), (1479, 82, 1478, 69), (1405, 82, 1403, 1404), (1430, 82, 1429, 64), (1426, 82, 1424, 1425), (1434, 82, 1432, 1433), (1438, 82, 1436, 1437), (1442, 82, 1440, 1441), (1446, 82, 1444, 1445), (1450, 82, 1448, 1449), (1454, 82, 1452, 1453), (1475, 82, 1474, 68), (1471, 82, 1470, 67), (1467, 82, 1466, 66), (1463, 82, 1462, 65), (1458, 82, 1456, 1457), (1483, 82, 1481, 1482), (1487, 82, 1485, 1486), (1495, 82, 1494, 70), (1491, 82, 1489, 1490), (1499, 82, 1497, 1498), (1507, 82, 1506, 71), (1503, 82, 1501, 1502), (1511, 82, 1509, 1510), (1515, 82, 1513, 1514), (1521, 82, 1519, 1520), (1525, 82, 1523, 1524), (1529, 82, 1527, 1528), (1537, 82, 1536, 72), (1533, 82, 1531, 1532), (1545, 82, 1544, 73), (1541, 82, 1539, 1540), (1554, 82, 1553, 74), (1550, 82, 1548, 1549), (1558, 82, 1556, 1557), (1287, 82, 1286, 43), (1296, 82, 1295, 0), (1293, 82, 1292, 44), (1562, 82, 1560, 1561), (1566, 82, 1564, 1565), (1570, 82, 1568, 1569), (473, 84, 472, 0), (484, 85, 483, 0), (815, 85, 814, 0), (618, 86, 616, 617), (628, 86, 626, 627), (622, 86, 620, 621), (632, 86, 630, 631), (638, 86, 637, 0), (635, 87, 634, 0), (0, 0, 0, 0), (0, 0, 0, 0), (0, 0, 0, 0), (0, 0, 0, 0), (643, 88, 642, 0), (0, 0, 0, 0)]
def en_mlp : List Nat := [801, 808, 820, 805, 806, 807, 812, 813, 816, 823, 827, 448, 482, 564, 565, 560, 481, 736, 901, 732, 738, 742, 746, 775, 779, 783, 771, 792, 598, 606, 602, 605, 615, 625, 611, 663, 676, 677, 683, 684, 690, 695, 705, 667, 681, 688, 671, 709, 710, 412, 392, 417, 378, 381, 384, 388, 400, 413, 425, 408, 404, 444, 449, 450, 458, 463, 497, 500, 504, 508, 516, 520, 528, 532, 548, 569, 577, 589, 594, 485, 728, 758, 767, 788, 797, 835, 842, 860, 864, 845, 869, 471, 878, 890, 897, 552, 556, 914, 923, 931, 943, 948, 960, 968, 973, 981, 1001, 467, 477, 839, 849, 952, 1143, 1148, 1156, 1160, 1179, 1188, 1191, 1195, 1199, 1213, 1221, 1229, 1237, 1259, 1255, 1247, 1251, 1305, 1308, 1320, 1321, 1330, 1301, 1326, 1342, 1322, 1316, 1338, 1350, 1311, 1284, 1297, 1290, 1374, 1370, 1382, 1390, 1398, 1419, 1415, 1407, 1411, 1427, 1472, 1476, 1468, 1464, 1460, 1492, 1504, 1534, 1542, 1551, 1294, 619, 629, 633, 644, 641, 636, 374, 1138, 396, 1152, 421, 1163, 432, 1167, 436, 1171, 440, 1175, 454, 1183, 489, 1202, 493, 1206, 512, 1217, 524, 1225, 536, 1233, 544, 1243, 573, 1271, 581, 1276, 585, 1280, 712, 1354, 716, 1358, 720, 1362, 724, 1366, 750, 1378, 754, 1386, 759, 1394, 763, 1402, 784, 1423, 793, 1455, 831, 1488, 852, 1526, 856, 1480, 865, 1484, 870, 1496, 874, 1500, 882, 1508, 886, 1512, 893, 1518, 902, 1263, 906, 1267, 910, 1435, 915, 1431, 919, 1451, 927, 1447, 935, 1439, 939, 1443, 944, 1522, 956, 1530, 964, 1538, 977, 1547, 985, 1555, 989, 1559, 993, 1563, 997, 1567]
def en_flp : List Nat := [132, 229, 231, 232, 233, 223, 225, 230, 227, 234, 119, 236, 235, 237, 141, 238, 240, 125, 157, 153, 241, 242, 243, 239, 115, 118, 123, 128, 130, 135, 137, 139, 143, 145, 147, 156, 160, 150, 152, 131, 201, 203, 124, 205, 207, 120, 140, 158, 154, 287, 295, 289, 293, 294, 291, 298, 121, 296, 116, 126, 148, 133, 297, 326, 328, 330, 332, 349, 329, 333, 331, 327, 343, 136, 122, 117, 149, 134, 348, 288, 345, 292, 290, 138, 142, 144, 146, 151, 159, 155, 161, 127, 346, 202, 204, 206, 347, 224, 226, 228, 351, 129, 344, 352, 350, 1022, 1024, 1032, 1014, 1015, 1016, 1017, 1018, 1019, 1034, 1033, 1025, 1030, 1029, 1023, 1026, 1027, 1028, 1031, 1035, 1036, 1021, 1020, 1040, 1042, 1043, 1041, 1044, 1045, 1046, 1047, 1048, 1050, 1049, 1051, 1052, 1054, 1053, 1037, 1039, 1038]
def en_used : List Nat := [1, 2, 3, 4, 5, 6, 7, 8, 10, 11, 12, 13, 14, 15, 16, 17, 18, 19, 20, 21, 22, 23, 24, 25, 26, 27, 28, 29, 30, 31, 32, 33, 34, 35, 37, 38, 39, 40, 41, 42, 43, 45, 46, 47, 48, 49, 50, 51, 52, 53, 54, 55, 56, 57, 58, 60, 61, 62, 63, 64, 65, 66, 68, 69, 70, 71, 72, 73, 74, 75, 76, 77, 78, 79, 80, 81, 82, 83, 84, 85, 86, 87, 88, 89, 90, 91, 92, 93, 94, 95, 96, 97, 98, 99, 100, 101, 102, 103, 104, 105, 106, 107, 108, 109, 110, 111, 112, 113, 114, 115, 116, 117, 118, 119, 120, 121, 122, 123, 124, 125, 126, 127, 128, 129, 130, 131, 132, 133, 134, 135, 136, 137, 138, 140, 141, 142, 143, 144, 145, 146, 147, 148, 149, 150, 151, 152, 153, 154, 155, 156, 157, 158, 159, 160, 161, 162, 163, 164, 165, 166, 167, 168, 169, 170, 171, 172, 173, 174, 175, 176, 177, 178, 179, 180, 181, 182, 183, 184, 185, 186, 187, 188, 189, 190, 191, 192, 193, 194, 195, 196, 197, 198, 199, 200, 201, 202, 203, 204, 205, 206, 207, 208, 209, 210, 211, 212, 213, 214, 215, 216, 217, 218, 219, 220, 221, 222, 223, 224, 225, 226, 227, 228, 229, 230, 231, 232, 233, 234, 235, 236, 237, 238, 239, 240, 241, 242, 243, 244, 245, 246, 247, 248, 249, 250, 251, 256]
/-- what is asked of a method's words -/
def en_mck (k : Nat) : Bool :=
  let q := en_m k
  let t := en_mp.getD k (0, 0, 0, 0)
  decide (lw_tbl[t.1]? = some (Cond.code q.1 q.2.1 q.2.2.1 q.2.2.2.1)) && (decide (lw_tbl[t.2.1]? = some (Cond.initialized q.1.cls)) && (decide (lw_tbl[t.2.2.1]? = some (if q.2.2.2.2.2.1 then Cond.static q.1 else Cond.instanceMethod q.1)) && ((q.2.2.2.2.2.1 || decide (lw_tbl[t.2.2.2]? = some (Cond.selects q.1.cls q.1 q.1))) && (decide (q.1.cls ≠ "java/lang/invoke/MethodHandle" ∧ q.1.cls ≠ "java/lang/invoke/VarHandle") && (decide ((parseMethodDescriptor q.1.desc).map (fun d => d.parameters.length) = some q.2.2.2.2.1) && (plainName q.1.cls && (decide (en_cn[q.2.2.2.2.2.2]? = some q.1.cls) && decide (q.2.2.1 ≤ 20))))))))
theorem en_mck_all : en_used.all en_mck = true := by decide +kernel
theorem en_mck_at {k : Nat} (h : en_used.contains k = true) : en_mck k = true := List.all_eq_true.mp en_mck_all k (List.contains_iff_mem.mp h)
theorem en_gw_of {i : Nat} {w : Cond} (h : lw_tbl[i]? = some w) (hg : goodWord w = true) : w ∈ en_gw := List.mem_filter.mpr ⟨List.mem_of_getElem? h, hg⟩
/-- a link of a method: own class, pool index, method, nest -/
def en_lck (q : (Nat × Nat × Nat × Nat) × Nat) : Bool :=
  en_used.contains q.1.2.2.1 && (match q.1.2.2.2 with
    | 0 => decide (lw_tbl[q.2]? = some (Cond.methodLink (en_cn.getD q.1.1 "") q.1.2.1 (en_m q.1.2.2.1).1))
    | _ => decide (Cond.methodLinkNest (en_cn.getD q.1.1 "") q.1.2.1 (en_m q.1.2.2.1).1 "TownRiverBeast" ∈ en_nest))
theorem en_lck_all : (en_mlk.zip en_mlp).all en_lck = true := by decide +kernel
theorem en_mlk_len : en_mlk.length = en_mlp.length := by decide +kernel
theorem en_link_M {j o i k : Nat} {n : Nat} (h : en_mlk[j]? = some (o, i, k, n)) : en_used.contains k = true ∧ ((n = 0 ∧ Cond.methodLink (en_cn.getD o "") i (en_m k).1 ∈ en_gw) ∨ (¬ n = 0 ∧ Cond.methodLinkNest (en_cn.getD o "") i (en_m k).1 "TownRiverBeast" ∈ en_nest)) := by
  have hj := (List.getElem?_eq_some_iff.mp h).1
  have hj2 : j < en_mlp.length := by rw [← en_mlk_len]; exact hj
  have hz : (en_mlk.zip en_mlp)[j]? = some ((o, i, k, n), en_mlp[j]) := by
    rw [List.getElem?_zip_eq_some]
    exact ⟨h, List.getElem?_eq_getElem hj2⟩
  have hc := List.all_eq_true.mp en_lck_all _ (List.mem_of_getElem? hz)
  unfold en_lck at hc
  simp only [Bool.and_eq_true] at hc
  refine ⟨hc.1, ?_⟩
  cases n with
  | zero => exact Or.inl ⟨rfl, en_gw_of (of_decide_eq_true hc.2) rfl⟩
  | succ n => exact Or.inr ⟨by omega, of_decide_eq_true hc.2⟩
/-- a link of a field -/
def en_fck (q : (Nat × Nat × Nat × Nat) × Nat) : Bool := match vwCl[q.1.2.2.1]? with
  | some r => decide (q.1.2.2.2 < r.2.2) && decide (lw_tbl[q.2]? = some (Cond.fieldLink (en_cn.getD q.1.1 "") q.1.2.1 (r.2.1 q.1.2.2.2).1 (r.2.1 q.1.2.2.2).2.1 (r.2.1 q.1.2.2.2).2.2.1))
  | none => false
theorem en_fck_all : (en_flk.zip en_flp).all en_fck = true := by decide +kernel
theorem en_flk_len : en_flk.length = en_flp.length := by decide +kernel
theorem en_link_F {j o i c k : Nat} (h : en_flk[j]? = some (o, i, c, k)) : ∃ r : vw_C, vwCl[c]? = some r ∧ k < r.2.2 ∧ Cond.fieldLink (en_cn.getD o "") i (r.2.1 k).1 (r.2.1 k).2.1 (r.2.1 k).2.2.1 ∈ en_gw := by
  have hj := (List.getElem?_eq_some_iff.mp h).1
  have hj2 : j < en_flp.length := by rw [← en_flk_len]; exact hj
  have hz : (en_flk.zip en_flp)[j]? = some ((o, i, c, k), en_flp[j]) := by
    rw [List.getElem?_zip_eq_some]
    exact ⟨h, List.getElem?_eq_getElem hj2⟩
  have hc := List.all_eq_true.mp en_fck_all _ (List.mem_of_getElem? hz)
  unfold en_fck at hc
  dsimp only at hc
  cases hr : vwCl[c]? with
  | none => rw [hr] at hc; cases hc
  | some r =>
    rw [hr] at hc
    simp only [Bool.and_eq_true] at hc
    exact ⟨r, rfl, of_decide_eq_true hc.1, en_gw_of (of_decide_eq_true hc.2) rfl⟩
/-- the classes' own words -/
theorem en_uw_all : vwCl.all (fun r => (u_ws r.1 r.2.1 r.2.2).all (fun w => decide (w ∈ lw_tbl) && goodWord w)) = true := by decide +kernel
theorem en_uw {c : Nat} {r : vw_C} (h : vwCl[c]? = some r) : ∀ w ∈ u_ws r.1 r.2.1 r.2.2, w ∈ en_gw := by
  intro w hw
  have h1 := List.all_eq_true.mp (List.all_eq_true.mp en_uw_all r (List.mem_of_getElem? h)) w hw
  simp only [Bool.and_eq_true] at h1
  exact List.mem_filter.mpr ⟨of_decide_eq_true h1.1, h1.2⟩
theorem en_ty {c : Nat} {r : vw_C} (h : vwCl[c]? = some r) : ∃ ty0 : Nat → FieldType, (∀ k, k < r.2.2 → parseFieldDescriptor (r.2.1 k).2.2.1 = some (ty0 k)) ∧ ∀ a, a < r.2.2 → ∀ b, b < r.2.2 → a ≠ b → (r.2.1 a).2.1 ≠ (r.2.1 b).2.1 := by
  match c, h with
  | 0, h => cases h; exact ⟨tyX0, tyX0_ok, nmX0⟩
  | 1, h => cases h; exact ⟨tyX1, tyX1_ok, nmX1⟩
  | 2, h => cases h; exact ⟨tyX2, tyX2_ok, nmX2⟩
  | 3, h => cases h; exact ⟨tyX3, tyX3_ok, nmX3⟩
  | 4, h => cases h; exact ⟨tyX4, tyX4_ok, nmX4⟩
  | 5, h => cases h; exact ⟨tyX5, tyX5_ok, nmX5⟩
  | 6, h => cases h; exact ⟨tyX6, tyX6_ok, nmX6⟩
  | c + 7, h => cases h
/-- field kinds against descriptors -/
def en_kck (c : Nat) : Bool := match vwCl[c]? with
  | some r => decide (r.2.2 = (en_ft.getD c []).length) && (List.range r.2.2).all (fun k => match (en_ft.getD c []).getD k (9, 0, 0, 0) with
      | (0, _) => decide ((r.2.1 k).2.2.2 = false ∧ parseFieldDescriptor (r.2.1 k).2.2.1 = some .int)
      | (1, _) => decide ((r.2.1 k).2.2.2 = false ∧ parseFieldDescriptor (r.2.1 k).2.2.1 = some .boolean)
      | _ => true)
  | none => true
theorem en_kck_all : (List.range 7).all en_kck = true := by decide +kernel
theorem en_kinds {c k : Nat} {r : vw_C} (h : vwCl[c]? = some r) (hk : k < r.2.2) : r.2.2 = (en_ft.getD c []).length ∧ (∀ t, (en_ft.getD c []).getD k (9, 0, 0, 0) = (0, t) → (r.2.1 k).2.2.2 = false ∧ parseFieldDescriptor (r.2.1 k).2.2.1 = some .int) ∧ ∀ t, (en_ft.getD c []).getD k (9, 0, 0, 0) = (1, t) → (r.2.1 k).2.2.2 = false ∧ parseFieldDescriptor (r.2.1 k).2.2.1 = some .boolean := by
  have hc : c < 7 := (List.getElem?_eq_some_iff.mp h).1
  have h1 := List.all_eq_true.mp en_kck_all c (List.mem_range.mpr hc)
  unfold en_kck at h1
  rw [h] at h1
  simp only [Bool.and_eq_true] at h1
  have h2 := List.all_eq_true.mp h1.2 k (List.mem_range.mpr hk)
  refine ⟨of_decide_eq_true h1.1, fun t ht => ?_, fun t ht => ?_⟩
  · rw [ht] at h2
    exact of_decide_eq_true h2
  · rw [ht] at h2
    exact of_decide_eq_true h2
theorem en_lay_small : en_lay.all (fun q => decide (q.2 < 1000)) = true := by decide +kernel
theorem en_lay_n {a k n : Nat} (h : en_lay[a]? = some (k, n)) : n < 2 ^ 31 := by
  have := of_decide_eq_true (List.all_eq_true.mp en_lay_small _ (List.mem_of_getElem? h))
  dsimp only at this
  omega
theorem en_lay84 {c : Nat} (h : en_lay[84]? = some (1, c)) : c = 6 := by
  have : en_lay[84]? = some (1, 6) := by decide +kernel
  rw [this] at h
  cases h
  rfl
theorem en_lay84k {k n : Nat} (h : en_lay[84]? = some (k, n)) : k = 1 := by
  have : en_lay[84]? = some (1, 6) := by decide +kernel
  rw [this] at h
  cases h
  rfl
theorem en_nf {s tk tn off : Nat} (h : (en_ft.getD 6 []).getD s (9, 0, 0, 0) = (3, tk, tn, off)) : (s = 24 ∧ tk = 1 ∧ tn = 6 ∧ off = 74) ∨ (s = 25 ∧ tk = 1 ∧ tn = 6 ∧ off = 37) := by
  by_cases hs : s < 41
  · have key : ∀ s, s < 41 → match (en_ft.getD 6 []).getD s (9, 0, 0, 0) with | (3, tk, tn, off) => (s = 24 ∧ tk = 1 ∧ tn = 6 ∧ off = 74) ∨ (s = 25 ∧ tk = 1 ∧ tn = 6 ∧ off = 37) | _ => True := by decide +kernel
    have := key s hs
    rw [h] at this
    exact this
  · rw [List.getD_eq_getElem?_getD, List.getElem?_eq_none (by have : (en_ft.getD 6 []).length = 41 := by decide +kernel
                                                              omega)] at h
    cases h
theorem en_nf2 {s : Nat} (h : s = 24 ∨ s = 25) : ∃ t, (en_ft.getD 6 []).getD s (9, 0, 0, 0) = (3, t) := by
  rcases h with rfl | rfl
  · exact ⟨_, rfl⟩
  · exact ⟨_, rfl⟩
