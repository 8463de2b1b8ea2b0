/-! the law's words among the tables', by their places -/
theorem mem_rp {big ws : List Cond} (ps : List Nat) (hp : ps.map (fun i => big[i]?) = ws.map some) : ∀ w ∈ ws, w ∈ big := by
  intro w hw
  have h2 : some w ∈ ws.map some := List.mem_map.mpr ⟨w, hw, rfl⟩
  rw [← hp] at h2
  obtain ⟨i, -, hi⟩ := List.mem_map.mp h2
  exact List.mem_of_getElem? hi
set_option maxRecDepth 20000 in
theorem in_wsL_law_r1 : ∀ w ∈ wsL_law_r1, w ∈ lw_tbl := mem_rp ([105, 106, 87, 947, 948, 94, 107, 108, 109, 110, 111, 112, 113, 114, 88, 342, 148, 343, 344, 150, 151, 89, 345, 346] : List Nat) rfl
set_option maxRecDepth 20000 in
theorem in_wsL_law_r2 : ∀ w ∈ wsL_law_r2, w ∈ lw_tbl := mem_rp ([340, 347, 306, 157, 90, 348, 349, 147, 350, 351, 352, 353, 308, 93, 116, 117, 118, 146, 119, 120, 122, 123, 124, 125] : List Nat) rfl
set_option maxRecDepth 20000 in
theorem in_wsL_law_r3 : ∀ w ∈ wsL_law_r3, w ∈ lw_tbl := mem_rp ([126, 127, 153, 154, 155, 156, 284, 241, 242, 91, 286, 264, 265, 92, 288, 290, 292, 159, 160, 161, 162, 165, 168, 171] : List Nat) rfl
set_option maxRecDepth 20000 in
theorem in_wsL_law_r4 : ∀ w ∈ wsL_law_r4, w ∈ lw_tbl := mem_rp ([174, 176, 179, 182, 185, 188, 191, 194, 197, 200, 201, 202, 204, 244, 245, 246, 247, 248, 249, 250, 251, 267, 268, 269] : List Nat) rfl
set_option maxRecDepth 20000 in
theorem in_wsL_law_r5 : ∀ w ∈ wsL_law_r5, w ∈ lw_tbl := mem_rp ([270, 271, 272, 273, 310, 311, 312, 313, 314, 315, 316, 341, 317, 318, 320, 321, 949, 950, 951, 952, 953, 954, 955, 956] : List Nat) rfl
set_option maxRecDepth 20000 in
theorem in_wsL_law_r6 : ∀ w ∈ wsL_law_r6, w ∈ lw_tbl := mem_rp ([957, 958, 959, 960, 961, 962, 963, 964, 965, 966, 967, 968, 969, 979, 980, 981, 982, 983, 984, 985, 986, 987, 988, 989] : List Nat) rfl
set_option maxRecDepth 20000 in
theorem in_wsL_law_r7 : ∀ w ∈ wsL_law_r7, w ∈ lw_tbl := mem_rp ([990, 991, 992, 996, 997, 998, 999, 1000, 1001, 1002, 379, 380, 381, 382, 121, 383, 384, 385, 386, 1112, 1113, 1114, 1115, 970] : List Nat) rfl
set_option maxRecDepth 20000 in
theorem in_wsL_law_r8 : ∀ w ∈ wsL_law_r8, w ∈ lw_tbl := mem_rp ([1116, 1118, 19, 1119, 387, 388, 389, 390, 1120, 1121, 1122, 1123, 391, 392, 393, 394, 128, 285, 287, 289, 172, 395, 396, 95] : List Nat) rfl
set_option maxRecDepth 20000 in
theorem in_wsL_law_r9 : ∀ w ∈ wsL_law_r9, w ∈ lw_tbl := mem_rp ([397, 398, 399, 400, 401, 502, 503, 100, 504, 402, 404, 0, 405, 406, 408, 1, 409, 410, 411, 412, 413, 415, 2, 416] : List Nat) rfl
set_option maxRecDepth 20000 in
theorem in_wsL_law_r10 : ∀ w ∈ wsL_law_r10, w ∈ lw_tbl := mem_rp ([417, 418, 419, 439, 441, 3, 442, 443, 444, 445, 96, 446, 1577, 447, 448, 449, 450, 451, 1578, 453, 454, 455, 456, 457] : List Nat) rfl
set_option maxRecDepth 20000 in
theorem in_wsL_law_r11 : ∀ w ∈ wsL_law_r11, w ∈ lw_tbl := mem_rp ([458, 459, 460, 461, 462, 97, 463, 464, 465, 466, 467, 469, 470, 98, 471, 472, 473, 99, 474, 475, 476, 477, 478, 479] : List Nat) rfl
set_option maxRecDepth 20000 in
theorem in_wsL_law_r12 : ∀ w ∈ wsL_law_r12, w ∈ lw_tbl := mem_rp ([480, 481, 482, 483, 484, 485, 487, 489, 491, 493, 4, 494, 495, 496, 497, 498, 500, 5, 501, 505, 506, 507, 508, 509] : List Nat) rfl
set_option maxRecDepth 20000 in
theorem in_wsL_law_r13 : ∀ w ∈ wsL_law_r13, w ∈ lw_tbl := mem_rp ([510, 511, 163, 166, 169, 512, 513, 514, 515, 516, 517, 518, 519, 520, 521, 522, 523, 524, 525, 526, 175, 527, 528, 529] : List Nat) rfl
set_option maxRecDepth 20000 in
theorem in_wsL_law_r14 : ∀ w ∈ wsL_law_r14, w ∈ lw_tbl := mem_rp ([530, 531, 532, 533, 534, 535, 536, 537, 538, 539, 540, 177, 180, 541, 542, 543, 173, 183, 186, 544, 545, 546, 547, 548] : List Nat) rfl
set_option maxRecDepth 20000 in
theorem in_wsL_law_r15 : ∀ w ∈ wsL_law_r15, w ∈ lw_tbl := mem_rp ([549, 550, 551, 552, 553, 555, 554, 101, 556, 557, 558, 559, 560, 561, 102, 562, 563, 564, 565, 566, 567, 568, 569, 570] : List Nat) rfl
set_option maxRecDepth 20000 in
theorem in_wsL_law_r16 : ∀ w ∈ wsL_law_r16, w ∈ lw_tbl := mem_rp ([571, 572, 573, 574, 575, 576, 577, 578, 579, 580, 581, 582, 1124, 1125, 1126, 1127, 972, 993, 1128, 1130, 20, 1131, 1132, 1134] : List Nat) rfl
set_option maxRecDepth 20000 in
theorem in_wsL_law_r17 : ∀ w ∈ wsL_law_r17, w ∈ lw_tbl := mem_rp ([21, 1135, 971, 975, 976, 977, 1136, 1138, 22, 1139, 1140, 1142, 23, 1143, 1144, 1146, 24, 1147, 1148, 1149, 1150, 1155, 1157, 25] : List Nat) rfl
set_option maxRecDepth 20000 in
theorem in_wsL_law_r18 : ∀ w ∈ wsL_law_r18, w ∈ lw_tbl := mem_rp ([1158, 1159, 1160, 1161, 1163, 26, 1164, 1165, 1167, 27, 1168, 1169, 1171, 28, 1172, 1173, 1175, 29, 1176, 1177, 1178, 1180, 30, 1181] : List Nat) rfl
set_option maxRecDepth 20000 in
theorem in_wsL_law_r19 : ∀ w ∈ wsL_law_r19, w ∈ lw_tbl := mem_rp ([1182, 1184, 31, 1185, 1186, 1187, 1188, 1189, 1190, 1191, 1193, 32, 1194, 1195, 1197, 33, 1198, 1199, 1200, 1201, 1202, 1204, 34, 1205] : List Nat) rfl
set_option maxRecDepth 20000 in
theorem in_wsL_law_r20 : ∀ w ∈ wsL_law_r20, w ∈ lw_tbl := mem_rp ([583, 584, 585, 586, 587, 588, 103, 589, 319, 590, 591, 592, 593, 594, 595, 596, 597, 598, 599, 600, 601, 602, 603, 604] : List Nat) rfl
set_option maxRecDepth 20000 in
theorem in_wsL_law_r21 : ∀ w ∈ wsL_law_r21, w ∈ lw_tbl := mem_rp ([605, 606, 322, 607, 608, 609, 610, 611, 612, 613, 614, 615, 616, 617, 618, 619, 620, 621, 622, 623, 624, 625, 626, 627] : List Nat) rfl
set_option maxRecDepth 20000 in
theorem in_wsL_law_r22 : ∀ w ∈ wsL_law_r22, w ∈ lw_tbl := mem_rp ([628, 1206, 1207, 1208, 1209, 974, 973, 1210, 1212, 35, 1213, 1215, 1217, 36, 1218, 1219, 1221, 37, 1222, 1223, 1225, 38, 1226, 1227] : List Nat) rfl
set_option maxRecDepth 20000 in
theorem in_wsL_law_r23 : ∀ w ∈ wsL_law_r23, w ∈ lw_tbl := mem_rp ([1229, 39, 1230, 1231, 1233, 40, 1234, 1235, 1236, 1237, 1248, 1250, 41, 1251, 1252, 1254, 42, 1255, 978, 1256, 1258, 43, 1259, 1261] : List Nat) rfl
set_option maxRecDepth 20000 in
theorem in_wsL_law_r24 : ∀ w ∈ wsL_law_r24, w ∈ lw_tbl := mem_rp ([1263, 44, 1264, 1265, 1267, 45, 1268, 1269, 1271, 46, 1272, 1273, 1275, 47, 1276, 629, 630, 631, 632, 291, 1279, 1280, 1281, 1282] : List Nat) rfl
set_option maxRecDepth 20000 in
theorem in_wsL_law_r25 : ∀ w ∈ wsL_law_r25, w ∈ lw_tbl := mem_rp ([1283, 633, 634, 635, 636, 190, 637, 638, 639, 640, 1284, 1285, 1286, 1287, 1288, 1290, 48, 1291, 641, 642, 643, 644, 178, 181] : List Nat) rfl
set_option maxRecDepth 20000 in
theorem in_wsL_law_r26 : ∀ w ∈ wsL_law_r26, w ∈ lw_tbl := mem_rp ([645, 646, 647, 648, 649, 650, 651, 652, 653, 1292, 1293, 1294, 1295, 1300, 1296, 1298, 49, 1299, 1301, 1303, 50, 1304, 1305, 1307] : List Nat) rfl
set_option maxRecDepth 20000 in
theorem in_wsL_law_r27 : ∀ w ∈ wsL_law_r27, w ∈ lw_tbl := mem_rp ([51, 1308, 1309, 1311, 52, 1312, 1313, 1315, 53, 1316, 1317, 1318, 1319, 1320, 1322, 54, 1323, 1324, 1326, 55, 1327, 654, 655, 656] : List Nat) rfl
set_option maxRecDepth 20000 in
theorem in_wsL_law_r28 : ∀ w ∈ wsL_law_r28, w ∈ lw_tbl := mem_rp ([657, 184, 187, 658, 659, 660, 661, 662, 663, 664, 665, 666, 1328, 1329, 1330, 1331, 1336, 1332, 1334, 56, 1335, 667, 668, 669] : List Nat) rfl
set_option maxRecDepth 20000 in
theorem in_wsL_law_r29 : ∀ w ∈ wsL_law_r29, w ∈ lw_tbl := mem_rp ([670, 164, 199, 671, 672, 673, 674, 192, 195, 198, 189, 675, 676, 677, 678, 680, 6, 681, 682, 684, 7, 685, 686, 687] : List Nat) rfl
set_option maxRecDepth 20000 in
theorem in_wsL_law_r30 : ∀ w ∈ wsL_law_r30, w ∈ lw_tbl := mem_rp ([688, 689, 690, 691, 692, 693, 694, 695, 696, 697, 698, 699, 700, 701, 702, 704, 8, 705, 706, 707, 708, 709, 710, 711] : List Nat) rfl
set_option maxRecDepth 20000 in
theorem in_wsL_law_r31 : ∀ w ∈ wsL_law_r31, w ∈ lw_tbl := mem_rp ([712, 104, 713, 714, 715, 716, 717, 718, 719, 720, 721, 722, 723, 724, 725, 726, 727, 1353, 1354, 1355, 1356, 1357, 1359, 60] : List Nat) rfl
set_option maxRecDepth 20000 in
theorem in_wsL_law_r32 : ∀ w ∈ wsL_law_r32, w ∈ lw_tbl := mem_rp ([1360, 1361, 1363, 61, 1364, 1341, 1343, 57, 1344, 994, 995, 1345, 1347, 58, 1348, 1349, 1351, 59, 1352, 1365, 1367, 62, 1368, 1369] : List Nat) rfl
set_option maxRecDepth 20000 in
theorem in_wsL_law_r33 : ∀ w ∈ wsL_law_r33, w ∈ lw_tbl := mem_rp ([1371, 63, 1372, 1373, 1374, 1375, 1376, 1378, 64, 1379, 1380, 1382, 65, 1383, 1384, 1385, 1386, 1387, 1388, 1389, 1390, 1392, 66, 1393] : List Nat) rfl
set_option maxRecDepth 20000 in
theorem in_wsL_law_r34 : ∀ w ∈ wsL_law_r34, w ∈ lw_tbl := mem_rp ([1394, 1396, 67, 1397, 728, 729, 730, 731, 732, 733, 1398, 1399, 1400, 1401, 1402, 1404, 68, 1405, 734, 735, 736, 737, 738, 1406] : List Nat) rfl
set_option maxRecDepth 20000 in
theorem in_wsL_law_r35 : ∀ w ∈ wsL_law_r35, w ∈ lw_tbl := mem_rp ([1407, 1408, 1409, 739, 740, 741, 742, 196, 743, 1410, 1411, 1412, 1413, 744, 745, 746, 747, 1414, 1415, 1416, 1417, 1418, 748, 749] : List Nat) rfl
set_option maxRecDepth 20000 in
theorem in_wsL_law_r36 : ∀ w ∈ wsL_law_r36, w ∈ lw_tbl := mem_rp ([750, 751, 252, 752, 753, 754, 755, 756, 1337, 1338, 1339, 1340, 757, 758, 759, 760, 761, 762, 763, 764, 765, 1419, 1420, 1421] : List Nat) rfl
set_option maxRecDepth 20000 in
theorem in_wsL_law_r37 : ∀ w ∈ wsL_law_r37, w ∈ lw_tbl := mem_rp ([1422, 1423, 1424, 1426, 69, 1427, 1428, 1430, 70, 1431, 1003, 1004, 1432, 1434, 71, 1435, 1436, 1438, 72, 1439, 1440, 1442, 73, 1443] : List Nat) rfl
set_option maxRecDepth 20000 in
theorem in_wsL_law_r38 : ∀ w ∈ wsL_law_r38, w ∈ lw_tbl := mem_rp ([766, 767, 768, 769, 1444, 1445, 1446, 1447, 778, 779, 780, 781, 782, 784, 10, 785, 1448, 1449, 1450, 1451, 1452, 1454, 74, 1455] : List Nat) rfl
set_option maxRecDepth 20000 in
theorem in_wsL_law_r39 : ∀ w ∈ wsL_law_r39, w ∈ lw_tbl := mem_rp ([786, 787, 788, 789, 1456, 1457, 1458, 1459, 790, 791, 792, 793, 193, 794, 795, 796, 797, 798, 799, 800, 801, 1460, 1461, 1462] : List Nat) rfl
set_option maxRecDepth 20000 in
theorem in_wsL_law_r40 : ∀ w ∈ wsL_law_r40, w ∈ lw_tbl := mem_rp ([1463, 802, 803, 804, 805, 806, 808, 11, 809, 810, 812, 12, 813, 1464, 1465, 1466, 1467, 1468, 1469, 1471, 75, 1472, 814, 815] : List Nat) rfl
set_option maxRecDepth 20000 in
theorem in_wsL_law_r41 : ∀ w ∈ wsL_law_r41, w ∈ lw_tbl := mem_rp ([816, 817, 818, 1473, 1474, 1475, 1476, 819, 820, 821, 822, 823, 1477, 1478, 1479, 1480, 852, 853, 854, 855, 167, 856, 858, 14] : List Nat) rfl
set_option maxRecDepth 20000 in
theorem in_wsL_law_r42 : ∀ w ∈ wsL_law_r42, w ∈ lw_tbl := mem_rp ([859, 865, 860, 861, 862, 863, 864, 866, 868, 15, 869, 870, 871, 872, 873, 874, 875, 1532, 1533, 1534, 1535, 1528, 1530, 82] : List Nat) rfl
set_option maxRecDepth 20000 in
theorem in_wsL_law_r43 : ∀ w ∈ wsL_law_r43, w ∈ lw_tbl := mem_rp ([1531, 1498, 1500, 78, 1501, 832, 833, 834, 835, 836, 838, 13, 839, 203, 205, 840, 841, 842, 843, 1481, 1482, 1483, 1484, 1485] : List Nat) rfl
set_option maxRecDepth 20000 in
theorem in_wsL_law_r44 : ∀ w ∈ wsL_law_r44, w ∈ lw_tbl := mem_rp ([1486, 1488, 76, 1489, 1490, 1492, 77, 1493, 770, 771, 772, 773, 774, 776, 9, 777, 1494, 1495, 1496, 1497, 1502, 1504, 79, 1505] : List Nat) rfl
set_option maxRecDepth 20000 in
theorem in_wsL_law_r45 : ∀ w ∈ wsL_law_r45, w ∈ lw_tbl := mem_rp ([824, 825, 826, 827, 828, 829, 830, 831, 1506, 1507, 1508, 1509, 1510, 1511, 1513, 80, 1514, 844, 845, 846, 847, 274, 848, 849] : List Nat) rfl
set_option maxRecDepth 20000 in
theorem in_wsL_law_r46 : ∀ w ∈ wsL_law_r46, w ∈ lw_tbl := mem_rp ([850, 851, 1515, 1516, 1517, 1518, 1519, 876, 877, 878, 879, 1520, 1521, 1522, 1523, 1524, 1526, 81, 1527, 880, 881, 882, 883, 884] : List Nat) rfl
set_option maxRecDepth 20000 in
theorem in_wsL_law_r47 : ∀ w ∈ wsL_law_r47, w ∈ lw_tbl := mem_rp ([886, 16, 887, 888, 889, 891, 17, 892, 893, 1536, 1537, 1538, 1539, 1540, 1542, 83, 1543, 894, 895, 896, 897, 293, 1544, 1545] : List Nat) rfl
set_option maxRecDepth 20000 in
theorem in_wsL_law_r48 : ∀ w ∈ wsL_law_r48, w ∈ lw_tbl := mem_rp ([1546, 1547, 898, 899, 900, 901, 902, 904, 18, 905, 906, 907, 908, 909, 910, 911, 912, 913, 914, 915, 916, 917, 918, 919] : List Nat) rfl
set_option maxRecDepth 20000 in
theorem in_wsL_law_r49 : ∀ w ∈ wsL_law_r49, w ∈ lw_tbl := mem_rp ([1548, 1549, 1550, 1551, 1552, 1553, 1555, 84, 1556, 1557, 1558, 1559, 1560, 1561, 1563, 85, 1564, 920, 921, 922, 923, 170, 1565, 1566] : List Nat) rfl
set_option maxRecDepth 20000 in
theorem in_wsL_law_r50 : ∀ w ∈ wsL_law_r50, w ∈ lw_tbl := mem_rp ([1567, 1568, 924, 925, 926, 927, 928, 929, 930, 931, 932, 933, 934, 935, 936, 937, 938, 939, 940, 941, 942, 1569, 1570, 1571] : List Nat) rfl
set_option maxRecDepth 20000 in
theorem in_wsL_law_r51 : ∀ w ∈ wsL_law_r51, w ∈ lw_tbl := mem_rp ([1572, 943, 944, 945, 946, 1573, 1574, 1575, 1576] : List Nat) rfl
set_option maxRecDepth 20000 in
theorem inX0 : ∀ w ∈ wsX00, w ∈ lw_tbl := mem_rp ([253, 255, 257, 259, 261] : List Nat) rfl
set_option maxRecDepth 20000 in
theorem inX2 : ∀ w ∈ wsX20, w ∈ lw_tbl := mem_rp ([275, 277, 279, 281] : List Nat) rfl
set_option maxRecDepth 20000 in
theorem inX3 : ∀ w ∈ wsX30, w ∈ lw_tbl := mem_rp ([206, 208, 210, 212, 214, 216, 218, 220, 222, 224, 226, 228, 230, 232, 234, 236, 238] : List Nat) rfl
set_option maxRecDepth 20000 in
theorem inX4 : ∀ w ∈ wsX40, w ∈ lw_tbl := mem_rp ([323, 325, 327, 329, 331, 333, 335, 337] : List Nat) rfl
set_option maxRecDepth 20000 in
theorem inX6 : ∀ w ∈ wsX60, w ∈ lw_tbl := mem_rp ([294, 296, 298, 300, 302] : List Nat) rfl
set_option maxRecDepth 20000 in
theorem inX7 : ∀ w ∈ wsX70, w ∈ lw_tbl := mem_rp ([129, 131, 133, 135, 137, 139, 141, 143] : List Nat) rfl
set_option maxRecDepth 20000 in
theorem inX8 : ∀ w ∈ wsX80, w ∈ lw_tbl := mem_rp ([354, 356, 358, 360, 362, 364, 366, 368, 370, 372, 374, 376] : List Nat) rfl
set_option maxRecDepth 20000 in
theorem inX9 : ∀ w ∈ wsX90, w ∈ lw_tbl := mem_rp ([1005, 1007, 1009, 1011, 1013, 1015, 1017, 1019, 1021, 1023, 1025, 1027, 1029, 1031, 1033, 1035, 1037, 1039, 1041, 1043, 1045, 1047, 1049, 1051, 1053, 1055, 1057, 1059, 1061, 1063, 1065, 1067, 1069, 1071, 1073, 1075, 1077, 1079, 1081, 1083, 1085, 1087, 1089, 1091, 1093, 1095, 1097, 1099, 1101, 1103, 1105, 1107, 1109] : List Nat) rfl
