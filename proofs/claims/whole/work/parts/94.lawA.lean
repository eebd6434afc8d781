/-! the law: its words lie in the tables -/
theorem idx_in {big ws : List Cond} (ps : List Nat) (h : ws.map some = ps.map (fun i => big[i]?)) : ∀ w ∈ ws, w ∈ big := by
  intro w hw
  have h1 : some w ∈ ws.map some := List.mem_map.mpr ⟨w, hw, rfl⟩
  rw [h] at h1
  obtain ⟨i, -, hi⟩ := List.mem_map.mp h1
  exact List.mem_of_getElem? hi
set_option maxRecDepth 20000 in
theorem wsL_in_r1 : ∀ w ∈ wsL_law_r1, w ∈ lw_tbl := idx_in [93, 94, 77, 993, 994, 85, 95, 96, 97, 98, 99, 100, 101, 102, 78, 305, 306, 171, 172, 79, 307, 193, 194, 80] (by decide +kernel)
set_option maxRecDepth 20000 in
theorem wsL_in_r2 : ∀ w ∈ wsL_law_r2, w ∈ lw_tbl := idx_in [308, 218, 219, 81, 309, 234, 235, 82, 310, 258, 311, 283, 312, 170, 313, 314, 285, 84, 103, 104, 105, 106, 108, 110] (by decide +kernel)
set_option maxRecDepth 20000 in
theorem wsL_in_r3 : ∀ w ∈ wsL_law_r3, w ∈ lw_tbl := idx_in [114, 117, 122, 124, 126, 107, 130, 135, 139, 141, 143, 174, 175, 176, 177, 179, 181, 182, 183, 178, 196, 197, 198, 199] (by decide +kernel)
set_option maxRecDepth 20000 in
theorem wsL_in_r4 : ∀ w ∈ wsL_law_r4, w ∈ lw_tbl := idx_in [200, 201, 202, 203, 204, 221, 222, 223, 224, 225, 226, 237, 238, 239, 240, 241, 83, 257, 255, 259, 260, 261, 262, 263] (by decide +kernel)
set_option maxRecDepth 20000 in
theorem wsL_in_r5 : ∀ w ∈ wsL_law_r5, w ∈ lw_tbl := idx_in [264, 265, 243, 244, 245, 246, 247, 256, 287, 288, 289, 290, 293, 295, 995, 996, 997, 998, 1009, 1010, 1011, 1013, 1018, 1019] (by decide +kernel)
set_option maxRecDepth 20000 in
theorem wsL_in_r6 : ∀ w ∈ wsL_law_r6, w ∈ lw_tbl := idx_in [1020, 1022, 1023, 999, 1030, 1031, 1034, 1035, 1036, 1037, 1008, 336, 337, 338, 339, 340, 341, 342, 343, 345, 0, 346, 347, 348] (by decide +kernel)
set_option maxRecDepth 20000 in
theorem wsL_in_r7 : ∀ w ∈ wsL_law_r7, w ∈ lw_tbl := idx_in [349, 350, 351, 352, 353, 354, 355, 356, 1097, 1098, 1099, 1100, 1107, 1112, 1101, 1102, 1103, 1104, 1105, 1106, 1108, 1110, 30, 1111] (by decide +kernel)
set_option maxRecDepth 20000 in
theorem wsL_in_r8 : ∀ w ∈ wsL_law_r8, w ∈ lw_tbl := idx_in [1113, 1115, 31, 1116, 1117, 1118, 1119, 357, 358, 359, 360, 109, 111, 115, 119, 123, 137, 361, 362, 363, 364, 365, 366, 367] (by decide +kernel)
set_option maxRecDepth 20000 in
theorem wsL_in_r9 : ∀ w ∈ wsL_law_r9, w ∈ lw_tbl := idx_in [368, 369, 370, 371, 372, 374, 375, 376, 377, 378, 379, 380, 381, 86, 382, 383, 384, 385, 386, 387, 1120, 1121, 1122, 1123] (by decide +kernel)
set_option maxRecDepth 20000 in
theorem wsL_in_r10 : ∀ w ∈ wsL_law_r10, w ∈ lw_tbl := idx_in [1124, 1126, 32, 1127, 1128, 1130, 33, 1131, 1132, 1134, 34, 1135, 1136, 1138, 35, 1139, 1140, 1142, 36, 1143, 1144, 1146, 37, 1147] (by decide +kernel)
set_option maxRecDepth 20000 in
theorem wsL_in_r11 : ∀ w ∈ wsL_law_r11, w ∈ lw_tbl := idx_in [1148, 1149, 1150, 1151, 1153, 38, 1154, 1155, 1156, 388, 389, 390, 391, 396, 392, 394, 1, 395, 1157, 1158, 1159, 1160, 1161, 1162] (by decide +kernel)
set_option maxRecDepth 20000 in
theorem wsL_in_r12 : ∀ w ∈ wsL_law_r12, w ∈ lw_tbl := idx_in [1163, 1164, 1166, 39, 1167, 397, 398, 399, 400, 401, 402, 403, 404, 405, 406, 407, 408, 409, 410, 411, 412, 413, 414, 1168] (by decide +kernel)
set_option maxRecDepth 20000 in
theorem wsL_in_r13 : ∀ w ∈ wsL_law_r13, w ∈ lw_tbl := idx_in [1169, 1170, 1171, 1172, 1174, 40, 1175, 1176, 1178, 41, 1179, 1180, 1182, 42, 1183, 415, 416, 417, 418, 419, 1184, 1185, 1186, 1187] (by decide +kernel)
set_option maxRecDepth 20000 in
theorem wsL_in_r14 : ∀ w ∈ wsL_law_r14, w ∈ lw_tbl := idx_in [1188, 420, 421, 422, 423, 133, 1189, 1190, 1191, 1192, 424, 425, 426, 427, 1193, 1194, 1195, 1196, 428, 429, 430, 431, 140, 432] (by decide +kernel)
set_option maxRecDepth 20000 in
theorem wsL_in_r15 : ∀ w ∈ wsL_law_r15, w ∈ lw_tbl := idx_in [433, 434, 435, 436, 437, 438, 439, 440, 441, 443, 2, 444, 1197, 1198, 1199, 1200, 1201, 1202, 1204, 43, 1205, 1206, 1208, 44] (by decide +kernel)
set_option maxRecDepth 20000 in
theorem wsL_in_r16 : ∀ w ∈ wsL_law_r16, w ∈ lw_tbl := idx_in [1209, 1210, 1212, 45, 1213, 445, 446, 447, 448, 1214, 1215, 1216, 1217, 449, 450, 451, 452, 142, 1218, 1219, 1220, 1221, 453, 454] (by decide +kernel)
set_option maxRecDepth 20000 in
theorem wsL_in_r17 : ∀ w ∈ wsL_law_r17, w ∈ lw_tbl := idx_in [455, 456, 457, 458, 459, 460, 461, 462, 463, 464, 136, 465, 466, 467, 468, 469, 471, 470, 87, 472, 473, 474, 475, 476] (by decide +kernel)
set_option maxRecDepth 20000 in
theorem wsL_in_r18 : ∀ w ∈ wsL_law_r18, w ∈ lw_tbl := idx_in [477, 478, 479, 480, 481, 482, 483, 484, 485, 120, 486, 487, 489, 3, 490, 132, 491, 492, 493, 494, 496, 497, 88, 498] (by decide +kernel)
set_option maxRecDepth 20000 in
theorem wsL_in_r19 : ∀ w ∈ wsL_law_r19, w ∈ lw_tbl := idx_in [499, 500, 501, 1222, 1223, 1224, 1225, 1016, 1226, 1228, 46, 1229, 1014, 1015, 1017, 1230, 1231, 1232, 1233, 1234, 1235, 502, 503, 504] (by decide +kernel)
set_option maxRecDepth 20000 in
theorem wsL_in_r20 : ∀ w ∈ wsL_law_r20, w ∈ lw_tbl := idx_in [505, 506, 507, 508, 509, 1236, 1237, 1238, 1239, 1240, 1242, 47, 1243, 1244, 510, 511, 512, 513, 514, 1245, 1246, 1247, 1248, 515] (by decide +kernel)
set_option maxRecDepth 20000 in
theorem wsL_in_r21 : ∀ w ∈ wsL_law_r21, w ∈ lw_tbl := idx_in [516, 517, 518, 519, 520, 521, 522, 127, 523, 1249, 1250, 1251, 1252, 1253, 1255, 48, 1256, 1257, 1259, 49, 1260, 524, 525, 526] (by decide +kernel)
set_option maxRecDepth 20000 in
theorem wsL_in_r22 : ∀ w ∈ wsL_law_r22, w ∈ lw_tbl := idx_in [527, 528, 529, 530, 531, 112, 1261, 1262, 1263, 1264, 532, 533, 534, 535, 180, 536, 537, 1265, 1266, 1267, 1268, 538, 539, 540] (by decide +kernel)
set_option maxRecDepth 20000 in
theorem wsL_in_r23 : ∀ w ∈ wsL_law_r23, w ∈ lw_tbl := idx_in [541, 1269, 1270, 1271, 1272, 542, 543, 544, 545, 1273, 1274, 1275, 1276, 546, 547, 548, 549, 550, 551, 552, 553, 555, 556, 118] (by decide +kernel)
set_option maxRecDepth 20000 in
theorem wsL_in_r24 : ∀ w ∈ wsL_law_r24, w ∈ lw_tbl := idx_in [131, 554, 557, 558, 560, 4, 561, 562, 564, 5, 565, 567, 569, 6, 570, 571, 572, 573, 574, 575, 576, 577, 578, 580] (by decide +kernel)
set_option maxRecDepth 20000 in
theorem wsL_in_r25 : ∀ w ∈ wsL_law_r25, w ∈ lw_tbl := idx_in [1277, 1278, 1279, 1280, 1281, 1283, 50, 1284, 1285, 1287, 51, 1288, 581, 582, 583, 584, 585, 586, 587, 588, 1289, 1290, 1291, 1292] (by decide +kernel)
set_option maxRecDepth 20000 in
theorem wsL_in_r26 : ∀ w ∈ wsL_law_r26, w ∈ lw_tbl := idx_in [1293, 1295, 52, 1296, 1297, 1298, 1300, 53, 1301, 1302, 1304, 54, 1305, 589, 590, 591, 592, 593, 594, 595, 596, 1306, 1307, 1308] (by decide +kernel)
set_option maxRecDepth 20000 in
theorem wsL_in_r27 : ∀ w ∈ wsL_law_r27, w ∈ lw_tbl := idx_in [1309, 1310, 1312, 55, 1313, 597, 598, 599, 600, 1314, 1315, 1316, 1317, 601, 602, 603, 604, 605, 607, 7, 608, 129, 609, 610] (by decide +kernel)
set_option maxRecDepth 20000 in
theorem wsL_in_r28 : ∀ w ∈ wsL_law_r28, w ∈ lw_tbl := idx_in [611, 612, 613, 614, 616, 617, 618, 619, 620, 621, 622, 623, 624, 626, 8, 627, 628, 629, 630, 632, 634, 9, 635, 636] (by decide +kernel)
set_option maxRecDepth 20000 in
theorem wsL_in_r29 : ∀ w ∈ wsL_law_r29, w ∈ lw_tbl := idx_in [637, 639, 10, 640, 641, 642, 643, 644, 645, 646, 647, 648, 649, 1318, 1319, 1320, 1321, 1322, 1324, 56, 1325, 1326, 1328, 57] (by decide +kernel)
set_option maxRecDepth 20000 in
theorem wsL_in_r30 : ∀ w ∈ wsL_law_r30, w ∈ lw_tbl := idx_in [1329, 1330, 1331, 1332, 1333, 1335, 58, 1336, 650, 651, 652, 653, 654, 655, 656, 657, 658, 660, 11, 661, 1337, 1338, 1339, 1340] (by decide +kernel)
set_option maxRecDepth 20000 in
theorem wsL_in_r31 : ∀ w ∈ wsL_law_r31, w ∈ lw_tbl := idx_in [662, 663, 664, 665, 666, 667, 668, 669, 1341, 1342, 1343, 1344, 670, 671, 672, 673, 674, 676, 12, 677, 678, 1345, 1346, 1347] (by decide +kernel)
set_option maxRecDepth 20000 in
theorem wsL_in_r32 : ∀ w ∈ wsL_law_r32, w ∈ lw_tbl := idx_in [1348, 1349, 1351, 59, 1352, 679, 680, 681, 682, 683, 685, 13, 686, 687, 688, 689, 690, 691, 692, 693, 694, 696, 14, 697] (by decide +kernel)
set_option maxRecDepth 20000 in
theorem wsL_in_r33 : ∀ w ∈ wsL_law_r33, w ∈ lw_tbl := idx_in [698, 699, 700, 701, 702, 703, 704, 705, 296, 291, 1353, 1354, 1355, 1356, 1360, 1357, 1358, 1359, 1361, 1363, 60, 1364, 1021, 1365] (by decide +kernel)
set_option maxRecDepth 20000 in
theorem wsL_in_r34 : ∀ w ∈ wsL_law_r34, w ∈ lw_tbl := idx_in [1367, 61, 1368, 1369, 1371, 62, 1372, 706, 707, 708, 709, 710, 711, 712, 713, 1373, 1374, 1375, 1376, 714, 715, 716, 717, 718] (by decide +kernel)
set_option maxRecDepth 20000 in
theorem wsL_in_r35 : ∀ w ∈ wsL_law_r35, w ∈ lw_tbl := idx_in [719, 720, 722, 15, 723, 724, 1377, 1378, 1379, 1380, 1381, 1383, 63, 1384, 725, 726, 727, 728, 729, 730, 731, 732, 733, 734] (by decide +kernel)
set_option maxRecDepth 20000 in
theorem wsL_in_r36 : ∀ w ∈ wsL_law_r36, w ∈ lw_tbl := idx_in [1385, 1386, 1387, 1388, 1389, 1390, 1391, 735, 736, 737, 738, 739, 740, 741, 742, 743, 744, 1392, 1393, 1394, 1395, 1396, 1397, 1399] (by decide +kernel)
set_option maxRecDepth 20000 in
theorem wsL_in_r37 : ∀ w ∈ wsL_law_r37, w ∈ lw_tbl := idx_in [64, 1400, 1401, 745, 746, 747, 748, 144, 1402, 1403, 1404, 1405, 749, 750, 751, 752, 249, 753, 754, 755, 756, 1406, 1407, 1408] (by decide +kernel)
set_option maxRecDepth 20000 in
theorem wsL_in_r38 : ∀ w ∈ wsL_law_r38, w ∈ lw_tbl := idx_in [1409, 1024, 757, 758, 759, 760, 1410, 1411, 1412, 1413, 761, 762, 763, 764, 765, 766, 767, 768, 769, 771, 16, 772, 248, 773] (by decide +kernel)
set_option maxRecDepth 20000 in
theorem wsL_in_r39 : ∀ w ∈ wsL_law_r39, w ∈ lw_tbl := idx_in [774, 775, 776, 777, 778, 779, 780, 782, 17, 783, 784, 786, 18, 787, 788, 789, 790, 791, 793, 19, 794, 795, 797, 20] (by decide +kernel)
set_option maxRecDepth 20000 in
theorem wsL_in_r40 : ∀ w ∈ wsL_law_r40, w ∈ lw_tbl := idx_in [798, 800, 802, 21, 803, 804, 806, 22, 807, 808, 809, 810, 89, 811, 1533, 812, 813, 814, 815, 816, 1534, 818, 819, 820] (by decide +kernel)
set_option maxRecDepth 20000 in
theorem wsL_in_r41 : ∀ w ∈ wsL_law_r41, w ∈ lw_tbl := idx_in [821, 822, 823, 824, 825, 826, 827, 90, 828, 829, 830, 831, 832, 834, 835, 91, 836, 837, 838, 92, 839, 840, 841, 842] (by decide +kernel)
set_option maxRecDepth 20000 in
theorem wsL_in_r42 : ∀ w ∈ wsL_law_r42, w ∈ lw_tbl := idx_in [843, 844, 845, 846, 847, 848, 849, 850, 852, 854, 862, 864, 23, 865, 113, 116, 121, 884, 866, 867, 868, 870, 24, 871] (by decide +kernel)
set_option maxRecDepth 20000 in
theorem wsL_in_r43 : ∀ w ∈ wsL_law_r43, w ∈ lw_tbl := idx_in [873, 875, 25, 876, 877, 879, 26, 880, 886, 888, 27, 889, 128, 890, 892, 894, 28, 895, 134, 897, 899, 29, 900, 138] (by decide +kernel)
set_option maxRecDepth 20000 in
theorem wsL_in_r44 : ∀ w ∈ wsL_law_r44, w ∈ lw_tbl := idx_in [1414, 1415, 1416, 1417, 1026, 1029, 1032, 1033, 1027, 1025, 1418, 1420, 65, 1421, 1028, 1426, 1422, 1424, 66, 1425, 1427, 1429, 67, 1430] (by decide +kernel)
set_option maxRecDepth 20000 in
theorem wsL_in_r45 : ∀ w ∈ wsL_law_r45, w ∈ lw_tbl := idx_in [1431, 1433, 68, 1434, 1435, 1437, 69, 1438, 1439, 1440, 1441, 1443, 70, 1444, 1446, 1448, 71, 1449, 1450, 1452, 72, 1453, 1456, 1458] (by decide +kernel)
set_option maxRecDepth 20000 in
theorem wsL_in_r46 : ∀ w ∈ wsL_law_r46, w ∈ lw_tbl := idx_in [73, 1459, 1461, 1463, 74, 1464, 1467, 1469, 75, 1470, 902, 903, 904, 905, 125, 1471, 1472, 1473, 1474, 1475, 1476, 1477, 906, 907] (by decide +kernel)
set_option maxRecDepth 20000 in
theorem wsL_in_r47 : ∀ w ∈ wsL_law_r47, w ∈ lw_tbl := idx_in [908, 909, 910, 911, 912, 913, 915, 1478, 1479, 1480, 1481, 1488, 1482, 1483, 1484, 1485, 1486, 1487, 917, 918, 919, 920, 297, 921] (by decide +kernel)
set_option maxRecDepth 20000 in
theorem wsL_in_r48 : ∀ w ∈ wsL_law_r48, w ∈ lw_tbl := idx_in [922, 923, 924, 925, 926, 1489, 1490, 1491, 1492, 1493, 927, 928, 929, 930, 931, 932, 933, 934, 1494, 1495, 1496, 1497, 1498, 1499] (by decide +kernel)
set_option maxRecDepth 20000 in
theorem wsL_in_r49 : ∀ w ∈ wsL_law_r49, w ∈ lw_tbl := idx_in [1500, 936, 937, 938, 939, 294, 292, 944, 940, 941, 942, 943, 1501, 1502, 1503, 1504, 945, 946, 947, 948, 1505, 1506, 1507, 1508] (by decide +kernel)
set_option maxRecDepth 20000 in
theorem wsL_in_r50 : ∀ w ∈ wsL_law_r50, w ∈ lw_tbl := idx_in [949, 950, 951, 952, 953, 954, 955, 956, 1509, 1510, 1511, 1512, 957, 958, 959, 960, 961, 1513, 1514, 1515, 1516, 1012, 962, 963] (by decide +kernel)
set_option maxRecDepth 20000 in
theorem wsL_in_r51 : ∀ w ∈ wsL_law_r51, w ∈ lw_tbl := idx_in [964, 965, 1517, 1518, 1519, 1520, 966, 967, 968, 969, 1521, 1522, 1523, 1524, 970, 971, 972, 973, 974, 975, 976, 977, 978, 979] (by decide +kernel)
set_option maxRecDepth 20000 in
theorem wsL_in_r52 : ∀ w ∈ wsL_law_r52, w ∈ lw_tbl := idx_in [980, 981, 982, 983, 984, 985, 1525, 1526, 1527, 1528, 986, 987, 988, 989, 990, 991, 992, 1529, 1530, 1531, 1532] (by decide +kernel)
theorem tinwsX70 : ∀ w ∈ wsX70, w ∈ lw_tbl := by decide +kernel
theorem tinwsX80 : ∀ w ∈ wsX80, w ∈ lw_tbl := by decide +kernel
theorem tinwsX10 : ∀ w ∈ wsX10, w ∈ lw_tbl := by decide +kernel
theorem tinwsX40 : ∀ w ∈ wsX40, w ∈ lw_tbl := by decide +kernel
theorem tinwsX00 : ∀ w ∈ wsX00, w ∈ lw_tbl := by decide +kernel
theorem tinwsX20 : ∀ w ∈ wsX20, w ∈ lw_tbl := by decide +kernel
theorem tinwsX30 : ∀ w ∈ wsX30, w ∈ lw_tbl := by decide +kernel
theorem tinwsX50 : ∀ w ∈ wsX50, w ∈ lw_tbl := by decide +kernel
theorem tinwsX60 : ∀ w ∈ wsX60, w ∈ lw_tbl := by decide +kernel
theorem wsL_law_in : ∀ w ∈ wsL_law, w ∈ lw_tbl := List.forall_mem_append.mpr ⟨List.forall_mem_append.mpr ⟨List.forall_mem_append.mpr ⟨List.forall_mem_append.mpr ⟨List.forall_mem_append.mpr ⟨List.forall_mem_append.mpr ⟨List.forall_mem_append.mpr ⟨List.forall_mem_append.mpr ⟨List.forall_mem_append.mpr ⟨List.forall_mem_append.mpr ⟨List.forall_mem_append.mpr ⟨wsL_in_r1, List.forall_mem_append.mpr ⟨wsL_in_r2, List.forall_mem_append.mpr ⟨wsL_in_r3, List.forall_mem_append.mpr ⟨wsL_in_r4, List.forall_mem_append.mpr ⟨wsL_in_r5, List.forall_mem_append.mpr ⟨wsL_in_r6, List.forall_mem_append.mpr ⟨wsL_in_r7, List.forall_mem_append.mpr ⟨wsL_in_r8, List.forall_mem_append.mpr ⟨wsL_in_r9, List.forall_mem_append.mpr ⟨wsL_in_r10, List.forall_mem_append.mpr ⟨wsL_in_r11, List.forall_mem_append.mpr ⟨wsL_in_r12, List.forall_mem_append.mpr ⟨wsL_in_r13, List.forall_mem_append.mpr ⟨wsL_in_r14, List.forall_mem_append.mpr ⟨wsL_in_r15, List.forall_mem_append.mpr ⟨wsL_in_r16, List.forall_mem_append.mpr ⟨wsL_in_r17, List.forall_mem_append.mpr ⟨wsL_in_r18, List.forall_mem_append.mpr ⟨wsL_in_r19, List.forall_mem_append.mpr ⟨wsL_in_r20, List.forall_mem_append.mpr ⟨wsL_in_r21, List.forall_mem_append.mpr ⟨wsL_in_r22, List.forall_mem_append.mpr ⟨wsL_in_r23, List.forall_mem_append.mpr ⟨wsL_in_r24, List.forall_mem_append.mpr ⟨wsL_in_r25, List.forall_mem_append.mpr ⟨wsL_in_r26, List.forall_mem_append.mpr ⟨wsL_in_r27, List.forall_mem_append.mpr ⟨wsL_in_r28, List.forall_mem_append.mpr ⟨wsL_in_r29, List.forall_mem_append.mpr ⟨wsL_in_r30, List.forall_mem_append.mpr ⟨wsL_in_r31, List.forall_mem_append.mpr ⟨wsL_in_r32, List.forall_mem_append.mpr ⟨wsL_in_r33, List.forall_mem_append.mpr ⟨wsL_in_r34, List.forall_mem_append.mpr ⟨wsL_in_r35, List.forall_mem_append.mpr ⟨wsL_in_r36, List.forall_mem_append.mpr ⟨wsL_in_r37, List.forall_mem_append.mpr ⟨wsL_in_r38, List.forall_mem_append.mpr ⟨wsL_in_r39, List.forall_mem_append.mpr ⟨wsL_in_r40, List.forall_mem_append.mpr ⟨wsL_in_r41, List.forall_mem_append.mpr ⟨wsL_in_r42, List.forall_mem_append.mpr ⟨wsL_in_r43, List.forall_mem_append.mpr ⟨wsL_in_r44, List.forall_mem_append.mpr ⟨wsL_in_r45, List.forall_mem_append.mpr ⟨wsL_in_r46, List.forall_mem_append.mpr ⟨wsL_in_r47, List.forall_mem_append.mpr ⟨wsL_in_r48, List.forall_mem_append.mpr ⟨wsL_in_r49, List.forall_mem_append.mpr ⟨wsL_in_r50, List.forall_mem_append.mpr ⟨wsL_in_r51, wsL_in_r52⟩⟩⟩⟩⟩⟩⟩⟩⟩⟩⟩⟩⟩⟩⟩⟩⟩⟩⟩⟩⟩⟩⟩⟩⟩⟩⟩⟩⟩⟩⟩⟩⟩⟩⟩⟩⟩⟩⟩⟩⟩⟩⟩⟩⟩⟩⟩⟩⟩⟩⟩, tinwsX70⟩, tinwsX80⟩, tinwsX10⟩, tinwsX40⟩, tinwsX00⟩, tinwsX20⟩, tinwsX30⟩, tinwsX50⟩, tinwsX60⟩, fun _ h => absurd h List.not_mem_nil⟩
theorem inlX0 : ∀ w ∈ wsX00, w ∈ wsL_law := fun _ h => List.mem_append_left _ (List.mem_append_left _ (List.mem_append_left _ (List.mem_append_left _ (List.mem_append_left _ (List.mem_append_right _ h)))))
theorem inX0 : ∀ w ∈ wsX00, w ∈ lw_tbl := fun w h => wsL_law_in w (inlX0 w h)
theorem inlX1 : ∀ w ∈ wsX10, w ∈ wsL_law := fun _ h => List.mem_append_left _ (List.mem_append_left _ (List.mem_append_left _ (List.mem_append_left _ (List.mem_append_left _ (List.mem_append_left _ (List.mem_append_left _ (List.mem_append_right _ h)))))))
theorem inX1 : ∀ w ∈ wsX10, w ∈ lw_tbl := fun w h => wsL_law_in w (inlX1 w h)
theorem inlX2 : ∀ w ∈ wsX20, w ∈ wsL_law := fun _ h => List.mem_append_left _ (List.mem_append_left _ (List.mem_append_left _ (List.mem_append_left _ (List.mem_append_right _ h))))
theorem inX2 : ∀ w ∈ wsX20, w ∈ lw_tbl := fun w h => wsL_law_in w (inlX2 w h)
theorem inlX3 : ∀ w ∈ wsX30, w ∈ wsL_law := fun _ h => List.mem_append_left _ (List.mem_append_left _ (List.mem_append_left _ (List.mem_append_right _ h)))
theorem inX3 : ∀ w ∈ wsX30, w ∈ lw_tbl := fun w h => wsL_law_in w (inlX3 w h)
theorem inlX4 : ∀ w ∈ wsX40, w ∈ wsL_law := fun _ h => List.mem_append_left _ (List.mem_append_left _ (List.mem_append_left _ (List.mem_append_left _ (List.mem_append_left _ (List.mem_append_left _ (List.mem_append_right _ h))))))
theorem inX4 : ∀ w ∈ wsX40, w ∈ lw_tbl := fun w h => wsL_law_in w (inlX4 w h)
theorem inlX5 : ∀ w ∈ wsX50, w ∈ wsL_law := fun _ h => List.mem_append_left _ (List.mem_append_left _ (List.mem_append_right _ h))
theorem inX5 : ∀ w ∈ wsX50, w ∈ lw_tbl := fun w h => wsL_law_in w (inlX5 w h)
theorem inlX6 : ∀ w ∈ wsX60, w ∈ wsL_law := fun _ h => List.mem_append_left _ (List.mem_append_right _ h)
theorem inX6 : ∀ w ∈ wsX60, w ∈ lw_tbl := fun w h => wsL_law_in w (inlX6 w h)
theorem inlX7 : ∀ w ∈ wsX70, w ∈ wsL_law := fun _ h => List.mem_append_left _ (List.mem_append_left _ (List.mem_append_left _ (List.mem_append_left _ (List.mem_append_left _ (List.mem_append_left _ (List.mem_append_left _ (List.mem_append_left _ (List.mem_append_left _ (List.mem_append_right _ h)))))))))
theorem inX7 : ∀ w ∈ wsX70, w ∈ lw_tbl := fun w h => wsL_law_in w (inlX7 w h)
theorem inlX8 : ∀ w ∈ wsX80, w ∈ wsL_law := fun _ h => List.mem_append_left _ (List.mem_append_left _ (List.mem_append_left _ (List.mem_append_left _ (List.mem_append_left _ (List.mem_append_left _ (List.mem_append_left _ (List.mem_append_left _ (List.mem_append_right _ h))))))))
theorem inX8 : ∀ w ∈ wsX80, w ∈ lw_tbl := fun w h => wsL_law_in w (inlX8 w h)
theorem inJ6 : ∀ w ∈ wsJ60, w ∈ lw_tbl := by decide +kernel
theorem inJ9 : ∀ w ∈ wsJ90, w ∈ lw_tbl := by decide +kernel
theorem inJ0 : ∀ w ∈ wsJ00, w ∈ lw_tbl := by decide +kernel
theorem inJ1 : ∀ w ∈ wsJ10, w ∈ lw_tbl := by decide +kernel
theorem inJ2 : ∀ w ∈ wsJ20, w ∈ lw_tbl := by decide +kernel
theorem inJ10 : ∀ w ∈ wsJ100, w ∈ lw_tbl := by decide +kernel
theorem inJ3 : ∀ w ∈ wsJ30, w ∈ lw_tbl := by decide +kernel
