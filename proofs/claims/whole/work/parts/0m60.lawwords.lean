theorem in_ps {big ws : List Cond} (ps : List Nat) (h : ws = ps.filterMap (fun i => big[i]?)) : ∀ w ∈ ws, w ∈ big := by
  intro w hw
  rw [h] at hw
  obtain ⟨i, -, hi⟩ := List.mem_filterMap.mp hw
  exact List.mem_of_getElem? hi
set_option maxRecDepth 20000 in
theorem lwi_wsL_law_r1 : ∀ w ∈ wsL_law_r1, w ∈ lw_tbl := in_ps [74, 75, 58, 1051, 1052, 68, 76, 77, 78, 79, 80, 81, 82, 83, 59, 296, 106, 297, 121, 122, 61, 298, 140, 141] (by decide +kernel)
set_option maxRecDepth 20000 in
theorem lwi_wsL_law_r2 : ∀ w ∈ wsL_law_r2, w ∈ lw_tbl := in_ps [62, 299, 300, 301, 302, 303, 85, 86, 87, 88, 89, 60, 105, 107, 109, 111, 91, 92, 93, 104, 94, 96, 124, 125] (by decide +kernel)
set_option maxRecDepth 20000 in
theorem lwi_wsL_law_r3 : ∀ w ∈ wsL_law_r3, w ∈ lw_tbl := in_ps [126, 127, 129, 130, 131, 143, 144, 145, 252, 254, 258, 260, 262, 146, 147, 63, 264, 172, 173, 64, 268, 204, 205, 65] (by decide +kernel)
set_option maxRecDepth 20000 in
theorem lwi_wsL_law_r4 : ∀ w ∈ wsL_law_r4, w ∈ lw_tbl := in_ps [271, 223, 224, 67, 273, 149, 150, 151, 152, 156, 159, 161, 175, 176, 177, 178, 182, 185, 187, 190, 206, 207, 208, 209] (by decide +kernel)
set_option maxRecDepth 20000 in
theorem lwi_wsL_law_r5 : ∀ w ∈ wsL_law_r5, w ∈ lw_tbl := in_ps [213, 214, 215, 210, 211, 66, 212, 226, 227, 228, 229, 231, 234, 237, 240, 1053, 1054, 1055, 1056, 1109, 1057, 1058, 1059, 1061] (by decide +kernel)
set_option maxRecDepth 20000 in
theorem lwi_wsL_law_r6 : ∀ w ∈ wsL_law_r6, w ∈ lw_tbl := in_ps [1110, 1062, 1063, 1072, 321, 322, 323, 324, 328, 97, 333, 325, 326, 327, 329, 330, 331, 332, 1111, 1112, 1113, 1114, 1115, 1119] (by decide +kernel)
set_option maxRecDepth 20000 in
theorem lwi_wsL_law_r7 : ∀ w ∈ wsL_law_r7, w ∈ lw_tbl := in_ps [1064, 1120, 1116, 1117, 1118, 334, 335, 336, 337, 110, 403, 108, 275, 338, 339, 340, 341, 98, 342, 344, 0, 345, 253, 255] (by decide +kernel)
set_option maxRecDepth 20000 in
theorem lwi_wsL_law_r8 : ∀ w ∈ wsL_law_r8, w ∈ lw_tbl := in_ps [259, 261, 346, 348, 1, 349, 350, 351, 352, 353, 354, 356, 2, 357, 358, 360, 3, 361, 363, 364, 365, 366, 179, 367] (by decide +kernel)
set_option maxRecDepth 20000 in
theorem lwi_wsL_law_r9 : ∀ w ∈ wsL_law_r9, w ∈ lw_tbl := in_ps [368, 369, 370, 371, 372, 69, 373, 374, 375, 376, 377, 378, 379, 380, 381, 382, 383, 385, 4, 386, 266, 160, 387, 388] (by decide +kernel)
set_option maxRecDepth 20000 in
theorem lwi_wsL_law_r10 : ∀ w ∈ wsL_law_r10, w ∈ lw_tbl := in_ps [389, 390, 391, 393, 5, 394, 276, 396, 397, 398, 399, 400, 401, 404, 405, 406, 407, 408, 409, 410, 411, 412, 414, 413] (by decide +kernel)
set_option maxRecDepth 20000 in
theorem lwi_wsL_law_r11 : ∀ w ∈ wsL_law_r11, w ∈ lw_tbl := in_ps [70, 415, 416, 417, 418, 419, 420, 421, 422, 423, 424, 425, 426, 427, 428, 429, 430, 431, 432, 433, 434, 435, 436, 437] (by decide +kernel)
set_option maxRecDepth 20000 in
theorem lwi_wsL_law_r12 : ∀ w ∈ wsL_law_r12, w ∈ lw_tbl := in_ps [1121, 1122, 1123, 1124, 1065, 1069, 1067, 1071, 1165, 1070, 1060, 1125, 1127, 28, 1128, 1066, 1068, 1133, 1134, 1135, 1136, 1129, 1131, 29] (by decide +kernel)
set_option maxRecDepth 20000 in
theorem lwi_wsL_law_r13 : ∀ w ∈ wsL_law_r13, w ∈ lw_tbl := in_ps [1132, 1137, 1139, 30, 1140, 1141, 1143, 31, 1144, 1145, 1147, 32, 1148, 1149, 1151, 33, 1152, 1153, 1155, 34, 1156, 1157, 1159, 35] (by decide +kernel)
set_option maxRecDepth 20000 in
theorem lwi_wsL_law_r14 : ∀ w ∈ wsL_law_r14, w ∈ lw_tbl := in_ps [1160, 1161, 1163, 36, 1164, 1166, 1167, 1168, 438, 439, 440, 441, 1169, 1170, 1171, 1172, 442, 443, 444, 445, 132, 451, 446, 447] (by decide +kernel)
set_option maxRecDepth 20000 in
theorem lwi_wsL_law_r15 : ∀ w ∈ wsL_law_r15, w ∈ lw_tbl := in_ps [448, 449, 450, 1173, 1174, 1175, 1176, 1177, 452, 453, 454, 455, 456, 457, 458, 459, 460, 461, 71, 462, 463, 465, 466, 467] (by decide +kernel)
set_option maxRecDepth 20000 in
theorem lwi_wsL_law_r16 : ∀ w ∈ wsL_law_r16, w ∈ lw_tbl := in_ps [468, 469, 470, 471, 472, 474, 475, 1178, 1179, 1180, 1181, 1189, 1182, 1184, 37, 1185, 1186, 1187, 1188, 1190, 1192, 38, 1193, 1194] (by decide +kernel)
set_option maxRecDepth 20000 in
theorem lwi_wsL_law_r17 : ∀ w ∈ wsL_law_r17, w ∈ lw_tbl := in_ps [1196, 39, 1197, 476, 477, 478, 479, 95, 480, 482, 6, 483, 484, 485, 486, 487, 489, 490, 491, 493, 7, 494, 257, 495] (by decide +kernel)
set_option maxRecDepth 20000 in
theorem lwi_wsL_law_r18 : ∀ w ∈ wsL_law_r18, w ∈ lw_tbl := in_ps [497, 8, 498, 499, 500, 501, 502, 238, 556, 685, 503, 504, 505, 506, 507, 508, 509, 510, 512, 514, 9, 515, 524, 233] (by decide +kernel)
set_option maxRecDepth 20000 in
theorem lwi_wsL_law_r19 : ∀ w ∈ wsL_law_r19, w ∈ lw_tbl := in_ps [154, 516, 517, 518, 519, 520, 521, 522, 523, 525, 526, 527, 528, 158, 529, 531, 10, 532, 533, 534, 535, 536, 537, 539] (by decide +kernel)
set_option maxRecDepth 20000 in
theorem lwi_wsL_law_r20 : ∀ w ∈ wsL_law_r20, w ∈ lw_tbl := in_ps [11, 540, 542, 543, 544, 545, 546, 547, 548, 549, 550, 551, 552, 553, 554, 555, 557, 558, 559, 560, 561, 562, 563, 564] (by decide +kernel)
set_option maxRecDepth 20000 in
theorem lwi_wsL_law_r21 : ∀ w ∈ wsL_law_r21, w ∈ lw_tbl := in_ps [565, 566, 567, 568, 569, 570, 571, 572, 573, 574, 575, 576, 577, 578, 579, 580, 581, 582, 583, 584, 585, 586, 587, 588] (by decide +kernel)
set_option maxRecDepth 20000 in
theorem lwi_wsL_law_r22 : ∀ w ∈ wsL_law_r22, w ∈ lw_tbl := in_ps [589, 590, 591, 592, 593, 594, 595, 597, 12, 598, 599, 600, 601, 602, 603, 604, 605, 606, 607, 608, 609, 610, 611, 183] (by decide +kernel)
set_option maxRecDepth 20000 in
theorem lwi_wsL_law_r23 : ∀ w ∈ wsL_law_r23, w ∈ lw_tbl := in_ps [612, 613, 614, 615, 616, 617, 618, 619, 620, 621, 622, 623, 624, 625, 626, 627, 628, 629, 630, 631, 632, 633, 634, 635] (by decide +kernel)
set_option maxRecDepth 20000 in
theorem lwi_wsL_law_r24 : ∀ w ∈ wsL_law_r24, w ∈ lw_tbl := in_ps [636, 637, 638, 639, 640, 189, 192, 641, 642, 643, 644, 645, 647, 649, 13, 650, 651, 653, 14, 654, 655, 656, 658, 15] (by decide +kernel)
set_option maxRecDepth 20000 in
theorem lwi_wsL_law_r25 : ∀ w ∈ wsL_law_r25, w ∈ lw_tbl := in_ps [659, 661, 662, 663, 660, 664, 666, 16, 667, 668, 669, 670, 671, 672, 674, 17, 675, 676, 677, 678, 679, 680, 681, 682] (by decide +kernel)
set_option maxRecDepth 20000 in
theorem lwi_wsL_law_r26 : ∀ w ∈ wsL_law_r26, w ∈ lw_tbl := in_ps [683, 684, 1198, 1199, 1200, 1201, 1202, 1204, 40, 1205, 1073, 1206, 1208, 41, 1209, 1210, 1212, 42, 1213, 1323, 1214, 1215, 1216, 1217] (by decide +kernel)
set_option maxRecDepth 20000 in
theorem lwi_wsL_law_r27 : ∀ w ∈ wsL_law_r27, w ∈ lw_tbl := in_ps [1218, 1219, 1220, 1227, 1257, 1221, 1222, 1223, 1224, 1225, 1226, 1228, 1229, 1230, 1231, 1232, 1233, 1234, 1235, 1236, 1237, 1238, 1239, 1240] (by decide +kernel)
set_option maxRecDepth 20000 in
theorem lwi_wsL_law_r28 : ∀ w ∈ wsL_law_r28, w ∈ lw_tbl := in_ps [1241, 1242, 1243, 1244, 1245, 1246, 1247, 1248, 1249, 1250, 1251, 1252, 1253, 1254, 1255, 1256, 1258, 1259, 1260, 1261, 1262, 1263, 1264, 1265] (by decide +kernel)
set_option maxRecDepth 20000 in
theorem lwi_wsL_law_r29 : ∀ w ∈ wsL_law_r29, w ∈ lw_tbl := in_ps [1266, 1267, 1268, 1269, 1270, 1271, 1272, 1273, 1274, 1275, 1276, 1277, 1278, 1279, 1280, 1281, 1282, 1283, 1284, 1285, 1286, 1287, 1288, 1289] (by decide +kernel)
set_option maxRecDepth 20000 in
theorem lwi_wsL_law_r30 : ∀ w ∈ wsL_law_r30, w ∈ lw_tbl := in_ps [1290, 1291, 1292, 1293, 1294, 1295, 1296, 1297, 1298, 1299, 1308, 1300, 1301, 1302, 1303, 1304, 1305, 1306, 1307, 1309, 1310, 1311, 1312, 1314] (by decide +kernel)
set_option maxRecDepth 20000 in
theorem lwi_wsL_law_r31 : ∀ w ∈ wsL_law_r31, w ∈ lw_tbl := in_ps [43, 1315, 1316, 1317, 1318, 1319, 1321, 44, 1322, 686, 687, 688, 689, 232, 690, 691, 692, 693, 694, 696, 697, 698, 699, 700] (by decide +kernel)
set_option maxRecDepth 20000 in
theorem lwi_wsL_law_r32 : ∀ w ∈ wsL_law_r32, w ∈ lw_tbl := in_ps [701, 703, 18, 704, 705, 707, 19, 708, 709, 711, 20, 712, 713, 714, 1324, 1325, 1326, 1327, 1328, 1329, 1331, 45, 1332, 1333] (by decide +kernel)
set_option maxRecDepth 20000 in
theorem lwi_wsL_law_r33 : ∀ w ∈ wsL_law_r33, w ∈ lw_tbl := in_ps [1334, 1335, 715, 716, 717, 718, 719, 720, 721, 722, 723, 1336, 1337, 1338, 1339, 724, 725, 726, 727, 728, 729, 730, 731, 732] (by decide +kernel)
set_option maxRecDepth 20000 in
theorem lwi_wsL_law_r34 : ∀ w ∈ wsL_law_r34, w ∈ lw_tbl := in_ps [734, 21, 735, 736, 738, 22, 739, 740, 741, 742, 743, 744, 745, 746, 747, 1340, 1341, 1342, 1343, 1344, 1345, 1346, 1347, 1348] (by decide +kernel)
set_option maxRecDepth 20000 in
theorem lwi_wsL_law_r35 : ∀ w ∈ wsL_law_r35, w ∈ lw_tbl := in_ps [1349, 1350, 748, 749, 750, 751, 752, 753, 754, 755, 756, 1351, 1352, 1353, 1354, 757, 758, 759, 760, 761, 762, 763, 764, 236] (by decide +kernel)
set_option maxRecDepth 20000 in
theorem lwi_wsL_law_r36 : ∀ w ∈ wsL_law_r36, w ∈ lw_tbl := in_ps [765, 1355, 1356, 1357, 1358, 1359, 766, 767, 768, 769, 770, 772, 23, 773, 267, 774, 775, 776, 777, 778, 779, 780, 781, 782] (by decide +kernel)
set_option maxRecDepth 20000 in
theorem lwi_wsL_law_r37 : ∀ w ∈ wsL_law_r37, w ∈ lw_tbl := in_ps [783, 784, 785, 72, 786, 787, 788, 789, 1360, 1361, 1362, 1363, 1364, 1366, 46, 1367, 1368, 1370, 47, 1371, 1372, 1373, 1374, 790] (by decide +kernel)
set_option maxRecDepth 20000 in
theorem lwi_wsL_law_r38 : ∀ w ∈ wsL_law_r38, w ∈ lw_tbl := in_ps [791, 792, 793, 1375, 1376, 1377, 1378, 794, 795, 796, 797, 162, 1379, 1380, 1381, 1382, 1383, 798, 799, 800, 801, 802, 803, 804] (by decide +kernel)
set_option maxRecDepth 20000 in
theorem lwi_wsL_law_r39 : ∀ w ∈ wsL_law_r39, w ∈ lw_tbl := in_ps [805, 806, 808, 24, 809, 810, 811, 812, 813, 814, 815, 816, 817, 818, 819, 820, 821, 822, 1384, 1385, 1386, 1387, 823, 824] (by decide +kernel)
set_option maxRecDepth 20000 in
theorem lwi_wsL_law_r40 : ∀ w ∈ wsL_law_r40, w ∈ lw_tbl := in_ps [825, 826, 844, 827, 828, 829, 830, 831, 832, 833, 834, 835, 836, 838, 25, 839, 840, 841, 842, 843, 845, 846, 847, 848] (by decide +kernel)
set_option maxRecDepth 20000 in
theorem lwi_wsL_law_r41 : ∀ w ∈ wsL_law_r41, w ∈ lw_tbl := in_ps [849, 851, 26, 852, 1388, 1389, 1390, 1391, 1398, 1392, 1393, 1394, 1395, 1396, 1397, 1399, 1400, 1401, 853, 854, 855, 856, 272, 868] (by decide +kernel)
set_option maxRecDepth 20000 in
theorem lwi_wsL_law_r42 : ∀ w ∈ wsL_law_r42, w ∈ lw_tbl := in_ps [857, 858, 859, 860, 861, 862, 863, 864, 865, 866, 867, 1402, 1403, 1404, 1405, 1413, 1406, 1408, 48, 1409, 1410, 1411, 1412, 869] (by decide +kernel)
set_option maxRecDepth 20000 in
theorem lwi_wsL_law_r43 : ∀ w ∈ wsL_law_r43, w ∈ lw_tbl := in_ps [870, 871, 872, 270, 184, 186, 188, 191, 873, 874, 875, 876, 877, 878, 879, 880, 1414, 1415, 1416, 1417, 1418, 1420, 49, 1421] (by decide +kernel)
set_option maxRecDepth 20000 in
theorem lwi_wsL_law_r44 : ∀ w ∈ wsL_law_r44, w ∈ lw_tbl := in_ps [1422, 1424, 50, 1425, 881, 882, 883, 884, 230, 239, 235, 885, 1426, 1427, 1428, 1429, 1430, 1431, 886, 887, 888, 889, 890, 891] (by decide +kernel)
set_option maxRecDepth 20000 in
theorem lwi_wsL_law_r45 : ∀ w ∈ wsL_law_r45, w ∈ lw_tbl := in_ps [892, 893, 1432, 1433, 1434, 1435, 1436, 1437, 1438, 894, 895, 896, 897, 898, 899, 900, 901, 902, 903, 905, 904, 1439, 1440, 1441] (by decide +kernel)
set_option maxRecDepth 20000 in
theorem lwi_wsL_law_r46 : ∀ w ∈ wsL_law_r46, w ∈ lw_tbl := in_ps [1442, 1443, 1444, 906, 907, 908, 909, 910, 911, 912, 913, 914, 916, 27, 917, 918, 919, 920, 921, 1445, 1446, 1447, 1448, 1449] (by decide +kernel)
set_option maxRecDepth 20000 in
theorem lwi_wsL_law_r47 : ∀ w ∈ wsL_law_r47, w ∈ lw_tbl := in_ps [1451, 51, 1452, 922, 923, 924, 925, 263, 181, 926, 927, 928, 929, 930, 931, 932, 933, 934, 935, 936, 937, 938, 939, 940] (by decide +kernel)
set_option maxRecDepth 20000 in
theorem lwi_wsL_law_r48 : ∀ w ∈ wsL_law_r48, w ∈ lw_tbl := in_ps [941, 942, 943, 944, 945, 946, 948, 949, 950, 951, 1453, 1454, 1455, 1456, 1457, 1459, 52, 1460, 1461, 1462, 1463, 1464, 1466, 53] (by decide +kernel)
set_option maxRecDepth 20000 in
theorem lwi_wsL_law_r49 : ∀ w ∈ wsL_law_r49, w ∈ lw_tbl := in_ps [1467, 1468, 1470, 54, 1471, 952, 953, 954, 955, 1472, 1473, 1474, 1475, 1476, 1477, 1478, 956, 957, 958, 959, 960, 1479, 1480, 1481] (by decide +kernel)
set_option maxRecDepth 20000 in
theorem lwi_wsL_law_r50 : ∀ w ∈ wsL_law_r50, w ∈ lw_tbl := in_ps [1482, 961, 962, 963, 964, 965, 966, 967, 968, 1483, 1484, 1485, 1486, 969, 970, 971, 972, 973, 974, 73, 975, 976, 274, 980] (by decide +kernel)
set_option maxRecDepth 20000 in
theorem lwi_wsL_law_r51 : ∀ w ∈ wsL_law_r51, w ∈ lw_tbl := in_ps [977, 978, 979, 1487, 1488, 1489, 1490, 981, 982, 983, 984, 985, 986, 987, 269, 180, 988, 989, 1491, 1492, 1493, 1494, 1495, 1497] (by decide +kernel)
set_option maxRecDepth 20000 in
theorem lwi_wsL_law_r52 : ∀ w ∈ wsL_law_r52, w ∈ lw_tbl := in_ps [55, 1498, 990, 991, 992, 993, 994, 995, 996, 997, 998, 265, 157, 999, 1000, 1001, 1002, 1003, 1004, 153, 1005, 1007, 1008, 1009] (by decide +kernel)
set_option maxRecDepth 20000 in
theorem lwi_wsL_law_r53 : ∀ w ∈ wsL_law_r53, w ∈ lw_tbl := in_ps [1010, 1011, 1012, 1013, 1499, 1500, 1501, 1502, 1503, 1504, 1505, 1507, 56, 1508, 1509, 1510, 1511, 1014, 1015, 1016, 1017, 1018, 1019, 1020] (by decide +kernel)
set_option maxRecDepth 20000 in
theorem lwi_wsL_law_r54 : ∀ w ∈ wsL_law_r54, w ∈ lw_tbl := in_ps [1021, 256, 1022, 1023, 1024, 1029, 1030, 1031, 1032, 1025, 1026, 1027, 1028, 1033, 1034, 1035, 1512, 1513, 1514, 1515, 1516, 1517, 1518, 1519] (by decide +kernel)
set_option maxRecDepth 20000 in
theorem lwi_wsL_law_r55 : ∀ w ∈ wsL_law_r55, w ∈ lw_tbl := in_ps [1520, 1521, 1522, 1523, 1524, 1036, 1037, 1038, 1039, 1040, 1041, 1042, 1525, 1526, 1527, 1528, 1043, 1044, 1045, 1046, 1529, 1530, 1531, 1532] (by decide +kernel)
set_option maxRecDepth 20000 in
theorem lwi_wsL_law_r56 : ∀ w ∈ wsL_law_r56, w ∈ lw_tbl := in_ps [1047, 1048, 1049, 1050, 155, 1533, 1534, 1535, 1536] (by decide +kernel)
set_option maxRecDepth 20000 in
theorem lwi_wsX100 : ∀ w ∈ wsX100, w ∈ lw_tbl := in_ps [304, 306, 308, 310, 312, 314, 316, 318] (by decide +kernel)
set_option maxRecDepth 20000 in
theorem lwi_wsX110 : ∀ w ∈ wsX110, w ∈ lw_tbl := in_ps [1074, 1076, 1078, 1080, 1082, 1084, 1086, 1088, 1090, 1092, 1094, 1096, 1098, 1100, 1102, 1104, 1106] (by decide +kernel)
set_option maxRecDepth 20000 in
theorem lwi_wsX70 : ∀ w ∈ wsX70, w ∈ lw_tbl := in_ps [112, 114, 116, 118] (by decide +kernel)
set_option maxRecDepth 20000 in
theorem lwi_wsX00 : ∀ w ∈ wsX00, w ∈ lw_tbl := in_ps [133, 135, 137] (by decide +kernel)
set_option maxRecDepth 20000 in
theorem lwi_wsX50 : ∀ w ∈ wsX50, w ∈ lw_tbl := in_ps [277, 279, 281, 283, 285, 287, 289, 291, 293] (by decide +kernel)
set_option maxRecDepth 20000 in
theorem lwi_wsX90 : ∀ w ∈ wsX90, w ∈ lw_tbl := in_ps [99, 101] (by decide +kernel)
set_option maxRecDepth 20000 in
theorem lwi_wsX80 : ∀ w ∈ wsX80, w ∈ lw_tbl := in_ps [163, 165, 167, 169] (by decide +kernel)
set_option maxRecDepth 20000 in
theorem lwi_wsX10 : ∀ w ∈ wsX10, w ∈ lw_tbl := in_ps [193, 195, 197, 199, 201] (by decide +kernel)
set_option maxRecDepth 20000 in
theorem lwi_wsX20 : ∀ w ∈ wsX20, w ∈ lw_tbl := in_ps [216, 218, 220] (by decide +kernel)
set_option maxRecDepth 20000 in
theorem lwi_wsX30 : ∀ w ∈ wsX30, w ∈ lw_tbl := in_ps [241, 243, 245, 247, 249] (by decide +kernel)
