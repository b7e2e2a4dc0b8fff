theorem in_ps {big ws : List Cond} (ps : List Nat) (h : ws = ps.filterMap (fun i => big[i]?)) : ∀ w ∈ ws, w ∈ big := by
  intro w hw
  rw [h] at hw
  obtain ⟨i, -, hi⟩ := List.mem_filterMap.mp hw
  exact List.mem_of_getElem? hi
set_option maxRecDepth 20000 in
theorem lwi_wsL_law_r1 : ∀ w ∈ wsL_law_r1, w ∈ lw_tbl := in_ps [74, 75, 58, 1045, 1046, 68, 76, 77, 78, 79, 80, 81, 82, 83, 59, 296, 106, 297, 121, 122, 61, 298, 140, 141] (by decide +kernel)
set_option maxRecDepth 20000 in
theorem lwi_wsL_law_r2 : ∀ w ∈ wsL_law_r2, w ∈ lw_tbl := in_ps [62, 299, 300, 301, 302, 303, 85, 86, 87, 88, 89, 60, 105, 107, 109, 111, 91, 92, 93, 104, 94, 96, 124, 125] (by decide +kernel)
set_option maxRecDepth 20000 in
theorem lwi_wsL_law_r3 : ∀ w ∈ wsL_law_r3, w ∈ lw_tbl := in_ps [126, 127, 129, 130, 131, 143, 144, 145, 253, 255, 259, 261, 263, 146, 147, 63, 265, 174, 175, 64, 269, 205, 206, 65] (by decide +kernel)
set_option maxRecDepth 20000 in
theorem lwi_wsL_law_r4 : ∀ w ∈ wsL_law_r4, w ∈ lw_tbl := in_ps [271, 224, 225, 67, 273, 149, 150, 151, 152, 156, 158, 173, 160, 177, 178, 179, 180, 183, 186, 188, 191, 207, 208, 209] (by decide +kernel)
set_option maxRecDepth 20000 in
theorem lwi_wsL_law_r5 : ∀ w ∈ wsL_law_r5, w ∈ lw_tbl := in_ps [210, 214, 215, 216, 211, 212, 66, 213, 227, 228, 229, 230, 232, 235, 238, 241, 1047, 1048, 1049, 1050, 1103, 1051, 1052, 1053] (by decide +kernel)
set_option maxRecDepth 20000 in
theorem lwi_wsL_law_r6 : ∀ w ∈ wsL_law_r6, w ∈ lw_tbl := in_ps [1055, 1056, 1057, 1066, 321, 322, 323, 324, 328, 97, 333, 325, 326, 327, 329, 330, 331, 332, 1104, 1105, 1106, 1107, 1108, 1112] (by decide +kernel)
set_option maxRecDepth 20000 in
theorem lwi_wsL_law_r7 : ∀ w ∈ wsL_law_r7, w ∈ lw_tbl := in_ps [1058, 1113, 1109, 1110, 1111, 334, 335, 336, 337, 110, 402, 108, 275, 338, 339, 340, 341, 98, 342, 344, 0, 345, 254, 256] (by decide +kernel)
set_option maxRecDepth 20000 in
theorem lwi_wsL_law_r8 : ∀ w ∈ wsL_law_r8, w ∈ lw_tbl := in_ps [260, 262, 346, 348, 1, 349, 350, 351, 352, 353, 354, 356, 2, 357, 358, 360, 3, 361, 363, 364, 365, 366, 181, 367] (by decide +kernel)
set_option maxRecDepth 20000 in
theorem lwi_wsL_law_r9 : ∀ w ∈ wsL_law_r9, w ∈ lw_tbl := in_ps [368, 369, 370, 371, 372, 69, 373, 374, 375, 376, 377, 378, 379, 380, 381, 382, 384, 4, 385, 267, 157, 386, 387, 388] (by decide +kernel)
set_option maxRecDepth 20000 in
theorem lwi_wsL_law_r10 : ∀ w ∈ wsL_law_r10, w ∈ lw_tbl := in_ps [389, 390, 392, 5, 393, 276, 395, 396, 397, 398, 399, 400, 403, 404, 405, 406, 407, 408, 409, 410, 411, 413, 412, 70] (by decide +kernel)
set_option maxRecDepth 20000 in
theorem lwi_wsL_law_r11 : ∀ w ∈ wsL_law_r11, w ∈ lw_tbl := in_ps [414, 415, 416, 417, 418, 419, 420, 421, 422, 423, 424, 425, 426, 427, 428, 429, 430, 431, 432, 433, 434, 435, 436, 1114] (by decide +kernel)
set_option maxRecDepth 20000 in
theorem lwi_wsL_law_r12 : ∀ w ∈ wsL_law_r12, w ∈ lw_tbl := in_ps [1115, 1116, 1117, 1059, 1063, 1061, 1065, 1158, 1064, 1054, 1118, 1120, 28, 1121, 1060, 1062, 1126, 1127, 1128, 1129, 1122, 1124, 29, 1125] (by decide +kernel)
set_option maxRecDepth 20000 in
theorem lwi_wsL_law_r13 : ∀ w ∈ wsL_law_r13, w ∈ lw_tbl := in_ps [1130, 1132, 30, 1133, 1134, 1136, 31, 1137, 1138, 1140, 32, 1141, 1142, 1144, 33, 1145, 1146, 1148, 34, 1149, 1150, 1152, 35, 1153] (by decide +kernel)
set_option maxRecDepth 20000 in
theorem lwi_wsL_law_r14 : ∀ w ∈ wsL_law_r14, w ∈ lw_tbl := in_ps [1154, 1156, 36, 1157, 1159, 1160, 1161, 437, 438, 439, 440, 1162, 1163, 1164, 1165, 441, 442, 443, 444, 132, 450, 445, 446, 447] (by decide +kernel)
set_option maxRecDepth 20000 in
theorem lwi_wsL_law_r15 : ∀ w ∈ wsL_law_r15, w ∈ lw_tbl := in_ps [448, 449, 1166, 1167, 1168, 1169, 1170, 451, 452, 453, 454, 455, 456, 457, 458, 459, 460, 71, 461, 462, 464, 465, 466, 467] (by decide +kernel)
set_option maxRecDepth 20000 in
theorem lwi_wsL_law_r16 : ∀ w ∈ wsL_law_r16, w ∈ lw_tbl := in_ps [468, 469, 470, 471, 473, 474, 1171, 1172, 1173, 1174, 1182, 1175, 1177, 37, 1178, 1179, 1180, 1181, 1183, 1185, 38, 1186, 1187, 1189] (by decide +kernel)
set_option maxRecDepth 20000 in
theorem lwi_wsL_law_r17 : ∀ w ∈ wsL_law_r17, w ∈ lw_tbl := in_ps [39, 1190, 475, 476, 477, 478, 95, 479, 481, 6, 482, 483, 484, 485, 486, 488, 489, 490, 492, 7, 493, 258, 494, 496] (by decide +kernel)
set_option maxRecDepth 20000 in
theorem lwi_wsL_law_r18 : ∀ w ∈ wsL_law_r18, w ∈ lw_tbl := in_ps [8, 497, 498, 499, 500, 501, 239, 559, 687, 502, 503, 504, 505, 506, 507, 508, 509, 511, 513, 9, 514, 523, 234, 154] (by decide +kernel)
set_option maxRecDepth 20000 in
theorem lwi_wsL_law_r19 : ∀ w ∈ wsL_law_r19, w ∈ lw_tbl := in_ps [515, 516, 517, 518, 519, 520, 521, 522, 524, 525, 526, 527, 528, 529, 530, 531, 532, 534, 10, 535, 536, 537, 538, 539] (by decide +kernel)
set_option maxRecDepth 20000 in
theorem lwi_wsL_law_r20 : ∀ w ∈ wsL_law_r20, w ∈ lw_tbl := in_ps [540, 542, 11, 543, 545, 546, 547, 548, 549, 550, 551, 552, 553, 554, 555, 556, 557, 558, 560, 561, 562, 563, 564, 565] (by decide +kernel)
set_option maxRecDepth 20000 in
theorem lwi_wsL_law_r21 : ∀ w ∈ wsL_law_r21, w ∈ lw_tbl := in_ps [566, 567, 568, 569, 570, 571, 572, 573, 574, 575, 576, 577, 578, 579, 580, 581, 582, 583, 584, 585, 586, 587, 588, 589] (by decide +kernel)
set_option maxRecDepth 20000 in
theorem lwi_wsL_law_r22 : ∀ w ∈ wsL_law_r22, w ∈ lw_tbl := in_ps [590, 591, 592, 593, 594, 595, 596, 597, 598, 600, 12, 601, 602, 603, 604, 605, 606, 607, 608, 609, 610, 611, 612, 613] (by decide +kernel)
set_option maxRecDepth 20000 in
theorem lwi_wsL_law_r23 : ∀ w ∈ wsL_law_r23, w ∈ lw_tbl := in_ps [614, 184, 615, 616, 617, 618, 619, 620, 621, 622, 623, 624, 625, 626, 627, 628, 629, 630, 631, 632, 633, 634, 635, 636] (by decide +kernel)
set_option maxRecDepth 20000 in
theorem lwi_wsL_law_r24 : ∀ w ∈ wsL_law_r24, w ∈ lw_tbl := in_ps [637, 638, 639, 640, 641, 642, 643, 190, 193, 644, 645, 646, 647, 648, 649, 651, 13, 652, 653, 655, 14, 656, 657, 658] (by decide +kernel)
set_option maxRecDepth 20000 in
theorem lwi_wsL_law_r25 : ∀ w ∈ wsL_law_r25, w ∈ lw_tbl := in_ps [660, 15, 661, 663, 664, 665, 662, 666, 668, 16, 669, 670, 671, 672, 673, 674, 676, 17, 677, 163, 678, 679, 680, 681] (by decide +kernel)
set_option maxRecDepth 20000 in
theorem lwi_wsL_law_r26 : ∀ w ∈ wsL_law_r26, w ∈ lw_tbl := in_ps [682, 683, 684, 685, 686, 1191, 1192, 1193, 1194, 1195, 1197, 40, 1198, 1067, 1199, 1201, 41, 1202, 1203, 1205, 42, 1206, 1316, 1207] (by decide +kernel)
set_option maxRecDepth 20000 in
theorem lwi_wsL_law_r27 : ∀ w ∈ wsL_law_r27, w ∈ lw_tbl := in_ps [1208, 1209, 1210, 1211, 1212, 1213, 1220, 1250, 1214, 1215, 1216, 1217, 1218, 1219, 1221, 1222, 1223, 1224, 1225, 1226, 1227, 1228, 1229, 1230] (by decide +kernel)
set_option maxRecDepth 20000 in
theorem lwi_wsL_law_r28 : ∀ w ∈ wsL_law_r28, w ∈ lw_tbl := in_ps [1231, 1232, 1233, 1234, 1235, 1236, 1237, 1238, 1239, 1240, 1241, 1242, 1243, 1244, 1245, 1246, 1247, 1248, 1249, 1251, 1252, 1253, 1254, 1255] (by decide +kernel)
set_option maxRecDepth 20000 in
theorem lwi_wsL_law_r29 : ∀ w ∈ wsL_law_r29, w ∈ lw_tbl := in_ps [1256, 1257, 1258, 1259, 1260, 1261, 1262, 1263, 1264, 1265, 1266, 1267, 1268, 1269, 1270, 1271, 1272, 1273, 1274, 1275, 1276, 1277, 1278, 1279] (by decide +kernel)
set_option maxRecDepth 20000 in
theorem lwi_wsL_law_r30 : ∀ w ∈ wsL_law_r30, w ∈ lw_tbl := in_ps [1280, 1281, 1282, 1283, 1284, 1285, 1286, 1287, 1288, 1289, 1290, 1291, 1292, 1301, 1293, 1294, 1295, 1296, 1297, 1298, 1299, 1300, 1302, 1303] (by decide +kernel)
set_option maxRecDepth 20000 in
theorem lwi_wsL_law_r31 : ∀ w ∈ wsL_law_r31, w ∈ lw_tbl := in_ps [1304, 1305, 1307, 43, 1308, 1309, 1310, 1311, 1312, 1314, 44, 1315, 688, 689, 690, 691, 233, 692, 693, 694, 695, 696, 698, 699] (by decide +kernel)
set_option maxRecDepth 20000 in
theorem lwi_wsL_law_r32 : ∀ w ∈ wsL_law_r32, w ∈ lw_tbl := in_ps [700, 701, 702, 703, 705, 18, 706, 707, 709, 19, 710, 711, 713, 20, 714, 715, 716, 1317, 1318, 1319, 1320, 1321, 1322, 1324] (by decide +kernel)
set_option maxRecDepth 20000 in
theorem lwi_wsL_law_r33 : ∀ w ∈ wsL_law_r33, w ∈ lw_tbl := in_ps [45, 1325, 1326, 1327, 1328, 717, 718, 719, 720, 721, 722, 723, 724, 725, 1329, 1330, 1331, 1332, 726, 727, 728, 729, 730, 731] (by decide +kernel)
set_option maxRecDepth 20000 in
theorem lwi_wsL_law_r34 : ∀ w ∈ wsL_law_r34, w ∈ lw_tbl := in_ps [732, 733, 734, 736, 21, 737, 738, 740, 22, 741, 742, 743, 744, 745, 746, 747, 748, 749, 1333, 1334, 1335, 1336, 1337, 1338] (by decide +kernel)
set_option maxRecDepth 20000 in
theorem lwi_wsL_law_r35 : ∀ w ∈ wsL_law_r35, w ∈ lw_tbl := in_ps [1339, 1340, 1341, 1342, 1343, 750, 751, 752, 753, 754, 755, 756, 757, 758, 1344, 1345, 1346, 1347, 759, 760, 761, 762, 763, 764] (by decide +kernel)
set_option maxRecDepth 20000 in
theorem lwi_wsL_law_r36 : ∀ w ∈ wsL_law_r36, w ∈ lw_tbl := in_ps [765, 766, 237, 767, 1348, 1349, 1350, 1351, 1352, 768, 769, 770, 771, 772, 774, 23, 775, 268, 162, 776, 777, 778, 779, 780] (by decide +kernel)
set_option maxRecDepth 20000 in
theorem lwi_wsL_law_r37 : ∀ w ∈ wsL_law_r37, w ∈ lw_tbl := in_ps [781, 782, 783, 72, 784, 785, 786, 787, 1353, 1354, 1355, 1356, 1357, 1359, 46, 1360, 1361, 1363, 47, 1364, 1365, 1366, 1367, 788] (by decide +kernel)
set_option maxRecDepth 20000 in
theorem lwi_wsL_law_r38 : ∀ w ∈ wsL_law_r38, w ∈ lw_tbl := in_ps [789, 790, 791, 1368, 1369, 1370, 1371, 792, 793, 794, 795, 159, 1372, 1373, 1374, 1375, 1376, 796, 797, 798, 799, 800, 801, 802] (by decide +kernel)
set_option maxRecDepth 20000 in
theorem lwi_wsL_law_r39 : ∀ w ∈ wsL_law_r39, w ∈ lw_tbl := in_ps [803, 804, 806, 24, 807, 808, 809, 810, 811, 812, 813, 814, 815, 816, 817, 818, 819, 820, 1377, 1378, 1379, 1380, 821, 822] (by decide +kernel)
set_option maxRecDepth 20000 in
theorem lwi_wsL_law_r40 : ∀ w ∈ wsL_law_r40, w ∈ lw_tbl := in_ps [823, 824, 838, 825, 826, 827, 828, 829, 830, 832, 25, 833, 834, 835, 836, 837, 839, 840, 841, 842, 843, 845, 26, 846] (by decide +kernel)
set_option maxRecDepth 20000 in
theorem lwi_wsL_law_r41 : ∀ w ∈ wsL_law_r41, w ∈ lw_tbl := in_ps [1381, 1382, 1383, 1384, 1391, 1385, 1386, 1387, 1388, 1389, 1390, 1392, 1393, 1394, 847, 848, 849, 850, 272, 862, 851, 852, 853, 854] (by decide +kernel)
set_option maxRecDepth 20000 in
theorem lwi_wsL_law_r42 : ∀ w ∈ wsL_law_r42, w ∈ lw_tbl := in_ps [855, 856, 857, 858, 859, 860, 861, 1395, 1396, 1397, 1398, 1406, 1399, 1401, 48, 1402, 1403, 1404, 1405, 863, 864, 865, 866, 270] (by decide +kernel)
set_option maxRecDepth 20000 in
theorem lwi_wsL_law_r43 : ∀ w ∈ wsL_law_r43, w ∈ lw_tbl := in_ps [185, 187, 189, 192, 867, 868, 869, 870, 871, 872, 873, 874, 1407, 1408, 1409, 1410, 1411, 1413, 49, 1414, 1415, 1417, 50, 1418] (by decide +kernel)
set_option maxRecDepth 20000 in
theorem lwi_wsL_law_r44 : ∀ w ∈ wsL_law_r44, w ∈ lw_tbl := in_ps [875, 876, 877, 878, 231, 240, 236, 879, 1419, 1420, 1421, 1422, 1423, 1424, 880, 881, 882, 883, 884, 885, 886, 887, 1425, 1426] (by decide +kernel)
set_option maxRecDepth 20000 in
theorem lwi_wsL_law_r45 : ∀ w ∈ wsL_law_r45, w ∈ lw_tbl := in_ps [1427, 1428, 1429, 1430, 1431, 888, 889, 890, 891, 892, 893, 894, 895, 896, 897, 899, 898, 1432, 1433, 1434, 1435, 1436, 1437, 900] (by decide +kernel)
set_option maxRecDepth 20000 in
theorem lwi_wsL_law_r46 : ∀ w ∈ wsL_law_r46, w ∈ lw_tbl := in_ps [901, 902, 903, 904, 905, 906, 907, 908, 910, 27, 911, 912, 913, 914, 915, 1438, 1439, 1440, 1441, 1442, 1444, 51, 1445, 916] (by decide +kernel)
set_option maxRecDepth 20000 in
theorem lwi_wsL_law_r47 : ∀ w ∈ wsL_law_r47, w ∈ lw_tbl := in_ps [917, 918, 919, 264, 182, 920, 921, 922, 923, 924, 925, 926, 927, 928, 929, 930, 931, 932, 933, 934, 935, 936, 937, 938] (by decide +kernel)
set_option maxRecDepth 20000 in
theorem lwi_wsL_law_r48 : ∀ w ∈ wsL_law_r48, w ∈ lw_tbl := in_ps [939, 940, 942, 943, 944, 945, 1446, 1447, 1448, 1449, 1450, 1452, 52, 1453, 1454, 1455, 1456, 1457, 1459, 53, 1460, 1461, 1463, 54] (by decide +kernel)
set_option maxRecDepth 20000 in
theorem lwi_wsL_law_r49 : ∀ w ∈ wsL_law_r49, w ∈ lw_tbl := in_ps [1464, 946, 947, 948, 949, 1465, 1466, 1467, 1468, 1469, 1470, 1471, 950, 951, 952, 953, 954, 1472, 1473, 1474, 1475, 955, 956, 957] (by decide +kernel)
set_option maxRecDepth 20000 in
theorem lwi_wsL_law_r50 : ∀ w ∈ wsL_law_r50, w ∈ lw_tbl := in_ps [958, 959, 960, 961, 962, 1476, 1477, 1478, 1479, 963, 964, 965, 966, 967, 968, 73, 969, 970, 274, 974, 971, 972, 973, 1480] (by decide +kernel)
set_option maxRecDepth 20000 in
theorem lwi_wsL_law_r51 : ∀ w ∈ wsL_law_r51, w ∈ lw_tbl := in_ps [1481, 1482, 1483, 975, 976, 977, 978, 979, 980, 981, 982, 983, 1484, 1485, 1486, 1487, 1488, 1490, 55, 1491, 984, 985, 986, 987] (by decide +kernel)
set_option maxRecDepth 20000 in
theorem lwi_wsL_law_r52 : ∀ w ∈ wsL_law_r52, w ∈ lw_tbl := in_ps [988, 989, 990, 991, 992, 266, 993, 994, 995, 996, 997, 998, 999, 153, 161, 1001, 1002, 1003, 1004, 1005, 1006, 1007, 1492, 1493] (by decide +kernel)
set_option maxRecDepth 20000 in
theorem lwi_wsL_law_r53 : ∀ w ∈ wsL_law_r53, w ∈ lw_tbl := in_ps [1494, 1495, 1496, 1497, 1498, 1500, 56, 1501, 1502, 1503, 1504, 1008, 1009, 1010, 1011, 1012, 1013, 1014, 1015, 257, 1016, 1017, 1018, 1023] (by decide +kernel)
set_option maxRecDepth 20000 in
theorem lwi_wsL_law_r54 : ∀ w ∈ wsL_law_r54, w ∈ lw_tbl := in_ps [1024, 1025, 1026, 1019, 1020, 1021, 1022, 1027, 1028, 1029, 1505, 1506, 1507, 1508, 1509, 1510, 1511, 1512, 1513, 1514, 1515, 1516, 1517, 1030] (by decide +kernel)
set_option maxRecDepth 20000 in
theorem lwi_wsL_law_r55 : ∀ w ∈ wsL_law_r55, w ∈ lw_tbl := in_ps [1031, 1032, 1033, 1034, 1035, 1036, 1518, 1519, 1520, 1521, 1037, 1038, 1039, 1040, 1522, 1523, 1524, 1525, 1041, 1042, 1043, 1044, 155, 1526] (by decide +kernel)
set_option maxRecDepth 20000 in
theorem lwi_wsL_law_r56 : ∀ w ∈ wsL_law_r56, w ∈ lw_tbl := in_ps [1527, 1528, 1529] (by decide +kernel)
set_option maxRecDepth 20000 in
theorem lwi_wsX100 : ∀ w ∈ wsX100, w ∈ lw_tbl := in_ps [304, 306, 308, 310, 312, 314, 316, 318] (by decide +kernel)
set_option maxRecDepth 20000 in
theorem lwi_wsX110 : ∀ w ∈ wsX110, w ∈ lw_tbl := in_ps [1068, 1070, 1072, 1074, 1076, 1078, 1080, 1082, 1084, 1086, 1088, 1090, 1092, 1094, 1096, 1098, 1100] (by decide +kernel)
set_option maxRecDepth 20000 in
theorem lwi_wsX70 : ∀ w ∈ wsX70, w ∈ lw_tbl := in_ps [112, 114, 116, 118] (by decide +kernel)
set_option maxRecDepth 20000 in
theorem lwi_wsX00 : ∀ w ∈ wsX00, w ∈ lw_tbl := in_ps [133, 135, 137] (by decide +kernel)
set_option maxRecDepth 20000 in
theorem lwi_wsX50 : ∀ w ∈ wsX50, w ∈ lw_tbl := in_ps [277, 279, 281, 283, 285, 287, 289, 291, 293] (by decide +kernel)
set_option maxRecDepth 20000 in
theorem lwi_wsX90 : ∀ w ∈ wsX90, w ∈ lw_tbl := in_ps [99, 101] (by decide +kernel)
set_option maxRecDepth 20000 in
theorem lwi_wsX80 : ∀ w ∈ wsX80, w ∈ lw_tbl := in_ps [164, 166, 168, 170] (by decide +kernel)
set_option maxRecDepth 20000 in
theorem lwi_wsX10 : ∀ w ∈ wsX10, w ∈ lw_tbl := in_ps [194, 196, 198, 200, 202] (by decide +kernel)
set_option maxRecDepth 20000 in
theorem lwi_wsX20 : ∀ w ∈ wsX20, w ∈ lw_tbl := in_ps [217, 219, 221] (by decide +kernel)
set_option maxRecDepth 20000 in
theorem lwi_wsX30 : ∀ w ∈ wsX30, w ∈ lw_tbl := in_ps [242, 244, 246, 248, 250] (by decide +kernel)
